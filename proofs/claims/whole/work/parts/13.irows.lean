-- ONE INSTRUCTION as an equivalence, by kind
def XP (xs : Nat → Int32) (L d mi : Nat) (ou : Out) (res : Res) : Prop := match ou with
  | none => False
  | some (.inl st') => X xs L d mi st' res
  | some (.inr (.inl q)) => ∃ r : Res, Rn xs L d q.1 q.2.1 q.2.2.2.2.2 r ∧ X xs L d mi (q.2.2.1, q.2.2.2.1, r.1.toList ++ q.2.2.2.2.1, r.2) res
  | some (.inr (.inr r)) => res = r
section XI
variable {xs : Nat → Int32} {L d mi pc k ln : Nat} {ns : List Nat} {sw : List (Int32 × Nat)} {lo : Lo} {sk : List AV} {h : Hp} {res : Res}
theorem X_eq {st : St} : X xs L d mi st res ↔ XP xs L d mi (am_step xs L mi st) res := by
  constructor
  · rintro ⟨f, hf⟩
    cases f with
    | zero => exact hf.elim
    | succ f =>
      unfold Ex at hf
      cases hs : am_step xs L mi st with
      | none => rw [hs] at hf; exact hf.elim
      | some ou =>
        rw [hs] at hf
        rcases ou with st' | q | r
        · exact ⟨f, hf⟩
        · obtain ⟨r, h1, h2⟩ := hf
          exact ⟨r, h1, f, h2⟩
        · exact hf
  · intro hx
    cases hs : am_step xs L mi st with
    | none => rw [hs] at hx; exact hx.elim
    | some ou =>
      rw [hs] at hx
      rcases ou with st' | q | r
      · obtain ⟨f, hf⟩ := hx
        refine ⟨f + 1, ?_⟩
        unfold Ex
        rw [hs]
        exact hf
      · obtain ⟨r, h1, f, hf⟩ := hx
        refine ⟨f + 1, ?_⟩
        unfold Ex
        rw [hs]
        exact ⟨r, h1, hf⟩
      · refine ⟨1, ?_⟩
        unfold Ex
        rw [hs]
        exact hx
theorem X_do {i : Instr} {ou : Out} (hc : am_cd mi pc = some (i, ln, ns, sw)) (hd : am_do xs L (am_ret mi) i ns sw (pc + ln) lo sk h = ou) : X xs L d mi (pc, lo, sk, h) res ↔ XP xs L d mi ou res := by
  rw [X_eq]
  unfold am_step
  simp only [hc]
  rw [← hd]
theorem i_iconst {n : Int} {v : Int32} {z : Nat} (hc : am_cd mi pc = some (.iconst n, ln, ns, [(v, z)])) : X xs L d mi (pc, lo, sk, h) res ↔ X xs L d mi (pc + ln, lo, .inl v :: sk, h) res := X_do hc (rfl)
theorem i_bipush {n : Int} {v : Int32} {z : Nat} (hc : am_cd mi pc = some (.bipush n, ln, ns, [(v, z)])) : X xs L d mi (pc, lo, sk, h) res ↔ X xs L d mi (pc + ln, lo, .inl v :: sk, h) res := X_do hc (rfl)
theorem i_sipush {n : Int} {v : Int32} {z : Nat} (hc : am_cd mi pc = some (.sipush n, ln, ns, [(v, z)])) : X xs L d mi (pc, lo, sk, h) res ↔ X xs L d mi (pc + ln, lo, .inl v :: sk, h) res := X_do hc (rfl)
theorem i_ldc {n : Nat} {v : Int32} {z : Nat} (hc : am_cd mi pc = some (.ldc n, ln, ns, [(v, z)])) : X xs L d mi (pc, lo, sk, h) res ↔ X xs L d mi (pc + ln, lo, .inl v :: sk, h) res := X_do hc (rfl)
theorem i_iload {x : Int32} (hc : am_cd mi pc = some (.iload k, ln, ns, sw)) (hl : lo[k]? = some (some (.inl x))) : X xs L d mi (pc, lo, sk, h) res ↔ X xs L d mi (pc + ln, lo, .inl x :: sk, h) res := X_do (ou := some (.inl (pc + ln, lo, .inl x :: sk, h))) hc (by simp only [am_do, a_ild, hl])
theorem i_iload_n {x : Int32} {j : Fin 4} (hc : am_cd mi pc = some (.iload_n j, ln, ns, sw)) (hl : lo[j.val]? = some (some (.inl x))) : X xs L d mi (pc, lo, sk, h) res ↔ X xs L d mi (pc + ln, lo, .inl x :: sk, h) res := X_do (ou := some (.inl (pc + ln, lo, .inl x :: sk, h))) hc (by simp only [am_do, a_ild, hl])
theorem i_aload {x : Option Nat} (hc : am_cd mi pc = some (.aload k, ln, ns, sw)) (hl : lo[k]? = some (some (.inr x))) : X xs L d mi (pc, lo, sk, h) res ↔ X xs L d mi (pc + ln, lo, .inr x :: sk, h) res := X_do (ou := some (.inl (pc + ln, lo, .inr x :: sk, h))) hc (by simp only [am_do, a_ald, hl])
theorem i_aload_n {x : Option Nat} {j : Fin 4} (hc : am_cd mi pc = some (.aload_n j, ln, ns, sw)) (hl : lo[j.val]? = some (some (.inr x))) : X xs L d mi (pc, lo, sk, h) res ↔ X xs L d mi (pc + ln, lo, .inr x :: sk, h) res := X_do (ou := some (.inl (pc + ln, lo, .inr x :: sk, h))) hc (by simp only [am_do, a_ald, hl])
theorem i_istore {x : Int32} {lo2 : Lo} (hc : am_cd mi pc = some (.istore k, ln, ns, sw)) (hk : k < lo.length) (hl : lo.set k (some (.inl x)) = lo2) : X xs L d mi (pc, lo, .inl x :: sk, h) res ↔ X xs L d mi (pc + ln, lo2, sk, h) res := X_do (ou := some (.inl (pc + ln, lo2, sk, h))) hc (by simp only [am_do, a_ist, hk, if_true, hl])
theorem i_istore_n {x : Int32} {lo2 : Lo} {j : Fin 4} (hc : am_cd mi pc = some (.istore_n j, ln, ns, sw)) (hk : j.val < lo.length) (hl : lo.set j.val (some (.inl x)) = lo2) : X xs L d mi (pc, lo, .inl x :: sk, h) res ↔ X xs L d mi (pc + ln, lo2, sk, h) res := X_do (ou := some (.inl (pc + ln, lo2, sk, h))) hc (by simp only [am_do, a_ist, hk, if_true, hl])
theorem i_astore {x : Option Nat} {lo2 : Lo} (hc : am_cd mi pc = some (.astore k, ln, ns, sw)) (hk : k < lo.length) (hl : lo.set k (some (.inr x)) = lo2) : X xs L d mi (pc, lo, .inr x :: sk, h) res ↔ X xs L d mi (pc + ln, lo2, sk, h) res := X_do (ou := some (.inl (pc + ln, lo2, sk, h))) hc (by simp only [am_do, a_ast, hk, if_true, hl])
theorem i_astore_n {x : Option Nat} {lo2 : Lo} {j : Fin 4} (hc : am_cd mi pc = some (.astore_n j, ln, ns, sw)) (hk : j.val < lo.length) (hl : lo.set j.val (some (.inr x)) = lo2) : X xs L d mi (pc, lo, .inr x :: sk, h) res ↔ X xs L d mi (pc + ln, lo2, sk, h) res := X_do (ou := some (.inl (pc + ln, lo2, sk, h))) hc (by simp only [am_do, a_ast, hk, if_true, hl])
theorem i_iinc {x v : Int32} {z : Nat} {n : Int} {lo2 : Lo} (hc : am_cd mi pc = some (.iinc k n, ln, ns, [(v, z)])) (hl : lo[k]? = some (some (.inl x))) (hs : lo.set k (some (.inl (x + v))) = lo2) : X xs L d mi (pc, lo, sk, h) res ↔ X xs L d mi (pc + ln, lo2, sk, h) res := X_do (ou := some (.inl (pc + ln, lo2, sk, h))) hc (by simp only [am_do, a_inc, hl, hs])
theorem i_iadd {x y : Int32} (hc : am_cd mi pc = some (.iadd, ln, ns, sw)) : X xs L d mi (pc, lo, .inl y :: .inl x :: sk, h) res ↔ X xs L d mi (pc + ln, lo, .inl (x + y) :: sk, h) res := X_do hc (rfl)
theorem i_isub {x y : Int32} (hc : am_cd mi pc = some (.isub, ln, ns, sw)) : X xs L d mi (pc, lo, .inl y :: .inl x :: sk, h) res ↔ X xs L d mi (pc + ln, lo, .inl (x - y) :: sk, h) res := X_do hc (rfl)
theorem i_imul {x y : Int32} (hc : am_cd mi pc = some (.imul, ln, ns, sw)) : X xs L d mi (pc, lo, .inl y :: .inl x :: sk, h) res ↔ X xs L d mi (pc + ln, lo, .inl (x * y) :: sk, h) res := X_do hc (rfl)
theorem i_iand {x y : Int32} (hc : am_cd mi pc = some (.iand, ln, ns, sw)) : X xs L d mi (pc, lo, .inl y :: .inl x :: sk, h) res ↔ X xs L d mi (pc + ln, lo, .inl (x &&& y) :: sk, h) res := X_do hc (rfl)
theorem i_ior {x y : Int32} (hc : am_cd mi pc = some (.ior, ln, ns, sw)) : X xs L d mi (pc, lo, .inl y :: .inl x :: sk, h) res ↔ X xs L d mi (pc + ln, lo, .inl (x ||| y) :: sk, h) res := X_do hc (rfl)
theorem i_ishl {x y : Int32} (hc : am_cd mi pc = some (.ishl, ln, ns, sw)) : X xs L d mi (pc, lo, .inl y :: .inl x :: sk, h) res ↔ X xs L d mi (pc + ln, lo, .inl (x <<< (y &&& 31)) :: sk, h) res := X_do hc (rfl)
theorem i_ishr {x y : Int32} (hc : am_cd mi pc = some (.ishr, ln, ns, sw)) : X xs L d mi (pc, lo, .inl y :: .inl x :: sk, h) res ↔ X xs L d mi (pc + ln, lo, .inl (x >>> (y &&& 31)) :: sk, h) res := X_do hc (rfl)
theorem i_idiv {x y : Int32} (hc : am_cd mi pc = some (.idiv, ln, ns, sw)) : X xs L d mi (pc, lo, .inl y :: .inl x :: sk, h) res ↔ (¬ y = 0) ∧ X xs L d mi (pc + ln, lo, .inl (x / y) :: sk, h) res := by
  by_cases hq : y = 0
  · rw [X_do hc (by simp only [am_do, a_dvd]; rw [if_pos hq])]
    exact ⟨fun z => z.elim, fun z => z.1 hq⟩
  · rw [X_do hc (by simp only [am_do, a_dvd]; rw [if_neg hq])]
    exact ⟨fun z => ⟨hq, z⟩, fun z => z.2⟩
theorem i_irem {x y : Int32} (hc : am_cd mi pc = some (.irem, ln, ns, sw)) : X xs L d mi (pc, lo, .inl y :: .inl x :: sk, h) res ↔ (¬ y = 0) ∧ X xs L d mi (pc + ln, lo, .inl (x - x / y * y) :: sk, h) res := by
  by_cases hq : y = 0
  · rw [X_do hc (by simp only [am_do, a_dvd]; rw [if_pos hq])]
    exact ⟨fun z => z.elim, fun z => z.1 hq⟩
  · rw [X_do hc (by simp only [am_do, a_dvd]; rw [if_neg hq])]
    exact ⟨fun z => ⟨hq, z⟩, fun z => z.2⟩
theorem i_i2c {x : Int32} (hc : am_cd mi pc = some (.i2c, ln, ns, sw)) : X xs L d mi (pc, lo, .inl x :: sk, h) res ↔ X xs L d mi (pc + ln, lo, .inl (x.toUInt32 % 65536).toInt32 :: sk, h) res := X_do hc (rfl)
theorem i_if_eq {x : Int32} {off : Int} {t : Nat} (hc : am_cd mi pc = some (.ifCond .eq off, ln, [t], sw)) : X xs L d mi (pc, lo, .inl x :: sk, h) res ↔ (if x = 0 then X xs L d mi (t, lo, sk, h) res else X xs L d mi (pc + ln, lo, sk, h) res) := by
  by_cases hq : x = 0
  · rw [X_do hc (ou := some (.inl (t, lo, sk, h))) (by simp only [am_do, a_if]; simp [hq]), if_pos hq]
    exact Iff.rfl
  · rw [X_do hc (ou := some (.inl (pc + ln, lo, sk, h))) (by simp only [am_do, a_if]; simp [hq]), if_neg hq]
    exact Iff.rfl
theorem i_if_ne {x : Int32} {off : Int} {t : Nat} (hc : am_cd mi pc = some (.ifCond .ne off, ln, [t], sw)) : X xs L d mi (pc, lo, .inl x :: sk, h) res ↔ (if x = 0 then X xs L d mi (pc + ln, lo, sk, h) res else X xs L d mi (t, lo, sk, h) res) := by
  by_cases hq : x = 0
  · rw [X_do hc (ou := some (.inl (pc + ln, lo, sk, h))) (by simp only [am_do, a_if]; simp [hq]), if_pos hq]
    exact Iff.rfl
  · rw [X_do hc (ou := some (.inl (t, lo, sk, h))) (by simp only [am_do, a_if]; simp [hq]), if_neg hq]
    exact Iff.rfl
theorem i_if_lt {x : Int32} {off : Int} {t : Nat} (hc : am_cd mi pc = some (.ifCond .lt off, ln, [t], sw)) : X xs L d mi (pc, lo, .inl x :: sk, h) res ↔ (if x < 0 then X xs L d mi (t, lo, sk, h) res else X xs L d mi (pc + ln, lo, sk, h) res) := by
  by_cases hq : x < 0
  · rw [X_do hc (ou := some (.inl (t, lo, sk, h))) (by simp only [am_do, a_if]; simp [hq]), if_pos hq]
    exact Iff.rfl
  · rw [X_do hc (ou := some (.inl (pc + ln, lo, sk, h))) (by simp only [am_do, a_if]; simp [hq]), if_neg hq]
    exact Iff.rfl
theorem i_if_ge {x : Int32} {off : Int} {t : Nat} (hc : am_cd mi pc = some (.ifCond .ge off, ln, [t], sw)) : X xs L d mi (pc, lo, .inl x :: sk, h) res ↔ (if 0 ≤ x then X xs L d mi (t, lo, sk, h) res else X xs L d mi (pc + ln, lo, sk, h) res) := by
  by_cases hq : 0 ≤ x
  · rw [X_do hc (ou := some (.inl (t, lo, sk, h))) (by simp only [am_do, a_if]; simp [hq]), if_pos hq]
    exact Iff.rfl
  · rw [X_do hc (ou := some (.inl (pc + ln, lo, sk, h))) (by simp only [am_do, a_if]; simp [hq]), if_neg hq]
    exact Iff.rfl
theorem i_if_gt {x : Int32} {off : Int} {t : Nat} (hc : am_cd mi pc = some (.ifCond .gt off, ln, [t], sw)) : X xs L d mi (pc, lo, .inl x :: sk, h) res ↔ (if 0 < x then X xs L d mi (t, lo, sk, h) res else X xs L d mi (pc + ln, lo, sk, h) res) := by
  by_cases hq : 0 < x
  · rw [X_do hc (ou := some (.inl (t, lo, sk, h))) (by simp only [am_do, a_if]; simp [hq]), if_pos hq]
    exact Iff.rfl
  · rw [X_do hc (ou := some (.inl (pc + ln, lo, sk, h))) (by simp only [am_do, a_if]; simp [hq]), if_neg hq]
    exact Iff.rfl
theorem i_if_le {x : Int32} {off : Int} {t : Nat} (hc : am_cd mi pc = some (.ifCond .le off, ln, [t], sw)) : X xs L d mi (pc, lo, .inl x :: sk, h) res ↔ (if x ≤ 0 then X xs L d mi (t, lo, sk, h) res else X xs L d mi (pc + ln, lo, sk, h) res) := by
  by_cases hq : x ≤ 0
  · rw [X_do hc (ou := some (.inl (t, lo, sk, h))) (by simp only [am_do, a_if]; simp [hq]), if_pos hq]
    exact Iff.rfl
  · rw [X_do hc (ou := some (.inl (pc + ln, lo, sk, h))) (by simp only [am_do, a_if]; simp [hq]), if_neg hq]
    exact Iff.rfl
theorem i_icmp_eq {x y : Int32} {off : Int} {t : Nat} (hc : am_cd mi pc = some (.if_icmp .eq off, ln, [t], sw)) : X xs L d mi (pc, lo, .inl y :: .inl x :: sk, h) res ↔ (if x = y then X xs L d mi (t, lo, sk, h) res else X xs L d mi (pc + ln, lo, sk, h) res) := by
  by_cases hq : x = y
  · rw [X_do hc (ou := some (.inl (t, lo, sk, h))) (by simp only [am_do, a_cmp]; simp [hq]), if_pos hq]
    exact Iff.rfl
  · rw [X_do hc (ou := some (.inl (pc + ln, lo, sk, h))) (by simp only [am_do, a_cmp]; simp [hq]), if_neg hq]
    exact Iff.rfl
theorem i_icmp_ne {x y : Int32} {off : Int} {t : Nat} (hc : am_cd mi pc = some (.if_icmp .ne off, ln, [t], sw)) : X xs L d mi (pc, lo, .inl y :: .inl x :: sk, h) res ↔ (if x = y then X xs L d mi (pc + ln, lo, sk, h) res else X xs L d mi (t, lo, sk, h) res) := by
  by_cases hq : x = y
  · rw [X_do hc (ou := some (.inl (pc + ln, lo, sk, h))) (by simp only [am_do, a_cmp]; simp [hq]), if_pos hq]
    exact Iff.rfl
  · rw [X_do hc (ou := some (.inl (t, lo, sk, h))) (by simp only [am_do, a_cmp]; simp [hq]), if_neg hq]
    exact Iff.rfl
theorem i_icmp_lt {x y : Int32} {off : Int} {t : Nat} (hc : am_cd mi pc = some (.if_icmp .lt off, ln, [t], sw)) : X xs L d mi (pc, lo, .inl y :: .inl x :: sk, h) res ↔ (if x < y then X xs L d mi (t, lo, sk, h) res else X xs L d mi (pc + ln, lo, sk, h) res) := by
  by_cases hq : x < y
  · rw [X_do hc (ou := some (.inl (t, lo, sk, h))) (by simp only [am_do, a_cmp]; simp [hq]), if_pos hq]
    exact Iff.rfl
  · rw [X_do hc (ou := some (.inl (pc + ln, lo, sk, h))) (by simp only [am_do, a_cmp]; simp [hq]), if_neg hq]
    exact Iff.rfl
theorem i_icmp_ge {x y : Int32} {off : Int} {t : Nat} (hc : am_cd mi pc = some (.if_icmp .ge off, ln, [t], sw)) : X xs L d mi (pc, lo, .inl y :: .inl x :: sk, h) res ↔ (if y ≤ x then X xs L d mi (t, lo, sk, h) res else X xs L d mi (pc + ln, lo, sk, h) res) := by
  by_cases hq : y ≤ x
  · rw [X_do hc (ou := some (.inl (t, lo, sk, h))) (by simp only [am_do, a_cmp]; simp [hq]), if_pos hq]
    exact Iff.rfl
  · rw [X_do hc (ou := some (.inl (pc + ln, lo, sk, h))) (by simp only [am_do, a_cmp]; simp [hq]), if_neg hq]
    exact Iff.rfl
theorem i_icmp_gt {x y : Int32} {off : Int} {t : Nat} (hc : am_cd mi pc = some (.if_icmp .gt off, ln, [t], sw)) : X xs L d mi (pc, lo, .inl y :: .inl x :: sk, h) res ↔ (if y < x then X xs L d mi (t, lo, sk, h) res else X xs L d mi (pc + ln, lo, sk, h) res) := by
  by_cases hq : y < x
  · rw [X_do hc (ou := some (.inl (t, lo, sk, h))) (by simp only [am_do, a_cmp]; simp [hq]), if_pos hq]
    exact Iff.rfl
  · rw [X_do hc (ou := some (.inl (pc + ln, lo, sk, h))) (by simp only [am_do, a_cmp]; simp [hq]), if_neg hq]
    exact Iff.rfl
theorem i_icmp_le {x y : Int32} {off : Int} {t : Nat} (hc : am_cd mi pc = some (.if_icmp .le off, ln, [t], sw)) : X xs L d mi (pc, lo, .inl y :: .inl x :: sk, h) res ↔ (if x ≤ y then X xs L d mi (t, lo, sk, h) res else X xs L d mi (pc + ln, lo, sk, h) res) := by
  by_cases hq : x ≤ y
  · rw [X_do hc (ou := some (.inl (t, lo, sk, h))) (by simp only [am_do, a_cmp]; simp [hq]), if_pos hq]
    exact Iff.rfl
  · rw [X_do hc (ou := some (.inl (pc + ln, lo, sk, h))) (by simp only [am_do, a_cmp]; simp [hq]), if_neg hq]
    exact Iff.rfl
theorem i_ifnull {off : Int} {t : Nat} {v : Option Nat} (hc : am_cd mi pc = some (.ifnull off, ln, [t], sw)) : X xs L d mi (pc, lo, .inr v :: sk, h) res ↔ X xs L d mi (if v = none then t else pc + ln, lo, sk, h) res := by
  cases v
  · exact X_do hc rfl
  · exact X_do hc rfl
theorem i_ifnonnull {off : Int} {t : Nat} {v : Option Nat} (hc : am_cd mi pc = some (.ifnonnull off, ln, [t], sw)) : X xs L d mi (pc, lo, .inr v :: sk, h) res ↔ X xs L d mi (if v = none then pc + ln else t, lo, sk, h) res := by
  cases v
  · exact X_do hc rfl
  · exact X_do hc rfl
theorem i_goto {off : Int} {t : Nat} (hc : am_cd mi pc = some (.goto off, ln, [t], sw)) : X xs L d mi (pc, lo, sk, h) res ↔ X xs L d mi (t, lo, sk, h) res := X_do hc rfl
theorem i_tsw {x : Int32} {a b c : Int} {offs : Array Int} {t : Nat} (hc : am_cd mi pc = some (.tableswitch a b c offs, ln, [t], sw)) : X xs L d mi (pc, lo, .inl x :: sk, h) res ↔ X xs L d mi (a_tgt x sw t, lo, sk, h) res := X_do hc rfl
theorem i_lsw {x : Int32} {a : Int} {ps : Array (Int × Int)} {t : Nat} (hc : am_cd mi pc = some (.lookupswitch a ps, ln, [t], sw)) : X xs L d mi (pc, lo, .inl x :: sk, h) res ↔ X xs L d mi (a_tgt x sw t, lo, sk, h) res := X_do hc rfl
theorem i_null  (hc : am_cd mi pc = some (.aconst_null, ln, ns, sw)) : X xs L d mi (pc, lo, sk, h) res ↔ X xs L d mi (pc + ln, lo, .inr none :: sk, h) res := X_do hc (rfl)
theorem i_pop {v : AV} (hc : am_cd mi pc = some (.pop, ln, ns, sw)) : X xs L d mi (pc, lo, v :: sk, h) res ↔ X xs L d mi (pc + ln, lo, sk, h) res := X_do hc (rfl)
theorem i_dup {v : AV} (hc : am_cd mi pc = some (.dup, ln, ns, sw)) : X xs L d mi (pc, lo, v :: sk, h) res ↔ X xs L d mi (pc + ln, lo, v :: v :: sk, h) res := X_do hc (rfl)
theorem i_dup2 {v w : AV} (hc : am_cd mi pc = some (.dup2, ln, ns, sw)) : X xs L d mi (pc, lo, v :: w :: sk, h) res ↔ X xs L d mi (pc + ln, lo, v :: w :: v :: w :: sk, h) res := X_do hc (rfl)
theorem i_getI {n o c : Nat} (hc : am_cd mi pc = some (.getfield n, ln, [c, k, 0], sw)) : X xs L d mi (pc, lo, .inr (some o) :: sk, h) res ↔ (hK h o = c) ∧ X xs L d mi (pc + ln, lo, .inl (hI h o k) :: sk, h) res := by
  show X xs L d mi (pc, lo, .inr (some o) :: sk, h) res ↔ (hK h o = c) ∧ X xs L d mi (pc + ln, lo, .inl (hI h o k) :: sk, h) res
  by_cases hq : hK h o = c
  · rw [X_do hc (by simp only [am_do, a_get]; rw [if_pos hq])]
    exact ⟨fun z => ⟨hq, z⟩, fun z => z.2⟩
  · rw [X_do hc (by simp only [am_do, a_get]; rw [if_neg hq])]
    exact ⟨fun z => z.elim, fun z => hq z.1⟩
theorem i_getZ {n o c : Nat} (hc : am_cd mi pc = some (.getfield n, ln, [c, k, 1], sw)) : X xs L d mi (pc, lo, .inr (some o) :: sk, h) res ↔ (hK h o = c) ∧ X xs L d mi (pc + ln, lo, .inl (hI h o k) :: sk, h) res := by
  show X xs L d mi (pc, lo, .inr (some o) :: sk, h) res ↔ (hK h o = c) ∧ X xs L d mi (pc + ln, lo, .inl (hI h o k) :: sk, h) res
  by_cases hq : hK h o = c
  · rw [X_do hc (by simp only [am_do, a_get]; rw [if_pos hq])]
    exact ⟨fun z => ⟨hq, z⟩, fun z => z.2⟩
  · rw [X_do hc (by simp only [am_do, a_get]; rw [if_neg hq])]
    exact ⟨fun z => z.elim, fun z => hq z.1⟩
theorem i_getR {n o c : Nat} (hc : am_cd mi pc = some (.getfield n, ln, [c, k, 2], sw)) : X xs L d mi (pc, lo, .inr (some o) :: sk, h) res ↔ (hK h o = c) ∧ X xs L d mi (pc + ln, lo, .inr (hR h o k) :: sk, h) res := by
  show X xs L d mi (pc, lo, .inr (some o) :: sk, h) res ↔ (hK h o = c) ∧ X xs L d mi (pc + ln, lo, .inr (hR h o k) :: sk, h) res
  by_cases hq : hK h o = c
  · rw [X_do hc (by simp only [am_do, a_get]; rw [if_pos hq])]
    exact ⟨fun z => ⟨hq, z⟩, fun z => z.2⟩
  · rw [X_do hc (by simp only [am_do, a_get]; rw [if_neg hq])]
    exact ⟨fun z => z.elim, fun z => hq z.1⟩
theorem i_putI {n o c : Nat} {v : Int32} (hc : am_cd mi pc = some (.putfield n, ln, [c, k, 0], sw)) : X xs L d mi (pc, lo, .inl v :: .inr (some o) :: sk, h) res ↔ (hK h o = c) ∧ X xs L d mi (pc + ln, lo, sk, sI h o k v) res := by
  show X xs L d mi (pc, lo, .inl v :: .inr (some o) :: sk, h) res ↔ (hK h o = c) ∧ X xs L d mi (pc + ln, lo, sk, sI h o k v) res
  by_cases hq : hK h o = c
  · rw [X_do hc (by simp only [am_do, a_put]; rw [if_pos hq])]
    exact ⟨fun z => ⟨hq, z⟩, fun z => z.2⟩
  · rw [X_do hc (by simp only [am_do, a_put]; rw [if_neg hq])]
    exact ⟨fun z => z.elim, fun z => hq z.1⟩
theorem i_putZ {n o c : Nat} {v : Int32} (hc : am_cd mi pc = some (.putfield n, ln, [c, k, 1], sw)) : X xs L d mi (pc, lo, .inl v :: .inr (some o) :: sk, h) res ↔ (hK h o = c ∧ (v = 0 ∨ v = 1)) ∧ X xs L d mi (pc + ln, lo, sk, sI h o k v) res := by
  show X xs L d mi (pc, lo, .inl v :: .inr (some o) :: sk, h) res ↔ (hK h o = c ∧ (v = 0 ∨ v = 1)) ∧ X xs L d mi (pc + ln, lo, sk, sI h o k v) res
  by_cases hq : hK h o = c ∧ (v = 0 ∨ v = 1)
  · rw [X_do hc (by simp only [am_do, a_put]; rw [if_pos hq])]
    exact ⟨fun z => ⟨hq, z⟩, fun z => z.2⟩
  · rw [X_do hc (by simp only [am_do, a_put]; rw [if_neg hq])]
    exact ⟨fun z => z.elim, fun z => hq z.1⟩
theorem i_putR {n o c : Nat} {v : Option Nat} (hc : am_cd mi pc = some (.putfield n, ln, [c, k, 2], sw)) : X xs L d mi (pc, lo, .inr v :: .inr (some o) :: sk, h) res ↔ (hK h o = c) ∧ X xs L d mi (pc + ln, lo, sk, sR h o k v) res := by
  show X xs L d mi (pc, lo, .inr v :: .inr (some o) :: sk, h) res ↔ (hK h o = c) ∧ X xs L d mi (pc + ln, lo, sk, sR h o k v) res
  by_cases hq : hK h o = c
  · rw [X_do hc (by simp only [am_do, a_put]; rw [if_pos hq])]
    exact ⟨fun z => ⟨hq, z⟩, fun z => z.2⟩
  · rw [X_do hc (by simp only [am_do, a_put]; rw [if_neg hq])]
    exact ⟨fun z => z.elim, fun z => hq z.1⟩
theorem i_iaload {o : Nat} {i : Int32} (hc : am_cd mi pc = some (.iaload, ln, [], sw)) : X xs L d mi (pc, lo, .inl i :: .inr (some o) :: sk, h) res ↔ (hK h o = 20 ∧ vp_in i (hL h o)) ∧ X xs L d mi (pc + ln, lo, .inl (hI h o i.toNatClampNeg) :: sk, h) res := by
  show X xs L d mi (pc, lo, .inl i :: .inr (some o) :: sk, h) res ↔ (hK h o = 20 ∧ ¬ (i < 0 ∨ hL h o ≤ i.toNatClampNeg)) ∧ X xs L d mi (pc + ln, lo, .inl (hI h o i.toNatClampNeg) :: sk, h) res
  by_cases hq : hK h o = 20 ∧ ¬ (i < 0 ∨ hL h o ≤ i.toNatClampNeg)
  · rw [X_do hc (by simp only [am_do, a_ixl]; rw [if_pos hq])]
    exact ⟨fun z => ⟨hq, z⟩, fun z => z.2⟩
  · rw [X_do hc (by simp only [am_do, a_ixl]; rw [if_neg hq])]
    exact ⟨fun z => z.elim, fun z => hq z.1⟩
theorem i_caload {o : Nat} {i : Int32} (hc : am_cd mi pc = some (.caload, ln, ns, sw)) : X xs L d mi (pc, lo, .inl i :: .inr (some o) :: sk, h) res ↔ (hK h o = 21 ∧ vp_in i (hL h o)) ∧ X xs L d mi (pc + ln, lo, .inl (hI h o i.toNatClampNeg) :: sk, h) res := by
  show X xs L d mi (pc, lo, .inl i :: .inr (some o) :: sk, h) res ↔ (hK h o = 21 ∧ ¬ (i < 0 ∨ hL h o ≤ i.toNatClampNeg)) ∧ X xs L d mi (pc + ln, lo, .inl (hI h o i.toNatClampNeg) :: sk, h) res
  by_cases hq : hK h o = 21 ∧ ¬ (i < 0 ∨ hL h o ≤ i.toNatClampNeg)
  · rw [X_do hc (by simp only [am_do, a_ixl]; rw [if_pos hq])]
    exact ⟨fun z => ⟨hq, z⟩, fun z => z.2⟩
  · rw [X_do hc (by simp only [am_do, a_ixl]; rw [if_neg hq])]
    exact ⟨fun z => z.elim, fun z => hq z.1⟩
theorem i_baload {o : Nat} {i : Int32} (hc : am_cd mi pc = some (.baload, ln, ns, sw)) : X xs L d mi (pc, lo, .inl i :: .inr (some o) :: sk, h) res ↔ (hK h o = 22 ∧ vp_in i (hL h o)) ∧ X xs L d mi (pc + ln, lo, .inl (hI h o i.toNatClampNeg) :: sk, h) res := by
  show X xs L d mi (pc, lo, .inl i :: .inr (some o) :: sk, h) res ↔ (hK h o = 22 ∧ ¬ (i < 0 ∨ hL h o ≤ i.toNatClampNeg)) ∧ X xs L d mi (pc + ln, lo, .inl (hI h o i.toNatClampNeg) :: sk, h) res
  by_cases hq : hK h o = 22 ∧ ¬ (i < 0 ∨ hL h o ≤ i.toNatClampNeg)
  · rw [X_do hc (by simp only [am_do, a_ixl]; rw [if_pos hq])]
    exact ⟨fun z => ⟨hq, z⟩, fun z => z.2⟩
  · rw [X_do hc (by simp only [am_do, a_ixl]; rw [if_neg hq])]
    exact ⟨fun z => z.elim, fun z => hq z.1⟩
theorem i_sld {i : Int32} {z : Nat} {zs : List Nat} (hc : am_cd mi pc = some (.iaload, ln, z :: zs, sw)) : X xs L d mi (pc, lo, .inl i :: .inr (some 0) :: sk, h) res ↔ (vp_in i L) ∧ X xs L d mi (pc + ln, lo, .inl (xs i.toNatClampNeg) :: sk, h) res := by
  show X xs L d mi (pc, lo, .inl i :: .inr (some 0) :: sk, h) res ↔ (¬ (i < 0 ∨ L ≤ i.toNatClampNeg)) ∧ X xs L d mi (pc + ln, lo, .inl (xs i.toNatClampNeg) :: sk, h) res
  by_cases hq : ¬ (i < 0 ∨ L ≤ i.toNatClampNeg)
  · rw [X_do hc (by simp only [am_do, a_scl]; rw [if_pos hq])]
    exact ⟨fun z => ⟨hq, z⟩, fun z => z.2⟩
  · rw [X_do hc (by simp only [am_do, a_scl]; rw [if_neg hq])]
    exact ⟨fun z => z.elim, fun z => hq z.1⟩
theorem i_iastore {o : Nat} {i v : Int32} (hc : am_cd mi pc = some (.iastore, ln, ns, sw)) : X xs L d mi (pc, lo, .inl v :: .inl i :: .inr (some o) :: sk, h) res ↔ (hK h o = 20 ∧ vp_in i (hL h o)) ∧ X xs L d mi (pc + ln, lo, sk, sI h o i.toNatClampNeg (v)) res := by
  show X xs L d mi (pc, lo, .inl v :: .inl i :: .inr (some o) :: sk, h) res ↔ (hK h o = 20 ∧ ¬ (i < 0 ∨ hL h o ≤ i.toNatClampNeg)) ∧ X xs L d mi (pc + ln, lo, sk, sI h o i.toNatClampNeg (v)) res
  by_cases hq : hK h o = 20 ∧ ¬ (i < 0 ∨ hL h o ≤ i.toNatClampNeg)
  · rw [X_do hc (by simp only [am_do, a_ixs]; rw [if_pos hq])]
    exact ⟨fun z => ⟨hq, z⟩, fun z => z.2⟩
  · rw [X_do hc (by simp only [am_do, a_ixs]; rw [if_neg hq])]
    exact ⟨fun z => z.elim, fun z => hq z.1⟩
theorem i_castore {o : Nat} {i v : Int32} (hc : am_cd mi pc = some (.castore, ln, ns, sw)) : X xs L d mi (pc, lo, .inl v :: .inl i :: .inr (some o) :: sk, h) res ↔ (hK h o = 21 ∧ vp_in i (hL h o)) ∧ X xs L d mi (pc + ln, lo, sk, sI h o i.toNatClampNeg (vp_nar .char v)) res := by
  show X xs L d mi (pc, lo, .inl v :: .inl i :: .inr (some o) :: sk, h) res ↔ (hK h o = 21 ∧ ¬ (i < 0 ∨ hL h o ≤ i.toNatClampNeg)) ∧ X xs L d mi (pc + ln, lo, sk, sI h o i.toNatClampNeg (vp_nar .char v)) res
  by_cases hq : hK h o = 21 ∧ ¬ (i < 0 ∨ hL h o ≤ i.toNatClampNeg)
  · rw [X_do hc (by simp only [am_do, a_ixs]; rw [if_pos hq])]
    exact ⟨fun z => ⟨hq, z⟩, fun z => z.2⟩
  · rw [X_do hc (by simp only [am_do, a_ixs]; rw [if_neg hq])]
    exact ⟨fun z => z.elim, fun z => hq z.1⟩
theorem i_bastore {o : Nat} {i v : Int32} (hc : am_cd mi pc = some (.bastore, ln, ns, sw)) : X xs L d mi (pc, lo, .inl v :: .inl i :: .inr (some o) :: sk, h) res ↔ (hK h o = 22 ∧ vp_in i (hL h o)) ∧ X xs L d mi (pc + ln, lo, sk, sI h o i.toNatClampNeg (vp_nar .boolean v)) res := by
  show X xs L d mi (pc, lo, .inl v :: .inl i :: .inr (some o) :: sk, h) res ↔ (hK h o = 22 ∧ ¬ (i < 0 ∨ hL h o ≤ i.toNatClampNeg)) ∧ X xs L d mi (pc + ln, lo, sk, sI h o i.toNatClampNeg (vp_nar .boolean v)) res
  by_cases hq : hK h o = 22 ∧ ¬ (i < 0 ∨ hL h o ≤ i.toNatClampNeg)
  · rw [X_do hc (by simp only [am_do, a_ixs]; rw [if_pos hq])]
    exact ⟨fun z => ⟨hq, z⟩, fun z => z.2⟩
  · rw [X_do hc (by simp only [am_do, a_ixs]; rw [if_neg hq])]
    exact ⟨fun z => z.elim, fun z => hq z.1⟩
theorem i_aaload {o : Nat} {i : Int32} (hc : am_cd mi pc = some (.aaload, ln, ns, sw)) : X xs L d mi (pc, lo, .inl i :: .inr (some o) :: sk, h) res ↔ ((hK h o = 23 ∨ hK h o = 24) ∧ vp_in i (hL h o)) ∧ X xs L d mi (pc + ln, lo, .inr (hR h o i.toNatClampNeg) :: sk, h) res := by
  show X xs L d mi (pc, lo, .inl i :: .inr (some o) :: sk, h) res ↔ ((hK h o = 23 ∨ hK h o = 24) ∧ ¬ (i < 0 ∨ hL h o ≤ i.toNatClampNeg)) ∧ X xs L d mi (pc + ln, lo, .inr (hR h o i.toNatClampNeg) :: sk, h) res
  by_cases hq : (hK h o = 23 ∨ hK h o = 24) ∧ ¬ (i < 0 ∨ hL h o ≤ i.toNatClampNeg)
  · rw [X_do hc (by simp only [am_do, a_axl]; rw [if_pos hq])]
    exact ⟨fun z => ⟨hq, z⟩, fun z => z.2⟩
  · rw [X_do hc (by simp only [am_do, a_axl]; rw [if_neg hq])]
    exact ⟨fun z => z.elim, fun z => hq z.1⟩
theorem i_aastore {o v kd ke : Nat} {i : Int32} (hc : am_cd mi pc = some (.aastore, ln, [kd, ke], sw)) : X xs L d mi (pc, lo, .inr (some v) :: .inl i :: .inr (some o) :: sk, h) res ↔ ((hK h o = kd ∧ hK h v = ke) ∧ vp_in i (hL h o)) ∧ X xs L d mi (pc + ln, lo, sk, sR h o i.toNatClampNeg (some v)) res := by
  show X xs L d mi (pc, lo, .inr (some v) :: .inl i :: .inr (some o) :: sk, h) res ↔ ((hK h o = kd ∧ hK h v = ke) ∧ ¬ (i < 0 ∨ hL h o ≤ i.toNatClampNeg)) ∧ X xs L d mi (pc + ln, lo, sk, sR h o i.toNatClampNeg (some v)) res
  by_cases hq : (hK h o = kd ∧ hK h v = ke) ∧ ¬ (i < 0 ∨ hL h o ≤ i.toNatClampNeg)
  · rw [X_do hc (by simp only [am_do, a_axs]; rw [if_pos hq])]
    exact ⟨fun z => ⟨hq, z⟩, fun z => z.2⟩
  · rw [X_do hc (by simp only [am_do, a_axs]; rw [if_neg hq])]
    exact ⟨fun z => z.elim, fun z => hq z.1⟩
theorem i_aastoreN {o kd ke : Nat} {i : Int32} (hc : am_cd mi pc = some (.aastore, ln, [kd, ke], sw)) : X xs L d mi (pc, lo, .inr none :: .inl i :: .inr (some o) :: sk, h) res ↔ (hK h o = kd ∧ vp_in i (hL h o)) ∧ X xs L d mi (pc + ln, lo, sk, sR h o i.toNatClampNeg none) res := by
  show X xs L d mi (pc, lo, .inr none :: .inl i :: .inr (some o) :: sk, h) res ↔ (hK h o = kd ∧ ¬ (i < 0 ∨ hL h o ≤ i.toNatClampNeg)) ∧ X xs L d mi (pc + ln, lo, sk, sR h o i.toNatClampNeg none) res
  by_cases hq : hK h o = kd ∧ ¬ (i < 0 ∨ hL h o ≤ i.toNatClampNeg)
  · rw [X_do hc (by simp only [am_do, a_axs]; rw [if_pos hq])]
    exact ⟨fun z => ⟨hq, z⟩, fun z => z.2⟩
  · rw [X_do hc (by simp only [am_do, a_axs]; rw [if_neg hq])]
    exact ⟨fun z => z.elim, fun z => hq z.1⟩
theorem i_alen {o : Nat} (hc : am_cd mi pc = some (.arraylength, ln, [], sw)) : X xs L d mi (pc, lo, .inr (some o) :: sk, h) res ↔ (20 ≤ hK h o ∧ hK h o ≤ 24) ∧ X xs L d mi (pc + ln, lo, .inl (nI (hL h o)) :: sk, h) res := by
  show X xs L d mi (pc, lo, .inr (some o) :: sk, h) res ↔ (20 ≤ hK h o ∧ hK h o ≤ 24) ∧ X xs L d mi (pc + ln, lo, .inl (nI (hL h o)) :: sk, h) res
  by_cases hq : 20 ≤ hK h o ∧ hK h o ≤ 24
  · rw [X_do hc (by simp only [am_do, a_len]; rw [if_pos hq])]
    exact ⟨fun z => ⟨hq, z⟩, fun z => z.2⟩
  · rw [X_do hc (by simp only [am_do, a_len]; rw [if_neg hq])]
    exact ⟨fun z => z.elim, fun z => hq z.1⟩
theorem i_slen {z : Nat} {zs : List Nat} (hc : am_cd mi pc = some (.arraylength, ln, z :: zs, sw)) : X xs L d mi (pc, lo, .inr (some 0) :: sk, h) res ↔ X xs L d mi (pc + ln, lo, .inl (nI L) :: sk, h) res := X_do hc (rfl)
theorem i_new {n c q : Nat} (hc : am_cd mi pc = some (.new n, ln, [c, q], sw)) : X xs L d mi (pc, lo, sk, h) res ↔ X xs L d mi (pc + ln, lo, .inr (some (hN h)) :: sk, nw h c 0 q) res := X_do hc (rfl)
theorem i_newarray {ty : ArrayType} {kd : Nat} {i : Int32} (hc : am_cd mi pc = some (.newarray ty, ln, [kd], sw)) : X xs L d mi (pc, lo, .inl i :: sk, h) res ↔ (¬ i < 0 ∧ i.toNatClampNeg ≤ 100000) ∧ X xs L d mi (pc + ln, lo, .inr (some (hN h)) :: sk, nw h kd i.toNatClampNeg i.toNatClampNeg) res := by
  show X xs L d mi (pc, lo, .inl i :: sk, h) res ↔ (¬ i < 0 ∧ i.toNatClampNeg ≤ 100000) ∧ X xs L d mi (pc + ln, lo, .inr (some (hN h)) :: sk, nw h kd i.toNatClampNeg i.toNatClampNeg) res
  by_cases hq : ¬ i < 0 ∧ i.toNatClampNeg ≤ 100000
  · rw [X_do hc (by simp only [am_do, a_arr]; rw [if_pos hq])]
    exact ⟨fun z => ⟨hq, z⟩, fun z => z.2⟩
  · rw [X_do hc (by simp only [am_do, a_arr]; rw [if_neg hq])]
    exact ⟨fun z => z.elim, fun z => hq z.1⟩
theorem i_anewarray {j kd : Nat} {i : Int32} (hc : am_cd mi pc = some (.anewarray j, ln, [kd], sw)) : X xs L d mi (pc, lo, .inl i :: sk, h) res ↔ (¬ i < 0 ∧ i.toNatClampNeg ≤ 100000) ∧ X xs L d mi (pc + ln, lo, .inr (some (hN h)) :: sk, nw h kd i.toNatClampNeg i.toNatClampNeg) res := by
  show X xs L d mi (pc, lo, .inl i :: sk, h) res ↔ (¬ i < 0 ∧ i.toNatClampNeg ≤ 100000) ∧ X xs L d mi (pc + ln, lo, .inr (some (hN h)) :: sk, nw h kd i.toNatClampNeg i.toNatClampNeg) res
  by_cases hq : ¬ i < 0 ∧ i.toNatClampNeg ≤ 100000
  · rw [X_do hc (by simp only [am_do, a_arr]; rw [if_pos hq])]
    exact ⟨fun z => ⟨hq, z⟩, fun z => z.2⟩
  · rw [X_do hc (by simp only [am_do, a_arr]; rw [if_neg hq])]
    exact ⟨fun z => z.elim, fun z => hq z.1⟩
theorem i_obj {n o : Nat} (hc : am_cd mi pc = some (.invokespecial n, ln, [], sw)) : X xs L d mi (pc, lo, .inr (some o) :: sk, h) res ↔ (sk.length ≤ 8) ∧ X xs L d mi (pc + ln, lo, sk, h) res := by
  show X xs L d mi (pc, lo, .inr (some o) :: sk, h) res ↔ (sk.length ≤ 8) ∧ X xs L d mi (pc + ln, lo, sk, h) res
  by_cases hq : sk.length ≤ 8
  · rw [X_do hc (by simp only [am_do, a_obj]; rw [if_pos hq])]
    exact ⟨fun z => ⟨hq, z⟩, fun z => z.2⟩
  · rw [X_do hc (by simp only [am_do, a_obj]; rw [if_neg hq])]
    exact ⟨fun z => z.elim, fun z => hq z.1⟩
theorem i_idx {n o : Nat} {x : Int32} (hc : am_cd mi pc = some (.invokevirtual n, ln, [], sw)) : X xs L d mi (pc, lo, .inl x :: .inr (some o) :: sk, h) res ↔ ((o = 1 ∨ o = 2) ∧ sk.length ≤ 8) ∧ X xs L d mi (pc + ln, lo, .inl (s_idx x (s_txt o) 0) :: sk, h) res := by
  show X xs L d mi (pc, lo, .inl x :: .inr (some o) :: sk, h) res ↔ ((o = 1 ∨ o = 2) ∧ sk.length ≤ 8) ∧ X xs L d mi (pc + ln, lo, .inl (s_idx x (s_txt o) 0) :: sk, h) res
  by_cases hq : (o = 1 ∨ o = 2) ∧ sk.length ≤ 8
  · rw [X_do hc (by simp only [am_do, a_idx]; rw [if_pos hq])]
    exact ⟨fun z => ⟨hq, z⟩, fun z => z.2⟩
  · rw [X_do hc (by simp only [am_do, a_idx]; rw [if_neg hq])]
    exact ⟨fun z => z.elim, fun z => hq z.1⟩
theorem i_lds {n : Nat} (hc : am_cd mi pc = some (.ldc n, ln, [k], [])) : X xs L d mi (pc, lo, sk, h) res ↔ (k = 1 ∨ k = 2) ∧ X xs L d mi (pc + ln, lo, .inr (some k) :: sk, h) res := by
  show X xs L d mi (pc, lo, sk, h) res ↔ (k = 1 ∨ k = 2) ∧ X xs L d mi (pc + ln, lo, .inr (some k) :: sk, h) res
  by_cases hq : k = 1 ∨ k = 2
  · rw [X_do hc (by simp only [am_do, a_lds]; rw [if_pos hq])]
    exact ⟨fun z => ⟨hq, z⟩, fun z => z.2⟩
  · rw [X_do hc (by simp only [am_do, a_lds]; rw [if_neg hq])]
    exact ⟨fun z => z.elim, fun z => hq z.1⟩
theorem i_cln {j o z : Nat} (hc : am_cd mi pc = some (.invokevirtual j, ln, [z], sw)) : X xs L d mi (pc, lo, .inr (some o) :: sk, h) res ↔ (hK h o = 20 ∧ sk.length ≤ 8) ∧ X xs L d mi (pc + ln, lo, .inr (some (hN h)) :: sk, sA (nw h 20 (hL h o) (hL h o)) (hN h) (hI h o)) res := by
  show X xs L d mi (pc, lo, .inr (some o) :: sk, h) res ↔ (hK h o = 20 ∧ sk.length ≤ 8) ∧ X xs L d mi (pc + ln, lo, .inr (some (hN h)) :: sk, sA (nw h 20 (hL h o) (hL h o)) (hN h) (hI h o)) res
  by_cases hq : hK h o = 20 ∧ sk.length ≤ 8
  · rw [X_do hc (by simp only [am_do, a_cln]; rw [if_pos hq])]
    exact ⟨fun z => ⟨hq, z⟩, fun z => z.2⟩
  · rw [X_do hc (by simp only [am_do, a_cln]; rw [if_neg hq])]
    exact ⟨fun z => z.elim, fun z => hq z.1⟩
theorem i_cch {j o : Nat} (hc : am_cd mi pc = some (.checkcast j, ln, ns, sw)) : X xs L d mi (pc, lo, .inr (some o) :: sk, h) res ↔ (hK h o = 20) ∧ X xs L d mi (pc + ln, lo, .inr (some o) :: sk, h) res := by
  show X xs L d mi (pc, lo, .inr (some o) :: sk, h) res ↔ (hK h o = 20) ∧ X xs L d mi (pc + ln, lo, .inr (some o) :: sk, h) res
  by_cases hq : hK h o = 20
  · rw [X_do hc (by simp only [am_do, a_cch]; rw [if_pos hq])]
    exact ⟨fun z => ⟨hq, z⟩, fun z => z.2⟩
  · rw [X_do hc (by simp only [am_do, a_cch]; rw [if_neg hq])]
    exact ⟨fun z => z.elim, fun z => hq z.1⟩
theorem i_acpy {j o q : Nat} {n dp sp : Int32} (hc : am_cd mi pc = some (.invokestatic j, ln, [], sw)) : X xs L d mi (pc, lo, .inl n :: .inl dp :: .inr (some q) :: .inl sp :: .inr (some o) :: sk, h) res ↔ ((hK h o = 20 ∧ hK h q = 20 ∧ o ≠ q) ∧ (¬ sp < 0 ∧ ¬ dp < 0 ∧ ¬ n < 0) ∧ (sp.toNatClampNeg + n.toNatClampNeg ≤ hL h o ∧ dp.toNatClampNeg + n.toNatClampNeg ≤ hL h q) ∧ sk.length ≤ 8) ∧ X xs L d mi (pc + ln, lo, sk, sA h q (va_cpy (hI h o) (hI h q) sp.toNatClampNeg dp.toNatClampNeg n.toNatClampNeg)) res := by
  show X xs L d mi (pc, lo, .inl n :: .inl dp :: .inr (some q) :: .inl sp :: .inr (some o) :: sk, h) res ↔ ((hK h o = 20 ∧ hK h q = 20 ∧ o ≠ q) ∧ (¬ sp < 0 ∧ ¬ dp < 0 ∧ ¬ n < 0) ∧ (sp.toNatClampNeg + n.toNatClampNeg ≤ hL h o ∧ dp.toNatClampNeg + n.toNatClampNeg ≤ hL h q) ∧ sk.length ≤ 8) ∧ X xs L d mi (pc + ln, lo, sk, sA h q (va_cpy (hI h o) (hI h q) sp.toNatClampNeg dp.toNatClampNeg n.toNatClampNeg)) res
  by_cases hq : (hK h o = 20 ∧ hK h q = 20 ∧ o ≠ q) ∧ (¬ sp < 0 ∧ ¬ dp < 0 ∧ ¬ n < 0) ∧ (sp.toNatClampNeg + n.toNatClampNeg ≤ hL h o ∧ dp.toNatClampNeg + n.toNatClampNeg ≤ hL h q) ∧ sk.length ≤ 8
  · rw [X_do hc (by simp only [am_do, a_cpy]; rw [if_pos hq])]
    exact ⟨fun z => ⟨hq, z⟩, fun z => z.2⟩
  · rw [X_do hc (by simp only [am_do, a_cpy]; rw [if_neg hq])]
    exact ⟨fun z => z.elim, fun z => hq z.1⟩
/-- calls: the values taken lie on the stack, the last on top -/
theorem i_callS {j mj n : Nat} (hc : am_cd mi pc = some (.invokestatic j, ln, [mj, n], sw)) (hn : n ≤ sk.length ∧ sk.length ≤ n + 8) : X xs L d mi (pc, lo, sk, h) res ↔ ∃ r : Res, Rn xs L d mj (sk.take n).reverse h r ∧ X xs L d mi (pc + ln, lo, r.1.toList ++ sk.drop n, r.2) res := X_do (ou := some (.inr (.inl (mj, (sk.take n).reverse, (pc + ln, lo, sk.drop n, h))))) hc (by simp only [am_do, a_call]; rw [if_pos hn])
theorem i_callI {j mj n kd o : Nat} {as : List AV} (hc : am_cd mi pc = some (.invokespecial j, ln, [mj, n, kd], sw)) (ha : (sk.take n).reverse = .inr (some o) :: as) (hn : n ≤ sk.length ∧ sk.length ≤ n + 8) : X xs L d mi (pc, lo, sk, h) res ↔ hK h o = kd ∧ ∃ r : Res, Rn xs L d mj (.inr (some o) :: as) h r ∧ X xs L d mi (pc + ln, lo, r.1.toList ++ sk.drop n, r.2) res := by
  by_cases hq : hK h o = kd
  · rw [X_do hc (by simp only [am_do, a_callv, ha]; rw [if_pos ⟨hn, hq⟩])]
    exact ⟨fun z => ⟨hq, z⟩, fun z => z.2⟩
  · rw [X_do hc (by simp only [am_do, a_callv, ha]; rw [if_neg (fun z => hq z.2)])]
    exact ⟨fun z => z.elim, fun z => hq z.1⟩
theorem i_callV {j mj n kd o : Nat} {as : List AV} (hc : am_cd mi pc = some (.invokevirtual j, ln, [mj, n, kd], sw)) (ha : (sk.take n).reverse = .inr (some o) :: as) (hn : n ≤ sk.length ∧ sk.length ≤ n + 8) : X xs L d mi (pc, lo, sk, h) res ↔ hK h o = kd ∧ ∃ r : Res, Rn xs L d mj (.inr (some o) :: as) h r ∧ X xs L d mi (pc + ln, lo, r.1.toList ++ sk.drop n, r.2) res := by
  by_cases hq : hK h o = kd
  · rw [X_do hc (by simp only [am_do, a_callv, ha]; rw [if_pos ⟨hn, hq⟩])]
    exact ⟨fun z => ⟨hq, z⟩, fun z => z.2⟩
  · rw [X_do hc (by simp only [am_do, a_callv, ha]; rw [if_neg (fun z => hq z.2)])]
    exact ⟨fun z => z.elim, fun z => hq z.1⟩
theorem i_iret {v : Int32} (hc : am_cd mi pc = some (.ireturn, ln, ns, sw)) (ht : am_ret mi = some .int) : X xs L d mi (pc, lo, [.inl v], h) res ↔ res = (some (.inl v), h) := X_do (ou := some (.inr (.inr (some (.inl v), h)))) hc (by simp only [am_do, ht, a_iret])
theorem i_zret {v : Int32} (hc : am_cd mi pc = some (.ireturn, ln, ns, sw)) (ht : am_ret mi = some .boolean) : X xs L d mi (pc, lo, [.inl v], h) res ↔ (v = 0 ∨ v = 1) ∧ res = (some (.inl v), h) := by
  by_cases hq : v = 0 ∨ v = 1
  · rw [X_do hc (by simp only [am_do, ht, a_iret]; rw [if_pos hq])]
    exact ⟨fun z => ⟨hq, z⟩, fun z => z.2⟩
  · rw [X_do hc (by simp only [am_do, ht, a_iret]; rw [if_neg hq])]
    exact ⟨fun z => z.elim, fun z => hq z.1⟩
theorem i_cret {v : Int32} (hc : am_cd mi pc = some (.ireturn, ln, ns, sw)) (ht : am_ret mi = some .char) : X xs L d mi (pc, lo, [.inl v], h) res ↔ (¬ v < 0 ∧ v < 65536) ∧ res = (some (.inl v), h) := by
  by_cases hq : ¬ v < 0 ∧ v < 65536
  · rw [X_do hc (by simp only [am_do, ht, a_iret]; rw [if_pos hq])]
    exact ⟨fun z => ⟨hq, z⟩, fun z => z.2⟩
  · rw [X_do hc (by simp only [am_do, ht, a_iret]; rw [if_neg hq])]
    exact ⟨fun z => z.elim, fun z => hq z.1⟩
theorem i_aret {v : Option Nat} {C : String} (hc : am_cd mi pc = some (.areturn, ln, ns, sw)) (ht : am_ret mi = some (.object C)) : X xs L d mi (pc, lo, [.inr v], h) res ↔ res = (some (.inr v), h) := X_do (ou := some (.inr (.inr (some (.inr v), h)))) hc (by simp only [am_do, ht, a_aret])
theorem i_rret {v : Option Nat} {C : FieldType} (hc : am_cd mi pc = some (.areturn, ln, ns, sw)) (ht : am_ret mi = some (.array C)) : X xs L d mi (pc, lo, [.inr v], h) res ↔ res = (some (.inr v), h) := X_do (ou := some (.inr (.inr (some (.inr v), h)))) hc (by simp only [am_do, ht, a_aret])
theorem i_vret (hc : am_cd mi pc = some (.return_, ln, ns, sw)) (ht : am_ret mi = none) : X xs L d mi (pc, lo, [], h) res ↔ res = (none, h) := X_do (ou := some (.inr (.inr (none, h)))) hc (by simp only [am_do, ht, a_vret])
theorem i_pc {c : Prop} [Decidable c] {a b : Nat} : X xs L d mi (if c then a else b, lo, sk, h) res ↔ if c then X xs L d mi (a, lo, sk, h) res else X xs L d mi (b, lo, sk, h) res := by split <;> exact Iff.rfl
theorem i_rn {as : List AV} : Rn xs L (d + 1) mi as h res ↔ X xs L d mi (0, am_in mi as, [], h) res := Iff.rfl
end XI

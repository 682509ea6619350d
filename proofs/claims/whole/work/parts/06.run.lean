-- THE SMALL MACHINE'S RUN: am_cd m pc: the instruction of method m at pc; Ex: a body, to its answer; Rn d: a method, with at most d calls standing open
section XR
variable (xs : Nat → Int32) (L : Nat)
def am_step (mi : Nat) (st : St) : Out := match am_cd mi st.1 with
  | none => none
  | some e => am_do xs L (am_ret mi) e.1 e.2.2.1 e.2.2.2 (st.1 + e.2.1) st.2.1 st.2.2.1 st.2.2.2
def Ex (C : Nat → List AV → Hp → Res → Prop) (mi : Nat) : Nat → St → Res → Prop
  | 0, _, _ => False
  | f + 1, st, res => match am_step xs L mi st with
    | none => False
    | some (.inl st') => Ex C mi f st' res
    | some (.inr (.inl q)) => ∃ r : Res, C q.1 q.2.1 q.2.2.2.2.2 r ∧ Ex C mi f (q.2.2.1, q.2.2.2.1, r.1.toList ++ q.2.2.2.2.1, r.2) res
    | some (.inr (.inr r)) => res = r
def am_in (mi : Nat) (as : List AV) : Lo := as.map some ++ List.replicate (am_nl mi - as.length) none
def Rn : Nat → Nat → List AV → Hp → Res → Prop
  | 0, _, _, _, _ => False
  | d + 1, mi, as, h, res => ∃ f, Ex xs L (Rn d) mi f (0, am_in mi as, [], h) res
def X (d mi : Nat) (st : St) (res : Res) : Prop := ∃ f, Ex xs L (Rn xs L d) mi f st res
end XR
section XL
variable {xs : Nat → Int32} {L d mi pc pn k ln : Nat} {ns : List Nat} {sw : List (Int32 × Nat)} {lo : Lo} {sk : List AV} {h : Hp} {res : Res}
theorem x_rn {as : List AV} (kk : X xs L d mi (0, am_in mi as, [], h) res) : Rn xs L (d + 1) mi as h res := kk
theorem x_nx {i : Instr} {st' : St} (hc : am_cd mi pc = some (i, ln, ns, sw)) (hd : am_do xs L (am_ret mi) i ns sw (pc + ln) lo sk h = some (.inl st')) (kk : X xs L d mi st' res) : X xs L d mi (pc, lo, sk, h) res := by
  obtain ⟨f, hf⟩ := kk
  refine ⟨f + 1, ?_⟩
  have hs : am_step xs L mi (pc, lo, sk, h) = some (.inl st') := by
    unfold am_step
    simp only [hc]
    exact hd
  unfold Ex
  rw [hs]
  exact hf
theorem x_cl {i : Instr} {mj pn : Nat} {as : List AV} {rest : List AV} {lo' : Lo} {h' : Hp} {r : Res} (hc : am_cd mi pc = some (i, ln, ns, sw)) (hd : am_do xs L (am_ret mi) i ns sw (pc + ln) lo sk h = some (.inr (.inl (mj, as, (pn, lo', rest, h'))))) (hr : Rn xs L d mj as h' r) (kk : X xs L d mi (pn, lo', r.1.toList ++ rest, r.2) res) : X xs L d mi (pc, lo, sk, h) res := by
  obtain ⟨f, hf⟩ := kk
  refine ⟨f + 1, ?_⟩
  have hs : am_step xs L mi (pc, lo, sk, h) = some (.inr (.inl (mj, as, (pn, lo', rest, h')))) := by
    unfold am_step
    simp only [hc]
    exact hd
  unfold Ex
  rw [hs]
  exact ⟨r, hr, hf⟩
theorem x_rt {i : Instr} (hc : am_cd mi pc = some (i, ln, ns, sw)) (hd : am_do xs L (am_ret mi) i ns sw (pc + ln) lo sk h = some (.inr (.inr res))) : X xs L d mi (pc, lo, sk, h) res := by
  refine ⟨1, ?_⟩
  have hs : am_step xs L mi (pc, lo, sk, h) = some (.inr (.inr res)) := by
    unfold am_step
    simp only [hc]
    exact hd
  unfold Ex
  rw [hs]
theorem x_iconst {n : Int} {v : Int32} {z : Nat} (hc : am_cd mi pc = some (.iconst n, ln, ns, [(v, z)])) (hp : pc + ln = pn) (kk : X xs L d mi (pn, lo, .inl v :: sk, h) res) : X xs L d mi (pc, lo, sk, h) res := by
  subst hp
  exact x_nx hc (rfl) kk
theorem x_bipush {n : Int} {v : Int32} {z : Nat} (hc : am_cd mi pc = some (.bipush n, ln, ns, [(v, z)])) (hp : pc + ln = pn) (kk : X xs L d mi (pn, lo, .inl v :: sk, h) res) : X xs L d mi (pc, lo, sk, h) res := by
  subst hp
  exact x_nx hc (rfl) kk
theorem x_sipush {n : Int} {v : Int32} {z : Nat} (hc : am_cd mi pc = some (.sipush n, ln, ns, [(v, z)])) (hp : pc + ln = pn) (kk : X xs L d mi (pn, lo, .inl v :: sk, h) res) : X xs L d mi (pc, lo, sk, h) res := by
  subst hp
  exact x_nx hc (rfl) kk
theorem x_ldc {n : Nat} {v : Int32} {z : Nat} (hc : am_cd mi pc = some (.ldc n, ln, ns, [(v, z)])) (hp : pc + ln = pn) (kk : X xs L d mi (pn, lo, .inl v :: sk, h) res) : X xs L d mi (pc, lo, sk, h) res := by
  subst hp
  exact x_nx hc (rfl) kk
theorem x_lds {n : Nat} (hc : am_cd mi pc = some (.ldc n, ln, [k], [])) (hp : pc + ln = pn) (hk : k = 1 ∨ k = 2) (kk : X xs L d mi (pn, lo, .inr (some k) :: sk, h) res) : X xs L d mi (pc, lo, sk, h) res := by
  subst hp
  exact x_nx hc (by simp only [am_do, a_lds, hk, if_true]) kk
theorem x_iload {x : Int32} (hc : am_cd mi pc = some (.iload k, ln, ns, sw)) (hp : pc + ln = pn) (hl : lo[k]? = some (some (.inl x))) (kk : X xs L d mi (pn, lo, .inl x :: sk, h) res) : X xs L d mi (pc, lo, sk, h) res := by
  subst hp
  exact x_nx hc (by simp only [am_do, a_ild, hl]) kk
theorem x_iload_n {x : Int32} {j : Fin 4} (hc : am_cd mi pc = some (.iload_n j, ln, ns, sw)) (hp : pc + ln = pn) (hl : lo[j.val]? = some (some (.inl x))) (kk : X xs L d mi (pn, lo, .inl x :: sk, h) res) : X xs L d mi (pc, lo, sk, h) res := by
  subst hp
  exact x_nx hc (by simp only [am_do, a_ild, hl]) kk
theorem x_aload {x : Option Nat} (hc : am_cd mi pc = some (.aload k, ln, ns, sw)) (hp : pc + ln = pn) (hl : lo[k]? = some (some (.inr x))) (kk : X xs L d mi (pn, lo, .inr x :: sk, h) res) : X xs L d mi (pc, lo, sk, h) res := by
  subst hp
  exact x_nx hc (by simp only [am_do, a_ald, hl]) kk
theorem x_aload_n {x : Option Nat} {j : Fin 4} (hc : am_cd mi pc = some (.aload_n j, ln, ns, sw)) (hp : pc + ln = pn) (hl : lo[j.val]? = some (some (.inr x))) (kk : X xs L d mi (pn, lo, .inr x :: sk, h) res) : X xs L d mi (pc, lo, sk, h) res := by
  subst hp
  exact x_nx hc (by simp only [am_do, a_ald, hl]) kk
theorem x_istore {x : Int32} {lo2 : Lo} (hc : am_cd mi pc = some (.istore k, ln, ns, sw)) (hp : pc + ln = pn) (hk : k < lo.length) (hl : lo.set k (some (.inl x)) = lo2) (kk : X xs L d mi (pn, lo2, sk, h) res) : X xs L d mi (pc, lo, .inl x :: sk, h) res := by
  subst hp
  exact x_nx hc (by simp only [am_do, a_ist, hk, if_true, hl]) kk
theorem x_istore_n {x : Int32} {lo2 : Lo} {j : Fin 4} (hc : am_cd mi pc = some (.istore_n j, ln, ns, sw)) (hp : pc + ln = pn) (hk : j.val < lo.length) (hl : lo.set j.val (some (.inl x)) = lo2) (kk : X xs L d mi (pn, lo2, sk, h) res) : X xs L d mi (pc, lo, .inl x :: sk, h) res := by
  subst hp
  exact x_nx hc (by simp only [am_do, a_ist, hk, if_true, hl]) kk
theorem x_astore {x : Option Nat} {lo2 : Lo} (hc : am_cd mi pc = some (.astore k, ln, ns, sw)) (hp : pc + ln = pn) (hk : k < lo.length) (hl : lo.set k (some (.inr x)) = lo2) (kk : X xs L d mi (pn, lo2, sk, h) res) : X xs L d mi (pc, lo, .inr x :: sk, h) res := by
  subst hp
  exact x_nx hc (by simp only [am_do, a_ast, hk, if_true, hl]) kk
theorem x_astore_n {x : Option Nat} {lo2 : Lo} {j : Fin 4} (hc : am_cd mi pc = some (.astore_n j, ln, ns, sw)) (hp : pc + ln = pn) (hk : j.val < lo.length) (hl : lo.set j.val (some (.inr x)) = lo2) (kk : X xs L d mi (pn, lo2, sk, h) res) : X xs L d mi (pc, lo, .inr x :: sk, h) res := by
  subst hp
  exact x_nx hc (by simp only [am_do, a_ast, hk, if_true, hl]) kk
theorem x_iinc {x v y : Int32} {z : Nat} {n : Int} {lo2 : Lo} (hc : am_cd mi pc = some (.iinc k n, ln, ns, [(v, z)])) (hp : pc + ln = pn) (hl : lo[k]? = some (some (.inl x))) (hv : x + v = y) (hs : lo.set k (some (.inl y)) = lo2) (kk : X xs L d mi (pn, lo2, sk, h) res) : X xs L d mi (pc, lo, sk, h) res := by
  subst hp
  exact x_nx hc (by subst hv; simp only [am_do, a_inc, hl, hs]) kk
theorem x_iadd {x y : Int32} (hc : am_cd mi pc = some (.iadd, ln, ns, sw)) (hp : pc + ln = pn) (kk : X xs L d mi (pn, lo, .inl (x + y) :: sk, h) res) : X xs L d mi (pc, lo, .inl y :: .inl x :: sk, h) res := by
  subst hp
  exact x_nx hc (rfl) kk
theorem x_isub {x y : Int32} (hc : am_cd mi pc = some (.isub, ln, ns, sw)) (hp : pc + ln = pn) (kk : X xs L d mi (pn, lo, .inl (x - y) :: sk, h) res) : X xs L d mi (pc, lo, .inl y :: .inl x :: sk, h) res := by
  subst hp
  exact x_nx hc (rfl) kk
theorem x_imul {x y : Int32} (hc : am_cd mi pc = some (.imul, ln, ns, sw)) (hp : pc + ln = pn) (kk : X xs L d mi (pn, lo, .inl (x * y) :: sk, h) res) : X xs L d mi (pc, lo, .inl y :: .inl x :: sk, h) res := by
  subst hp
  exact x_nx hc (rfl) kk
theorem x_iand {x y : Int32} (hc : am_cd mi pc = some (.iand, ln, ns, sw)) (hp : pc + ln = pn) (kk : X xs L d mi (pn, lo, .inl (x &&& y) :: sk, h) res) : X xs L d mi (pc, lo, .inl y :: .inl x :: sk, h) res := by
  subst hp
  exact x_nx hc (rfl) kk
theorem x_ior {x y : Int32} (hc : am_cd mi pc = some (.ior, ln, ns, sw)) (hp : pc + ln = pn) (kk : X xs L d mi (pn, lo, .inl (x ||| y) :: sk, h) res) : X xs L d mi (pc, lo, .inl y :: .inl x :: sk, h) res := by
  subst hp
  exact x_nx hc (rfl) kk
theorem x_ishl {x y : Int32} (hc : am_cd mi pc = some (.ishl, ln, ns, sw)) (hp : pc + ln = pn) (kk : X xs L d mi (pn, lo, .inl (x <<< (y &&& 31)) :: sk, h) res) : X xs L d mi (pc, lo, .inl y :: .inl x :: sk, h) res := by
  subst hp
  exact x_nx hc (rfl) kk
theorem x_ishr {x y : Int32} (hc : am_cd mi pc = some (.ishr, ln, ns, sw)) (hp : pc + ln = pn) (kk : X xs L d mi (pn, lo, .inl (x >>> (y &&& 31)) :: sk, h) res) : X xs L d mi (pc, lo, .inl y :: .inl x :: sk, h) res := by
  subst hp
  exact x_nx hc (rfl) kk
theorem x_idiv {x y : Int32} (hc : am_cd mi pc = some (.idiv, ln, ns, sw)) (hp : pc + ln = pn) (hy : ¬ y = 0) (kk : X xs L d mi (pn, lo, .inl (x / y) :: sk, h) res) : X xs L d mi (pc, lo, .inl y :: .inl x :: sk, h) res := by
  subst hp
  exact x_nx hc (by simp only [am_do, a_dvd, hy, if_false]) kk
theorem x_irem {x y : Int32} (hc : am_cd mi pc = some (.irem, ln, ns, sw)) (hp : pc + ln = pn) (hy : ¬ y = 0) (kk : X xs L d mi (pn, lo, .inl (x - x / y * y) :: sk, h) res) : X xs L d mi (pc, lo, .inl y :: .inl x :: sk, h) res := by
  subst hp
  exact x_nx hc (by simp only [am_do, a_dvd, hy, if_false]) kk
theorem x_i2c {x : Int32} (hc : am_cd mi pc = some (.i2c, ln, ns, sw)) (hp : pc + ln = pn) (kk : X xs L d mi (pn, lo, .inl (x.toUInt32 % 65536).toInt32 :: sk, h) res) : X xs L d mi (pc, lo, .inl x :: sk, h) res := by
  subst hp
  exact x_nx hc (rfl) kk
theorem x_if_eq {x : Int32} {off : Int} {t : Nat} (hc : am_cd mi pc = some (.ifCond .eq off, ln, [t], sw)) (hp : pc + ln = pn) (kt : x = 0 → X xs L d mi (t, lo, sk, h) res) (kf : ¬ (x = 0) → X xs L d mi (pn, lo, sk, h) res) : X xs L d mi (pc, lo, .inl x :: sk, h) res := by
  subst hp
  by_cases hq : x = 0
  · exact x_nx hc (st' := (t, lo, sk, h)) (by simp only [am_do, a_if]; rw [if_pos (decide_eq_true hq)]) (kt hq)
  · exact x_nx hc (st' := (pc + ln, lo, sk, h)) (by simp only [am_do, a_if]; rw [if_neg (by simpa using hq)]) (kf hq)
theorem x_if_ne {x : Int32} {off : Int} {t : Nat} (hc : am_cd mi pc = some (.ifCond .ne off, ln, [t], sw)) (hp : pc + ln = pn) (kt : ¬ x = 0 → X xs L d mi (t, lo, sk, h) res) (kf : ¬ (¬ x = 0) → X xs L d mi (pn, lo, sk, h) res) : X xs L d mi (pc, lo, .inl x :: sk, h) res := by
  subst hp
  by_cases hq : ¬ x = 0
  · exact x_nx hc (st' := (t, lo, sk, h)) (by simp only [am_do, a_if]; rw [if_pos (decide_eq_true hq)]) (kt hq)
  · exact x_nx hc (st' := (pc + ln, lo, sk, h)) (by simp only [am_do, a_if]; rw [if_neg (by simpa using hq)]) (kf hq)
theorem x_if_lt {x : Int32} {off : Int} {t : Nat} (hc : am_cd mi pc = some (.ifCond .lt off, ln, [t], sw)) (hp : pc + ln = pn) (kt : x < 0 → X xs L d mi (t, lo, sk, h) res) (kf : ¬ (x < 0) → X xs L d mi (pn, lo, sk, h) res) : X xs L d mi (pc, lo, .inl x :: sk, h) res := by
  subst hp
  by_cases hq : x < 0
  · exact x_nx hc (st' := (t, lo, sk, h)) (by simp only [am_do, a_if]; rw [if_pos (decide_eq_true hq)]) (kt hq)
  · exact x_nx hc (st' := (pc + ln, lo, sk, h)) (by simp only [am_do, a_if]; rw [if_neg (by simpa using hq)]) (kf hq)
theorem x_if_ge {x : Int32} {off : Int} {t : Nat} (hc : am_cd mi pc = some (.ifCond .ge off, ln, [t], sw)) (hp : pc + ln = pn) (kt : 0 ≤ x → X xs L d mi (t, lo, sk, h) res) (kf : ¬ (0 ≤ x) → X xs L d mi (pn, lo, sk, h) res) : X xs L d mi (pc, lo, .inl x :: sk, h) res := by
  subst hp
  by_cases hq : 0 ≤ x
  · exact x_nx hc (st' := (t, lo, sk, h)) (by simp only [am_do, a_if]; rw [if_pos (decide_eq_true hq)]) (kt hq)
  · exact x_nx hc (st' := (pc + ln, lo, sk, h)) (by simp only [am_do, a_if]; rw [if_neg (by simpa using hq)]) (kf hq)
theorem x_if_gt {x : Int32} {off : Int} {t : Nat} (hc : am_cd mi pc = some (.ifCond .gt off, ln, [t], sw)) (hp : pc + ln = pn) (kt : 0 < x → X xs L d mi (t, lo, sk, h) res) (kf : ¬ (0 < x) → X xs L d mi (pn, lo, sk, h) res) : X xs L d mi (pc, lo, .inl x :: sk, h) res := by
  subst hp
  by_cases hq : 0 < x
  · exact x_nx hc (st' := (t, lo, sk, h)) (by simp only [am_do, a_if]; rw [if_pos (decide_eq_true hq)]) (kt hq)
  · exact x_nx hc (st' := (pc + ln, lo, sk, h)) (by simp only [am_do, a_if]; rw [if_neg (by simpa using hq)]) (kf hq)
theorem x_if_le {x : Int32} {off : Int} {t : Nat} (hc : am_cd mi pc = some (.ifCond .le off, ln, [t], sw)) (hp : pc + ln = pn) (kt : x ≤ 0 → X xs L d mi (t, lo, sk, h) res) (kf : ¬ (x ≤ 0) → X xs L d mi (pn, lo, sk, h) res) : X xs L d mi (pc, lo, .inl x :: sk, h) res := by
  subst hp
  by_cases hq : x ≤ 0
  · exact x_nx hc (st' := (t, lo, sk, h)) (by simp only [am_do, a_if]; rw [if_pos (decide_eq_true hq)]) (kt hq)
  · exact x_nx hc (st' := (pc + ln, lo, sk, h)) (by simp only [am_do, a_if]; rw [if_neg (by simpa using hq)]) (kf hq)
theorem x_icmp_eq {x y : Int32} {off : Int} {t : Nat} (hc : am_cd mi pc = some (.if_icmp .eq off, ln, [t], sw)) (hp : pc + ln = pn) (kt : x = y → X xs L d mi (t, lo, sk, h) res) (kf : ¬ (x = y) → X xs L d mi (pn, lo, sk, h) res) : X xs L d mi (pc, lo, .inl y :: .inl x :: sk, h) res := by
  subst hp
  by_cases hq : x = y
  · exact x_nx hc (st' := (t, lo, sk, h)) (by simp only [am_do, a_cmp]; rw [if_pos (decide_eq_true hq)]) (kt hq)
  · exact x_nx hc (st' := (pc + ln, lo, sk, h)) (by simp only [am_do, a_cmp]; rw [if_neg (by simpa using hq)]) (kf hq)
theorem x_icmp_ne {x y : Int32} {off : Int} {t : Nat} (hc : am_cd mi pc = some (.if_icmp .ne off, ln, [t], sw)) (hp : pc + ln = pn) (kt : ¬ x = y → X xs L d mi (t, lo, sk, h) res) (kf : ¬ (¬ x = y) → X xs L d mi (pn, lo, sk, h) res) : X xs L d mi (pc, lo, .inl y :: .inl x :: sk, h) res := by
  subst hp
  by_cases hq : ¬ x = y
  · exact x_nx hc (st' := (t, lo, sk, h)) (by simp only [am_do, a_cmp]; rw [if_pos (decide_eq_true hq)]) (kt hq)
  · exact x_nx hc (st' := (pc + ln, lo, sk, h)) (by simp only [am_do, a_cmp]; rw [if_neg (by simpa using hq)]) (kf hq)
theorem x_icmp_lt {x y : Int32} {off : Int} {t : Nat} (hc : am_cd mi pc = some (.if_icmp .lt off, ln, [t], sw)) (hp : pc + ln = pn) (kt : x < y → X xs L d mi (t, lo, sk, h) res) (kf : ¬ (x < y) → X xs L d mi (pn, lo, sk, h) res) : X xs L d mi (pc, lo, .inl y :: .inl x :: sk, h) res := by
  subst hp
  by_cases hq : x < y
  · exact x_nx hc (st' := (t, lo, sk, h)) (by simp only [am_do, a_cmp]; rw [if_pos (decide_eq_true hq)]) (kt hq)
  · exact x_nx hc (st' := (pc + ln, lo, sk, h)) (by simp only [am_do, a_cmp]; rw [if_neg (by simpa using hq)]) (kf hq)
theorem x_icmp_ge {x y : Int32} {off : Int} {t : Nat} (hc : am_cd mi pc = some (.if_icmp .ge off, ln, [t], sw)) (hp : pc + ln = pn) (kt : y ≤ x → X xs L d mi (t, lo, sk, h) res) (kf : ¬ (y ≤ x) → X xs L d mi (pn, lo, sk, h) res) : X xs L d mi (pc, lo, .inl y :: .inl x :: sk, h) res := by
  subst hp
  by_cases hq : y ≤ x
  · exact x_nx hc (st' := (t, lo, sk, h)) (by simp only [am_do, a_cmp]; rw [if_pos (decide_eq_true hq)]) (kt hq)
  · exact x_nx hc (st' := (pc + ln, lo, sk, h)) (by simp only [am_do, a_cmp]; rw [if_neg (by simpa using hq)]) (kf hq)
theorem x_icmp_gt {x y : Int32} {off : Int} {t : Nat} (hc : am_cd mi pc = some (.if_icmp .gt off, ln, [t], sw)) (hp : pc + ln = pn) (kt : y < x → X xs L d mi (t, lo, sk, h) res) (kf : ¬ (y < x) → X xs L d mi (pn, lo, sk, h) res) : X xs L d mi (pc, lo, .inl y :: .inl x :: sk, h) res := by
  subst hp
  by_cases hq : y < x
  · exact x_nx hc (st' := (t, lo, sk, h)) (by simp only [am_do, a_cmp]; rw [if_pos (decide_eq_true hq)]) (kt hq)
  · exact x_nx hc (st' := (pc + ln, lo, sk, h)) (by simp only [am_do, a_cmp]; rw [if_neg (by simpa using hq)]) (kf hq)
theorem x_icmp_le {x y : Int32} {off : Int} {t : Nat} (hc : am_cd mi pc = some (.if_icmp .le off, ln, [t], sw)) (hp : pc + ln = pn) (kt : x ≤ y → X xs L d mi (t, lo, sk, h) res) (kf : ¬ (x ≤ y) → X xs L d mi (pn, lo, sk, h) res) : X xs L d mi (pc, lo, .inl y :: .inl x :: sk, h) res := by
  subst hp
  by_cases hq : x ≤ y
  · exact x_nx hc (st' := (t, lo, sk, h)) (by simp only [am_do, a_cmp]; rw [if_pos (decide_eq_true hq)]) (kt hq)
  · exact x_nx hc (st' := (pc + ln, lo, sk, h)) (by simp only [am_do, a_cmp]; rw [if_neg (by simpa using hq)]) (kf hq)
theorem x_ifnull_n {off : Int} {t : Nat} (hc : am_cd mi pc = some (.ifnull off, ln, [t], sw)) (kk : X xs L d mi (t, lo, sk, h) res) : X xs L d mi (pc, lo, .inr none :: sk, h) res := x_nx hc rfl kk
theorem x_ifnull_s {off : Int} {t o : Nat} (hc : am_cd mi pc = some (.ifnull off, ln, [t], sw)) (hp : pc + ln = pn) (kk : X xs L d mi (pn, lo, sk, h) res) : X xs L d mi (pc, lo, .inr (some o) :: sk, h) res := by
  subst hp
  exact x_nx hc rfl kk
theorem x_ifnonnull_n {off : Int} {t : Nat} (hc : am_cd mi pc = some (.ifnonnull off, ln, [t], sw)) (hp : pc + ln = pn) (kk : X xs L d mi (pn, lo, sk, h) res) : X xs L d mi (pc, lo, .inr none :: sk, h) res := by
  subst hp
  exact x_nx hc rfl kk
theorem x_ifnonnull_s {off : Int} {t o : Nat} (hc : am_cd mi pc = some (.ifnonnull off, ln, [t], sw)) (kk : X xs L d mi (t, lo, sk, h) res) : X xs L d mi (pc, lo, .inr (some o) :: sk, h) res := x_nx hc rfl kk
theorem x_goto {off : Int} {t : Nat} (hc : am_cd mi pc = some (.goto off, ln, [t], sw)) (kk : X xs L d mi (t, lo, sk, h) res) : X xs L d mi (pc, lo, sk, h) res := x_nx hc rfl kk
theorem x_tsw {x : Int32} {a b c : Int} {offs : Array Int} {t u : Nat} (hc : am_cd mi pc = some (.tableswitch a b c offs, ln, [t], sw)) (ht : a_tgt x sw t = u) (kk : X xs L d mi (u, lo, sk, h) res) : X xs L d mi (pc, lo, .inl x :: sk, h) res := by
  subst ht
  exact x_nx hc rfl kk
theorem x_lsw {x : Int32} {a : Int} {ps : Array (Int × Int)} {t u : Nat} (hc : am_cd mi pc = some (.lookupswitch a ps, ln, [t], sw)) (ht : a_tgt x sw t = u) (kk : X xs L d mi (u, lo, sk, h) res) : X xs L d mi (pc, lo, .inl x :: sk, h) res := by
  subst ht
  exact x_nx hc rfl kk
theorem x_null  (hc : am_cd mi pc = some (.aconst_null, ln, ns, sw)) (hp : pc + ln = pn) (kk : X xs L d mi (pn, lo, .inr none :: sk, h) res) : X xs L d mi (pc, lo, sk, h) res := by
  subst hp
  exact x_nx hc (rfl) kk
theorem x_pop {v : AV} (hc : am_cd mi pc = some (.pop, ln, ns, sw)) (hp : pc + ln = pn) (kk : X xs L d mi (pn, lo, sk, h) res) : X xs L d mi (pc, lo, v :: sk, h) res := by
  subst hp
  exact x_nx hc (rfl) kk
theorem x_dup {v : AV} (hc : am_cd mi pc = some (.dup, ln, ns, sw)) (hp : pc + ln = pn) (kk : X xs L d mi (pn, lo, v :: v :: sk, h) res) : X xs L d mi (pc, lo, v :: sk, h) res := by
  subst hp
  exact x_nx hc (rfl) kk
theorem x_dup2 {v w : AV} (hc : am_cd mi pc = some (.dup2, ln, ns, sw)) (hp : pc + ln = pn) (kk : X xs L d mi (pn, lo, v :: w :: v :: w :: sk, h) res) : X xs L d mi (pc, lo, v :: w :: sk, h) res := by
  subst hp
  exact x_nx hc (rfl) kk
theorem x_getI {n o c : Nat} {v : Int32} (hc : am_cd mi pc = some (.getfield n, ln, [c, k, 0], sw)) (hp : pc + ln = pn) (hk : hK h o = c) (hv : hI h o k = v) (kk : X xs L d mi (pn, lo, .inl v :: sk, h) res) : X xs L d mi (pc, lo, .inr (some o) :: sk, h) res := by
  subst hp
  exact x_nx hc (by subst hv; simp only [am_do, a_get, hk, if_true]) kk
theorem x_getZ {n o c : Nat} {v : Int32} (hc : am_cd mi pc = some (.getfield n, ln, [c, k, 1], sw)) (hp : pc + ln = pn) (hk : hK h o = c) (hv : hI h o k = v) (kk : X xs L d mi (pn, lo, .inl v :: sk, h) res) : X xs L d mi (pc, lo, .inr (some o) :: sk, h) res := by
  subst hp
  exact x_nx hc (by subst hv; simp only [am_do, a_get, hk, if_true]) kk
theorem x_getR {n o c : Nat} {v : Option Nat} (hc : am_cd mi pc = some (.getfield n, ln, [c, k, 2], sw)) (hp : pc + ln = pn) (hk : hK h o = c) (hv : hR h o k = v) (kk : X xs L d mi (pn, lo, .inr v :: sk, h) res) : X xs L d mi (pc, lo, .inr (some o) :: sk, h) res := by
  subst hp
  exact x_nx hc (by subst hv; simp only [am_do, a_get, hk, if_true]) kk
theorem x_putI {n o c : Nat} {v : Int32} (hc : am_cd mi pc = some (.putfield n, ln, [c, k, 0], sw)) (hp : pc + ln = pn) (hk : hK h o = c) (kk : X xs L d mi (pn, lo, sk, sI h o k v) res) : X xs L d mi (pc, lo, .inl v :: .inr (some o) :: sk, h) res := by
  subst hp
  exact x_nx hc (by simp only [am_do, a_put, hk, if_true]) kk
theorem x_putZ {n o c : Nat} {v : Int32} (hc : am_cd mi pc = some (.putfield n, ln, [c, k, 1], sw)) (hp : pc + ln = pn) (hk : hK h o = c) (hv : v = 0 ∨ v = 1) (kk : X xs L d mi (pn, lo, sk, sI h o k v) res) : X xs L d mi (pc, lo, .inl v :: .inr (some o) :: sk, h) res := by
  subst hp
  exact x_nx hc (by simp only [am_do, a_put]; rw [if_pos ⟨hk, hv⟩]) kk
theorem x_putR {n o c : Nat} {v : Option Nat} (hc : am_cd mi pc = some (.putfield n, ln, [c, k, 2], sw)) (hp : pc + ln = pn) (hk : hK h o = c) (kk : X xs L d mi (pn, lo, sk, sR h o k v) res) : X xs L d mi (pc, lo, .inr v :: .inr (some o) :: sk, h) res := by
  subst hp
  exact x_nx hc (by simp only [am_do, a_put, hk, if_true]) kk
theorem x_iaload {o : Nat} {i v : Int32} (hc : am_cd mi pc = some (.iaload, ln, [], sw)) (hp : pc + ln = pn) (hk : hK h o = 20) (hi : vp_in i (hL h o)) (hv : hI h o i.toNatClampNeg = v) (kk : X xs L d mi (pn, lo, .inl v :: sk, h) res) : X xs L d mi (pc, lo, .inl i :: .inr (some o) :: sk, h) res := by
  subst hp
  exact x_nx hc (by subst hv; simp only [am_do, a_ixl]; rw [if_pos ⟨hk, hi⟩]) kk
theorem x_caload {o : Nat} {i v : Int32} (hc : am_cd mi pc = some (.caload, ln, ns, sw)) (hp : pc + ln = pn) (hk : hK h o = 21) (hi : vp_in i (hL h o)) (hv : hI h o i.toNatClampNeg = v) (kk : X xs L d mi (pn, lo, .inl v :: sk, h) res) : X xs L d mi (pc, lo, .inl i :: .inr (some o) :: sk, h) res := by
  subst hp
  exact x_nx hc (by subst hv; simp only [am_do, a_ixl]; rw [if_pos ⟨hk, hi⟩]) kk
theorem x_baload {o : Nat} {i v : Int32} (hc : am_cd mi pc = some (.baload, ln, ns, sw)) (hp : pc + ln = pn) (hk : hK h o = 22) (hi : vp_in i (hL h o)) (hv : hI h o i.toNatClampNeg = v) (kk : X xs L d mi (pn, lo, .inl v :: sk, h) res) : X xs L d mi (pc, lo, .inl i :: .inr (some o) :: sk, h) res := by
  subst hp
  exact x_nx hc (by subst hv; simp only [am_do, a_ixl]; rw [if_pos ⟨hk, hi⟩]) kk
theorem x_sld {i : Int32} {z : Nat} {zs : List Nat} (hc : am_cd mi pc = some (.iaload, ln, z :: zs, sw)) (hp : pc + ln = pn) (hi : vp_in i L) (kk : X xs L d mi (pn, lo, .inl (xs i.toNatClampNeg) :: sk, h) res) : X xs L d mi (pc, lo, .inl i :: .inr (some 0) :: sk, h) res := by
  subst hp
  exact x_nx hc (by simp only [am_do, a_scl]; rw [if_pos (show ¬ (i < 0 ∨ L ≤ i.toNatClampNeg) from hi)]) kk
theorem x_iastore {o : Nat} {i v w : Int32} (hc : am_cd mi pc = some (.iastore, ln, ns, sw)) (hp : pc + ln = pn) (hk : hK h o = 20) (hi : vp_in i (hL h o)) (hw : v = w) (kk : X xs L d mi (pn, lo, sk, sI h o i.toNatClampNeg w) res) : X xs L d mi (pc, lo, .inl v :: .inl i :: .inr (some o) :: sk, h) res := by
  subst hp
  exact x_nx hc (by subst hw; simp only [am_do, a_ixs]; rw [if_pos ⟨hk, hi⟩]) kk
theorem x_castore {o : Nat} {i v w : Int32} (hc : am_cd mi pc = some (.castore, ln, ns, sw)) (hp : pc + ln = pn) (hk : hK h o = 21) (hi : vp_in i (hL h o)) (hw : vp_nar .char v = w) (kk : X xs L d mi (pn, lo, sk, sI h o i.toNatClampNeg w) res) : X xs L d mi (pc, lo, .inl v :: .inl i :: .inr (some o) :: sk, h) res := by
  subst hp
  exact x_nx hc (by subst hw; simp only [am_do, a_ixs]; rw [if_pos ⟨hk, hi⟩]) kk
theorem x_bastore {o : Nat} {i v w : Int32} (hc : am_cd mi pc = some (.bastore, ln, ns, sw)) (hp : pc + ln = pn) (hk : hK h o = 22) (hi : vp_in i (hL h o)) (hw : vp_nar .boolean v = w) (kk : X xs L d mi (pn, lo, sk, sI h o i.toNatClampNeg w) res) : X xs L d mi (pc, lo, .inl v :: .inl i :: .inr (some o) :: sk, h) res := by
  subst hp
  exact x_nx hc (by subst hw; simp only [am_do, a_ixs]; rw [if_pos ⟨hk, hi⟩]) kk
theorem x_aaload {o : Nat} {i : Int32} {v : Option Nat} (hc : am_cd mi pc = some (.aaload, ln, ns, sw)) (hp : pc + ln = pn) (hk : hK h o = 23 ∨ hK h o = 24) (hi : vp_in i (hL h o)) (hv : hR h o i.toNatClampNeg = v) (kk : X xs L d mi (pn, lo, .inr v :: sk, h) res) : X xs L d mi (pc, lo, .inl i :: .inr (some o) :: sk, h) res := by
  subst hp
  exact x_nx hc (by subst hv; simp only [am_do, a_axl]; rw [if_pos ⟨hk, hi⟩]) kk
theorem x_aastore {o v kd ke : Nat} {i : Int32} (hc : am_cd mi pc = some (.aastore, ln, [kd, ke], sw)) (hp : pc + ln = pn) (hk : hK h o = kd) (hv : hK h v = ke) (hi : vp_in i (hL h o)) (kk : X xs L d mi (pn, lo, sk, sR h o i.toNatClampNeg (some v)) res) : X xs L d mi (pc, lo, .inr (some v) :: .inl i :: .inr (some o) :: sk, h) res := by
  subst hp
  exact x_nx hc (by simp only [am_do, a_axs]; rw [if_pos ⟨⟨hk, hv⟩, hi⟩]) kk
theorem x_aastoreN {o kd ke : Nat} {i : Int32} (hc : am_cd mi pc = some (.aastore, ln, [kd, ke], sw)) (hp : pc + ln = pn) (hk : hK h o = kd) (hi : vp_in i (hL h o)) (kk : X xs L d mi (pn, lo, sk, sR h o i.toNatClampNeg none) res) : X xs L d mi (pc, lo, .inr none :: .inl i :: .inr (some o) :: sk, h) res := by
  subst hp
  exact x_nx hc (by simp only [am_do, a_axs]; rw [if_pos ⟨hk, hi⟩]) kk
theorem x_alen {o n : Nat} (hc : am_cd mi pc = some (.arraylength, ln, [], sw)) (hp : pc + ln = pn) (hk : 20 ≤ hK h o ∧ hK h o ≤ 24) (hn : hL h o = n) (kk : X xs L d mi (pn, lo, .inl (Int32.ofNat n) :: sk, h) res) : X xs L d mi (pc, lo, .inr (some o) :: sk, h) res := by
  subst hp
  exact x_nx hc (by subst hn; simp only [am_do, a_len]; rw [if_pos hk]) kk
theorem x_slen {z : Nat} {zs : List Nat} (hc : am_cd mi pc = some (.arraylength, ln, z :: zs, sw)) (hp : pc + ln = pn) (kk : X xs L d mi (pn, lo, .inl (Int32.ofNat L) :: sk, h) res) : X xs L d mi (pc, lo, .inr (some 0) :: sk, h) res := by
  subst hp
  exact x_nx hc (rfl) kk
theorem x_new {n o c q : Nat} (hc : am_cd mi pc = some (.new n, ln, [c, q], sw)) (hp : pc + ln = pn) (ho : hN h = o) (kk : X xs L d mi (pn, lo, .inr (some o) :: sk, nw h c 0 q) res) : X xs L d mi (pc, lo, sk, h) res := by
  subst hp
  exact x_nx hc (by subst ho; rfl) kk
theorem x_newarray {ty : ArrayType} {o kd q : Nat} {i : Int32} (hc : am_cd mi pc = some (.newarray ty, ln, [kd], sw)) (hp : pc + ln = pn) (h0 : ¬ i < 0) (hq : i.toNatClampNeg = q) (hm : q ≤ 100000) (ho : hN h = o) (kk : X xs L d mi (pn, lo, .inr (some o) :: sk, nw h kd q q) res) : X xs L d mi (pc, lo, .inl i :: sk, h) res := by
  subst hp
  exact x_nx hc (by subst ho; subst hq; simp only [am_do, a_arr]; rw [if_pos ⟨h0, hm⟩]) kk
theorem x_anewarray {j : Nat} {o kd q : Nat} {i : Int32} (hc : am_cd mi pc = some (.anewarray j, ln, [kd], sw)) (hp : pc + ln = pn) (h0 : ¬ i < 0) (hq : i.toNatClampNeg = q) (hm : q ≤ 100000) (ho : hN h = o) (kk : X xs L d mi (pn, lo, .inr (some o) :: sk, nw h kd q q) res) : X xs L d mi (pc, lo, .inl i :: sk, h) res := by
  subst hp
  exact x_nx hc (by subst ho; subst hq; simp only [am_do, a_arr]; rw [if_pos ⟨h0, hm⟩]) kk
theorem x_obj {n o : Nat} (hc : am_cd mi pc = some (.invokespecial n, ln, [], sw)) (hp : pc + ln = pn) (hs : sk.length ≤ 8) (kk : X xs L d mi (pn, lo, sk, h) res) : X xs L d mi (pc, lo, .inr (some o) :: sk, h) res := by
  subst hp
  exact x_nx hc (by simp only [am_do, a_obj, hs, if_true]) kk
theorem x_idx {n o : Nat} {x v : Int32} (hc : am_cd mi pc = some (.invokevirtual n, ln, [], sw)) (hp : pc + ln = pn) (ho : o = 1 ∨ o = 2) (hs : sk.length ≤ 8) (hv : s_idx x (s_txt o) 0 = v) (kk : X xs L d mi (pn, lo, .inl v :: sk, h) res) : X xs L d mi (pc, lo, .inl x :: .inr (some o) :: sk, h) res := by
  subst hp
  exact x_nx hc (by subst hv; simp only [am_do, a_idx]; rw [if_pos ⟨ho, hs⟩]) kk
theorem x_acpy {j o q : Nat} {n dp sp : Int32} (hc : am_cd mi pc = some (.invokestatic j, ln, [], sw)) (hp : pc + ln = pn) (hk : hK h o = 20 ∧ hK h q = 20 ∧ o ≠ q) (h1 : ¬ sp < 0 ∧ ¬ dp < 0 ∧ ¬ n < 0) (h2 : sp.toNatClampNeg + n.toNatClampNeg ≤ hL h o ∧ dp.toNatClampNeg + n.toNatClampNeg ≤ hL h q) (hs : sk.length ≤ 8) (kk : X xs L d mi (pn, lo, sk, sA h q (va_cpy (hI h o) (hI h q) sp.toNatClampNeg dp.toNatClampNeg n.toNatClampNeg)) res) : X xs L d mi (pc, lo, .inl n :: .inl dp :: .inr (some q) :: .inl sp :: .inr (some o) :: sk, h) res := by
  subst hp
  exact x_nx hc (by simp only [am_do, a_cpy]; rw [if_pos ⟨hk, h1, h2, hs⟩]; rfl) kk
theorem x_cln {j o n q z : Nat} {f : Nat → Int32} (hc : am_cd mi pc = some (.invokevirtual j, ln, [z], sw)) (hp : pc + ln = pn) (hk : hK h o = 20) (hs : sk.length ≤ 8) (hn : hN h = n) (hl : hL h o = q) (hf : hI h o = f) (kk : X xs L d mi (pn, lo, .inr (some n) :: sk, sA (nw h 20 q q) n f) res) : X xs L d mi (pc, lo, .inr (some o) :: sk, h) res := by
  subst hp
  exact x_nx hc (by subst hn; subst hl; subst hf; simp only [am_do, a_cln]; rw [if_pos ⟨hk, hs⟩]) kk
theorem x_cch {j o : Nat} (hc : am_cd mi pc = some (.checkcast j, ln, ns, sw)) (hp : pc + ln = pn) (hk : hK h o = 20) (kk : X xs L d mi (pn, lo, .inr (some o) :: sk, h) res) : X xs L d mi (pc, lo, .inr (some o) :: sk, h) res := by
  subst hp
  exact x_nx hc (by simp only [am_do, a_cch, hk, if_true]) kk
/-- a call: the values taken lie on the stack, the last on top; what comes back is r -/
theorem x_callS {j mj n : Nat} {as rest sk2 : List AV} {r : Res} (hc : am_cd mi pc = some (.invokestatic j, ln, [mj, n], sw)) (hp : pc + ln = pn) (ha : (sk.take n).reverse = as) (hr0 : sk.drop n = rest) (hn : n ≤ sk.length ∧ sk.length ≤ n + 8) (hr : Rn xs L d mj as h r) (hs : r.1.toList ++ rest = sk2) (kk : X xs L d mi (pn, lo, sk2, r.2) res) : X xs L d mi (pc, lo, sk, h) res := by
  subst hp; subst ha; subst hr0; subst hs
  exact x_cl hc (by simp only [am_do, a_call]; rw [if_pos hn]) hr kk
theorem x_callI {j mj n kd o : Nat} {as rest sk2 : List AV} {r : Res} (hc : am_cd mi pc = some (.invokespecial j, ln, [mj, n, kd], sw)) (hp : pc + ln = pn) (ha : (sk.take n).reverse = .inr (some o) :: as) (hr0 : sk.drop n = rest) (hn : n ≤ sk.length ∧ sk.length ≤ n + 8) (hk : hK h o = kd) (hr : Rn xs L d mj (.inr (some o) :: as) h r) (hs : r.1.toList ++ rest = sk2) (kk : X xs L d mi (pn, lo, sk2, r.2) res) : X xs L d mi (pc, lo, sk, h) res := by
  subst hp; subst hr0; subst hs
  exact x_cl hc (by simp only [am_do, a_callv, ha]; rw [if_pos ⟨hn, hk⟩]) hr kk
theorem x_callV {j mj n kd o : Nat} {as rest sk2 : List AV} {r : Res} (hc : am_cd mi pc = some (.invokevirtual j, ln, [mj, n, kd], sw)) (hp : pc + ln = pn) (ha : (sk.take n).reverse = .inr (some o) :: as) (hr0 : sk.drop n = rest) (hn : n ≤ sk.length ∧ sk.length ≤ n + 8) (hk : hK h o = kd) (hr : Rn xs L d mj (.inr (some o) :: as) h r) (hs : r.1.toList ++ rest = sk2) (kk : X xs L d mi (pn, lo, sk2, r.2) res) : X xs L d mi (pc, lo, sk, h) res := by
  subst hp; subst hr0; subst hs
  exact x_cl hc (by simp only [am_do, a_callv, ha]; rw [if_pos ⟨hn, hk⟩]) hr kk
theorem x_iret {v : Int32} (hc : am_cd mi pc = some (.ireturn, ln, ns, sw)) (ht : am_ret mi = some .int) (hv : (some (.inl v), h) = res) : X xs L d mi (pc, lo, [.inl v], h) res := by
  subst hv
  exact x_rt hc (by simp only [am_do, ht, a_iret])
theorem x_zret {v : Int32} (hc : am_cd mi pc = some (.ireturn, ln, ns, sw)) (ht : am_ret mi = some .boolean) (hz : v = 0 ∨ v = 1) (hv : (some (.inl v), h) = res) : X xs L d mi (pc, lo, [.inl v], h) res := by
  subst hv
  exact x_rt hc (by simp only [am_do, ht, a_iret]; rw [if_pos hz])
theorem x_cret {v : Int32} (hc : am_cd mi pc = some (.ireturn, ln, ns, sw)) (ht : am_ret mi = some .char) (hz : ¬ v < 0 ∧ v < 65536) (hv : (some (.inl v), h) = res) : X xs L d mi (pc, lo, [.inl v], h) res := by
  subst hv
  exact x_rt hc (by simp only [am_do, ht, a_iret]; rw [if_pos hz])
theorem x_aret {v : Option Nat} {C : String} (hc : am_cd mi pc = some (.areturn, ln, ns, sw)) (ht : am_ret mi = some (.object C)) (hv : (some (.inr v), h) = res) : X xs L d mi (pc, lo, [.inr v], h) res := by
  subst hv
  exact x_rt hc (by simp only [am_do, ht, a_aret])
theorem x_rret {v : Option Nat} {C : FieldType} (hc : am_cd mi pc = some (.areturn, ln, ns, sw)) (ht : am_ret mi = some (.array C)) (hv : (some (.inr v), h) = res) : X xs L d mi (pc, lo, [.inr v], h) res := by
  subst hv
  exact x_rt hc (by simp only [am_do, ht, a_aret])
theorem x_vret (hc : am_cd mi pc = some (.return_, ln, ns, sw)) (ht : am_ret mi = none) (hv : (none, h) = res) : X xs L d mi (pc, lo, [], h) res := by
  subst hv
  exact x_rt hc (by simp only [am_do, ht, a_vret])
end XL

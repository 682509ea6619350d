-- instructions at their places, for simp: by program (wip/whole/prog/erows.py)
section ER
variable {xs : Nat → Int32} {L d : Nat} {lo : Lo} {sk : List AV} {h : Hp} {res : Res}
theorem k_0_0 : am_cd 0 0 = some (.aload_n 0, 1, [], [])   := rfl
theorem k_0_1 : am_cd 0 1 = some (.invokespecial 1, 3, [], [(0, 593), (0, 80)])   := rfl
theorem k_0_4 : am_cd 0 4 = some (.aload_n 0, 1, [], [])   := rfl
theorem k_0_5 : am_cd 0 5 = some (.aload_n 1, 1, [], [])   := rfl
theorem k_0_6 : am_cd 0 6 = some (.putfield 7, 3, [0, 0, 2], [(0, 594)])   := rfl
theorem k_0_9 : am_cd 0 9 = some (.aload_n 0, 1, [], [])   := rfl
theorem k_0_10 : am_cd 0 10 = some (.iload_n 2, 1, [], [])   := rfl
theorem k_0_11 : am_cd 0 11 = some (.putfield 13, 3, [0, 1, 0], [(0, 596)])   := rfl
theorem k_0_14 : am_cd 0 14 = some (.aload_n 0, 1, [], [])   := rfl
theorem k_0_15 : am_cd 0 15 = some (.iload_n 3, 1, [], [])   := rfl
theorem k_0_16 : am_cd 0 16 = some (.putfield 17, 3, [0, 2, 1], [(0, 598)])   := rfl
theorem k_0_19 : am_cd 0 19 = some (.return_, 1, [], [])   := rfl
theorem e_0_0 {x : Option Nat} {a1 a2 a3 : Option AV} : X xs L d 0 (0, [some (.inr x), a1, a2, a3], sk, h) res ↔ X xs L d 0 (1, [some (.inr x), a1, a2, a3], .inr x :: sk, h) res := i_aload_n k_0_0 rfl
theorem e_0_1 {o : Nat} : X xs L d 0 (1, lo, .inr (some o) :: sk, h) res ↔ sk.length ≤ 8 ∧ X xs L d 0 (4, lo, sk, h) res := i_obj k_0_1
theorem e_0_4 {x : Option Nat} {a1 a2 a3 : Option AV} : X xs L d 0 (4, [some (.inr x), a1, a2, a3], sk, h) res ↔ X xs L d 0 (5, [some (.inr x), a1, a2, a3], .inr x :: sk, h) res := i_aload_n k_0_4 rfl
theorem e_0_5 {x : Option Nat} {a0 a2 a3 : Option AV} : X xs L d 0 (5, [a0, some (.inr x), a2, a3], sk, h) res ↔ X xs L d 0 (6, [a0, some (.inr x), a2, a3], .inr x :: sk, h) res := i_aload_n k_0_5 rfl
theorem e_0_6 {o : Nat} {v : Option Nat} : X xs L d 0 (6, lo, .inr v :: .inr (some o) :: sk, h) res ↔ hK h o = 0 ∧ X xs L d 0 (9, lo, sk, sR h o 0 v) res := i_putR k_0_6
theorem e_0_9 {x : Option Nat} {a1 a2 a3 : Option AV} : X xs L d 0 (9, [some (.inr x), a1, a2, a3], sk, h) res ↔ X xs L d 0 (10, [some (.inr x), a1, a2, a3], .inr x :: sk, h) res := i_aload_n k_0_9 rfl
theorem e_0_10 {x : Int32} {a0 a1 a3 : Option AV} : X xs L d 0 (10, [a0, a1, some (.inl x), a3], sk, h) res ↔ X xs L d 0 (11, [a0, a1, some (.inl x), a3], .inl x :: sk, h) res := i_iload_n k_0_10 rfl
theorem e_0_11 {o : Nat} {v : Int32} : X xs L d 0 (11, lo, .inl v :: .inr (some o) :: sk, h) res ↔ hK h o = 0 ∧ X xs L d 0 (14, lo, sk, sI h o 1 v) res := i_putI k_0_11
theorem e_0_14 {x : Option Nat} {a1 a2 a3 : Option AV} : X xs L d 0 (14, [some (.inr x), a1, a2, a3], sk, h) res ↔ X xs L d 0 (15, [some (.inr x), a1, a2, a3], .inr x :: sk, h) res := i_aload_n k_0_14 rfl
theorem e_0_15 {x : Int32} {a0 a1 a2 : Option AV} : X xs L d 0 (15, [a0, a1, a2, some (.inl x)], sk, h) res ↔ X xs L d 0 (16, [a0, a1, a2, some (.inl x)], .inl x :: sk, h) res := i_iload_n k_0_15 rfl
theorem e_0_16 {o : Nat} {v : Int32} : X xs L d 0 (16, lo, .inl v :: .inr (some o) :: sk, h) res ↔ (hK h o = 0 ∧ (v = 0 ∨ v = 1)) ∧ X xs L d 0 (19, lo, sk, sI h o 2 v) res := i_putZ k_0_16
theorem e_0_19 : X xs L d 0 (19, lo, [], h) res ↔ res = (none, h) := i_vret k_0_19 rfl
theorem k_1_0 : am_cd 1 0 = some (.aload_n 0, 1, [], [])   := rfl
theorem k_1_1 : am_cd 1 1 = some (.invokespecial 1, 3, [], [(0, 444), (0, 80)])   := rfl
theorem k_1_4 : am_cd 1 4 = some (.aload_n 0, 1, [], [])   := rfl
theorem k_1_5 : am_cd 1 5 = some (.aload_n 1, 1, [], [])   := rfl
theorem k_1_6 : am_cd 1 6 = some (.iload_n 3, 1, [], [])   := rfl
theorem k_1_7 : am_cd 1 7 = some (.invokestatic 7, 3, [128, 2], [(0, 445), (0, 446)])   := rfl
theorem k_1_10 : am_cd 1 10 = some (.putfield 13, 3, [1, 0, 2], [(0, 459)])   := rfl
theorem k_1_13 : am_cd 1 13 = some (.aload_n 0, 1, [], [])   := rfl
theorem k_1_14 : am_cd 1 14 = some (.aload_n 2, 1, [], [])   := rfl
theorem k_1_15 : am_cd 1 15 = some (.iload_n 3, 1, [], [])   := rfl
theorem k_1_16 : am_cd 1 16 = some (.invokestatic 7, 3, [128, 2], [(0, 445), (0, 446)])   := rfl
theorem k_1_19 : am_cd 1 19 = some (.putfield 19, 3, [1, 1, 2], [(0, 461)])   := rfl
theorem k_1_22 : am_cd 1 22 = some (.aload_n 0, 1, [], [])   := rfl
theorem k_1_23 : am_cd 1 23 = some (.iload_n 3, 1, [], [])   := rfl
theorem k_1_24 : am_cd 1 24 = some (.putfield 22, 3, [1, 2, 0], [(0, 463)])   := rfl
theorem k_1_27 : am_cd 1 27 = some (.return_, 1, [], [])   := rfl
theorem e_1_0 {x : Option Nat} {a1 a2 a3 : Option AV} : X xs L d 1 (0, [some (.inr x), a1, a2, a3], sk, h) res ↔ X xs L d 1 (1, [some (.inr x), a1, a2, a3], .inr x :: sk, h) res := i_aload_n k_1_0 rfl
theorem e_1_1 {o : Nat} : X xs L d 1 (1, lo, .inr (some o) :: sk, h) res ↔ sk.length ≤ 8 ∧ X xs L d 1 (4, lo, sk, h) res := i_obj k_1_1
theorem e_1_4 {x : Option Nat} {a1 a2 a3 : Option AV} : X xs L d 1 (4, [some (.inr x), a1, a2, a3], sk, h) res ↔ X xs L d 1 (5, [some (.inr x), a1, a2, a3], .inr x :: sk, h) res := i_aload_n k_1_4 rfl
theorem e_1_5 {x : Option Nat} {a0 a2 a3 : Option AV} : X xs L d 1 (5, [a0, some (.inr x), a2, a3], sk, h) res ↔ X xs L d 1 (6, [a0, some (.inr x), a2, a3], .inr x :: sk, h) res := i_aload_n k_1_5 rfl
theorem e_1_6 {x : Int32} {a0 a1 a2 : Option AV} : X xs L d 1 (6, [a0, a1, a2, some (.inl x)], sk, h) res ↔ X xs L d 1 (7, [a0, a1, a2, some (.inl x)], .inl x :: sk, h) res := i_iload_n k_1_6 rfl
theorem e_1_7 {v0 : Option Nat} {v1 : Int32} (hs : sk.length ≤ 8) : X xs L d 1 (7, lo, .inl v1 :: .inr v0 :: sk, h) res ↔ ∃ q : Res, Rn xs L d 128 [.inr v0, .inl v1] h q ∧ X xs L d 1 (10, lo, q.1.toList ++ sk, q.2) res := i_callS k_1_7 ⟨Nat.le_add_left 2 sk.length, Nat.le_trans (Nat.add_le_add_right hs 2) (Nat.le_of_eq (Nat.add_comm 8 2))⟩
theorem e_1_10 {o : Nat} {v : Option Nat} : X xs L d 1 (10, lo, .inr v :: .inr (some o) :: sk, h) res ↔ hK h o = 1 ∧ X xs L d 1 (13, lo, sk, sR h o 0 v) res := i_putR k_1_10
theorem e_1_13 {x : Option Nat} {a1 a2 a3 : Option AV} : X xs L d 1 (13, [some (.inr x), a1, a2, a3], sk, h) res ↔ X xs L d 1 (14, [some (.inr x), a1, a2, a3], .inr x :: sk, h) res := i_aload_n k_1_13 rfl
theorem e_1_14 {x : Option Nat} {a0 a1 a3 : Option AV} : X xs L d 1 (14, [a0, a1, some (.inr x), a3], sk, h) res ↔ X xs L d 1 (15, [a0, a1, some (.inr x), a3], .inr x :: sk, h) res := i_aload_n k_1_14 rfl
theorem e_1_15 {x : Int32} {a0 a1 a2 : Option AV} : X xs L d 1 (15, [a0, a1, a2, some (.inl x)], sk, h) res ↔ X xs L d 1 (16, [a0, a1, a2, some (.inl x)], .inl x :: sk, h) res := i_iload_n k_1_15 rfl
theorem e_1_16 {v0 : Option Nat} {v1 : Int32} (hs : sk.length ≤ 8) : X xs L d 1 (16, lo, .inl v1 :: .inr v0 :: sk, h) res ↔ ∃ q : Res, Rn xs L d 128 [.inr v0, .inl v1] h q ∧ X xs L d 1 (19, lo, q.1.toList ++ sk, q.2) res := i_callS k_1_16 ⟨Nat.le_add_left 2 sk.length, Nat.le_trans (Nat.add_le_add_right hs 2) (Nat.le_of_eq (Nat.add_comm 8 2))⟩
theorem e_1_19 {o : Nat} {v : Option Nat} : X xs L d 1 (19, lo, .inr v :: .inr (some o) :: sk, h) res ↔ hK h o = 1 ∧ X xs L d 1 (22, lo, sk, sR h o 1 v) res := i_putR k_1_19
theorem e_1_22 {x : Option Nat} {a1 a2 a3 : Option AV} : X xs L d 1 (22, [some (.inr x), a1, a2, a3], sk, h) res ↔ X xs L d 1 (23, [some (.inr x), a1, a2, a3], .inr x :: sk, h) res := i_aload_n k_1_22 rfl
theorem e_1_23 {x : Int32} {a0 a1 a2 : Option AV} : X xs L d 1 (23, [a0, a1, a2, some (.inl x)], sk, h) res ↔ X xs L d 1 (24, [a0, a1, a2, some (.inl x)], .inl x :: sk, h) res := i_iload_n k_1_23 rfl
theorem e_1_24 {o : Nat} {v : Int32} : X xs L d 1 (24, lo, .inl v :: .inr (some o) :: sk, h) res ↔ hK h o = 1 ∧ X xs L d 1 (27, lo, sk, sI h o 2 v) res := i_putI k_1_24
theorem e_1_27 : X xs L d 1 (27, lo, [], h) res ↔ res = (none, h) := i_vret k_1_27 rfl
theorem k_2_0 : am_cd 2 0 = some (.aload_n 0, 1, [], [])   := rfl
theorem k_2_1 : am_cd 2 1 = some (.invokespecial 3, 3, [], [(0, 149), (0, 80)])   := rfl
theorem k_2_4 : am_cd 2 4 = some (.aload_n 0, 1, [], [])   := rfl
theorem k_2_5 : am_cd 2 5 = some (.bipush 6, 2, [], [(6, 0)])   := rfl
theorem k_2_7 : am_cd 2 7 = some (.newarray .int, 2, [20], [(0, 136)])   := rfl
theorem k_2_9 : am_cd 2 9 = some (.putfield 9, 3, [2, 0, 2], [(0, 150)])   := rfl
theorem k_2_12 : am_cd 2 12 = some (.return_, 1, [], [])   := rfl
theorem e_2_0 {x : Option Nat} : X xs L d 2 (0, [some (.inr x)], sk, h) res ↔ X xs L d 2 (1, [some (.inr x)], .inr x :: sk, h) res := i_aload_n k_2_0 rfl
theorem e_2_1 {o : Nat} : X xs L d 2 (1, lo, .inr (some o) :: sk, h) res ↔ sk.length ≤ 8 ∧ X xs L d 2 (4, lo, sk, h) res := i_obj k_2_1
theorem e_2_4 {x : Option Nat} : X xs L d 2 (4, [some (.inr x)], sk, h) res ↔ X xs L d 2 (5, [some (.inr x)], .inr x :: sk, h) res := i_aload_n k_2_4 rfl
theorem e_2_5 : X xs L d 2 (5, lo, sk, h) res ↔ X xs L d 2 (7, lo, .inl 6 :: sk, h) res := i_bipush k_2_5
theorem e_2_7 {i : Int32} : X xs L d 2 (7, lo, .inl i :: sk, h) res ↔ (¬ i < 0 ∧ i.toNatClampNeg ≤ 100000) ∧ X xs L d 2 (9, lo, .inr (some (hN h)) :: sk, nw h 20 i.toNatClampNeg i.toNatClampNeg) res := i_newarray k_2_7
theorem e_2_9 {o : Nat} {v : Option Nat} : X xs L d 2 (9, lo, .inr v :: .inr (some o) :: sk, h) res ↔ hK h o = 2 ∧ X xs L d 2 (12, lo, sk, sR h o 0 v) res := i_putR k_2_9
theorem e_2_12 : X xs L d 2 (12, lo, [], h) res ↔ res = (none, h) := i_vret k_2_12 rfl
theorem k_3_0 : am_cd 3 0 = some (.aload_n 0, 1, [], [])   := rfl
theorem k_3_1 : am_cd 3 1 = some (.getfield 15, 3, [2, 2, 0], [(0, 154)])   := rfl
theorem k_3_4 : am_cd 3 4 = some (.ifCond .lt 32, 3, [36], [])   := rfl
theorem k_3_7 : am_cd 3 7 = some (.aload_n 0, 1, [], [])   := rfl
theorem k_3_8 : am_cd 3 8 = some (.getfield 15, 3, [2, 2, 0], [(0, 154)])   := rfl
theorem k_3_11 : am_cd 3 11 = some (.aload_n 0, 1, [], [])   := rfl
theorem k_3_12 : am_cd 3 12 = some (.getfield 19, 3, [2, 1, 2], [(0, 152)])   := rfl
theorem k_3_15 : am_cd 3 15 = some (.getfield 23, 3, [1, 2, 0], [(0, 464)])   := rfl
theorem k_3_18 : am_cd 3 18 = some (.if_icmp .ge 18, 3, [36], [])   := rfl
theorem k_3_21 : am_cd 3 21 = some (.aload_n 0, 1, [], [])   := rfl
theorem k_3_22 : am_cd 3 22 = some (.getfield 19, 3, [2, 1, 2], [(0, 152)])   := rfl
theorem k_3_25 : am_cd 3 25 = some (.getfield 28, 3, [1, 0, 2], [(0, 460)])   := rfl
theorem k_3_28 : am_cd 3 28 = some (.aload_n 0, 1, [], [])   := rfl
theorem k_3_29 : am_cd 3 29 = some (.getfield 15, 3, [2, 2, 0], [(0, 154)])   := rfl
theorem k_3_32 : am_cd 3 32 = some (.iaload, 1, [], [])   := rfl
theorem k_3_33 : am_cd 3 33 = some (.goto 4, 3, [37], [])   := rfl
theorem k_3_36 : am_cd 3 36 = some (.iconst 0, 1, [], [(0, 0)])   := rfl
theorem k_3_37 : am_cd 3 37 = some (.istore_n 1, 1, [], [])   := rfl
theorem k_3_38 : am_cd 3 38 = some (.aload_n 0, 1, [], [])   := rfl
theorem k_3_39 : am_cd 3 39 = some (.dup, 1, [], [])   := rfl
theorem k_3_40 : am_cd 3 40 = some (.getfield 15, 3, [2, 2, 0], [(0, 154)])   := rfl
theorem k_3_43 : am_cd 3 43 = some (.iconst 1, 1, [], [(1, 0)])   := rfl
theorem k_3_44 : am_cd 3 44 = some (.iadd, 1, [], [])   := rfl
theorem k_3_45 : am_cd 3 45 = some (.putfield 15, 3, [2, 2, 0], [(0, 154)])   := rfl
theorem k_3_48 : am_cd 3 48 = some (.iload_n 1, 1, [], [])   := rfl
theorem k_3_49 : am_cd 3 49 = some (.ireturn, 1, [], [])   := rfl
theorem e_3_0 {x : Option Nat} {a1 : Option AV} : X xs L d 3 (0, [some (.inr x), a1], sk, h) res ↔ X xs L d 3 (1, [some (.inr x), a1], .inr x :: sk, h) res := i_aload_n k_3_0 rfl
theorem e_3_1 {o : Nat} : X xs L d 3 (1, lo, .inr (some o) :: sk, h) res ↔ hK h o = 2 ∧ X xs L d 3 (4, lo, .inl (hI h o 2) :: sk, h) res := i_getI k_3_1
theorem e_3_4 {x : Int32} : X xs L d 3 (4, lo, .inl x :: sk, h) res ↔ (if x < 0 then X xs L d 3 (36, lo, sk, h) res else X xs L d 3 (7, lo, sk, h) res) := i_if_lt k_3_4
theorem e_3_7 {x : Option Nat} {a1 : Option AV} : X xs L d 3 (7, [some (.inr x), a1], sk, h) res ↔ X xs L d 3 (8, [some (.inr x), a1], .inr x :: sk, h) res := i_aload_n k_3_7 rfl
theorem e_3_8 {o : Nat} : X xs L d 3 (8, lo, .inr (some o) :: sk, h) res ↔ hK h o = 2 ∧ X xs L d 3 (11, lo, .inl (hI h o 2) :: sk, h) res := i_getI k_3_8
theorem e_3_11 {x : Option Nat} {a1 : Option AV} : X xs L d 3 (11, [some (.inr x), a1], sk, h) res ↔ X xs L d 3 (12, [some (.inr x), a1], .inr x :: sk, h) res := i_aload_n k_3_11 rfl
theorem e_3_12 {o : Nat} : X xs L d 3 (12, lo, .inr (some o) :: sk, h) res ↔ hK h o = 2 ∧ X xs L d 3 (15, lo, .inr (hR h o 1) :: sk, h) res := i_getR k_3_12
theorem e_3_15 {o : Nat} : X xs L d 3 (15, lo, .inr (some o) :: sk, h) res ↔ hK h o = 1 ∧ X xs L d 3 (18, lo, .inl (hI h o 2) :: sk, h) res := i_getI k_3_15
theorem e_3_18 {x y : Int32} : X xs L d 3 (18, lo, .inl y :: .inl x :: sk, h) res ↔ (if y ≤ x then X xs L d 3 (36, lo, sk, h) res else X xs L d 3 (21, lo, sk, h) res) := i_icmp_ge k_3_18
theorem e_3_21 {x : Option Nat} {a1 : Option AV} : X xs L d 3 (21, [some (.inr x), a1], sk, h) res ↔ X xs L d 3 (22, [some (.inr x), a1], .inr x :: sk, h) res := i_aload_n k_3_21 rfl
theorem e_3_22 {o : Nat} : X xs L d 3 (22, lo, .inr (some o) :: sk, h) res ↔ hK h o = 2 ∧ X xs L d 3 (25, lo, .inr (hR h o 1) :: sk, h) res := i_getR k_3_22
theorem e_3_25 {o : Nat} : X xs L d 3 (25, lo, .inr (some o) :: sk, h) res ↔ hK h o = 1 ∧ X xs L d 3 (28, lo, .inr (hR h o 0) :: sk, h) res := i_getR k_3_25
theorem e_3_28 {x : Option Nat} {a1 : Option AV} : X xs L d 3 (28, [some (.inr x), a1], sk, h) res ↔ X xs L d 3 (29, [some (.inr x), a1], .inr x :: sk, h) res := i_aload_n k_3_28 rfl
theorem e_3_29 {o : Nat} : X xs L d 3 (29, lo, .inr (some o) :: sk, h) res ↔ hK h o = 2 ∧ X xs L d 3 (32, lo, .inl (hI h o 2) :: sk, h) res := i_getI k_3_29
theorem e_3_32 {o : Nat} {i : Int32} : X xs L d 3 (32, lo, .inl i :: .inr (some o) :: sk, h) res ↔ (hK h o = 20 ∧ vp_in i (hL h o)) ∧ X xs L d 3 (33, lo, .inl (hI h o i.toNatClampNeg) :: sk, h) res := i_iaload k_3_32
theorem e_3_33 : X xs L d 3 (33, lo, sk, h) res ↔ X xs L d 3 (37, lo, sk, h) res := i_goto k_3_33
theorem e_3_36 : X xs L d 3 (36, lo, sk, h) res ↔ X xs L d 3 (37, lo, .inl 0 :: sk, h) res := i_iconst k_3_36
theorem e_3_37 {x : Int32} {a0 a1 : Option AV} : X xs L d 3 (37, [a0, a1], .inl x :: sk, h) res ↔ X xs L d 3 (38, [a0, some (.inl x)], sk, h) res := i_istore_n k_3_37 (Nat.le_of_ble_eq_true rfl) rfl
theorem e_3_38 {x : Option Nat} {a1 : Option AV} : X xs L d 3 (38, [some (.inr x), a1], sk, h) res ↔ X xs L d 3 (39, [some (.inr x), a1], .inr x :: sk, h) res := i_aload_n k_3_38 rfl
theorem e_3_39 {v : AV} : X xs L d 3 (39, lo, v :: sk, h) res ↔ X xs L d 3 (40, lo, v :: v :: sk, h) res := i_dup k_3_39
theorem e_3_40 {o : Nat} : X xs L d 3 (40, lo, .inr (some o) :: sk, h) res ↔ hK h o = 2 ∧ X xs L d 3 (43, lo, .inl (hI h o 2) :: sk, h) res := i_getI k_3_40
theorem e_3_43 : X xs L d 3 (43, lo, sk, h) res ↔ X xs L d 3 (44, lo, .inl 1 :: sk, h) res := i_iconst k_3_43
theorem e_3_44 {x y : Int32} : X xs L d 3 (44, lo, .inl y :: .inl x :: sk, h) res ↔ X xs L d 3 (45, lo, .inl (x + y) :: sk, h) res := i_iadd k_3_44
theorem e_3_45 {o : Nat} {v : Int32} : X xs L d 3 (45, lo, .inl v :: .inr (some o) :: sk, h) res ↔ hK h o = 2 ∧ X xs L d 3 (48, lo, sk, sI h o 2 v) res := i_putI k_3_45
theorem e_3_48 {x : Int32} {a0 : Option AV} : X xs L d 3 (48, [a0, some (.inl x)], sk, h) res ↔ X xs L d 3 (49, [a0, some (.inl x)], .inl x :: sk, h) res := i_iload_n k_3_48 rfl
theorem e_3_49 {v : Int32} : X xs L d 3 (49, lo, [.inl v], h) res ↔ res = (some (.inl v), h) := i_iret k_3_49 rfl
theorem k_4_0 : am_cd 4 0 = some (.iload_n 1, 1, [], [])   := rfl
theorem k_4_1 : am_cd 4 1 = some (.ifCond .lt 18, 3, [19], [])   := rfl
theorem k_4_4 : am_cd 4 4 = some (.iload_n 1, 1, [], [])   := rfl
theorem k_4_5 : am_cd 4 5 = some (.bipush 6, 2, [], [(6, 0)])   := rfl
theorem k_4_7 : am_cd 4 7 = some (.if_icmp .ge 12, 3, [19], [])   := rfl
theorem k_4_10 : am_cd 4 10 = some (.aload_n 0, 1, [], [])   := rfl
theorem k_4_11 : am_cd 4 11 = some (.getfield 9, 3, [2, 0, 2], [(0, 150)])   := rfl
theorem k_4_14 : am_cd 4 14 = some (.iload_n 1, 1, [], [])   := rfl
theorem k_4_15 : am_cd 4 15 = some (.iaload, 1, [], [])   := rfl
theorem k_4_16 : am_cd 4 16 = some (.goto 4, 3, [20], [])   := rfl
theorem k_4_19 : am_cd 4 19 = some (.iconst 0, 1, [], [(0, 0)])   := rfl
theorem k_4_20 : am_cd 4 20 = some (.ireturn, 1, [], [])   := rfl
theorem e_4_0 {x : Int32} {a0 : Option AV} : X xs L d 4 (0, [a0, some (.inl x)], sk, h) res ↔ X xs L d 4 (1, [a0, some (.inl x)], .inl x :: sk, h) res := i_iload_n k_4_0 rfl
theorem e_4_1 {x : Int32} : X xs L d 4 (1, lo, .inl x :: sk, h) res ↔ (if x < 0 then X xs L d 4 (19, lo, sk, h) res else X xs L d 4 (4, lo, sk, h) res) := i_if_lt k_4_1
theorem e_4_4 {x : Int32} {a0 : Option AV} : X xs L d 4 (4, [a0, some (.inl x)], sk, h) res ↔ X xs L d 4 (5, [a0, some (.inl x)], .inl x :: sk, h) res := i_iload_n k_4_4 rfl
theorem e_4_5 : X xs L d 4 (5, lo, sk, h) res ↔ X xs L d 4 (7, lo, .inl 6 :: sk, h) res := i_bipush k_4_5
theorem e_4_7 {x y : Int32} : X xs L d 4 (7, lo, .inl y :: .inl x :: sk, h) res ↔ (if y ≤ x then X xs L d 4 (19, lo, sk, h) res else X xs L d 4 (10, lo, sk, h) res) := i_icmp_ge k_4_7
theorem e_4_10 {x : Option Nat} {a1 : Option AV} : X xs L d 4 (10, [some (.inr x), a1], sk, h) res ↔ X xs L d 4 (11, [some (.inr x), a1], .inr x :: sk, h) res := i_aload_n k_4_10 rfl
theorem e_4_11 {o : Nat} : X xs L d 4 (11, lo, .inr (some o) :: sk, h) res ↔ hK h o = 2 ∧ X xs L d 4 (14, lo, .inr (hR h o 0) :: sk, h) res := i_getR k_4_11
theorem e_4_14 {x : Int32} {a0 : Option AV} : X xs L d 4 (14, [a0, some (.inl x)], sk, h) res ↔ X xs L d 4 (15, [a0, some (.inl x)], .inl x :: sk, h) res := i_iload_n k_4_14 rfl
theorem e_4_15 {o : Nat} {i : Int32} : X xs L d 4 (15, lo, .inl i :: .inr (some o) :: sk, h) res ↔ (hK h o = 20 ∧ vp_in i (hL h o)) ∧ X xs L d 4 (16, lo, .inl (hI h o i.toNatClampNeg) :: sk, h) res := i_iaload k_4_15
theorem e_4_16 : X xs L d 4 (16, lo, sk, h) res ↔ X xs L d 4 (20, lo, sk, h) res := i_goto k_4_16
theorem e_4_19 : X xs L d 4 (19, lo, sk, h) res ↔ X xs L d 4 (20, lo, .inl 0 :: sk, h) res := i_iconst k_4_19
theorem e_4_20 {v : Int32} : X xs L d 4 (20, lo, [.inl v], h) res ↔ res = (some (.inl v), h) := i_iret k_4_20 rfl
theorem k_5_0 : am_cd 5 0 = some (.iload_n 1, 1, [], [])   := rfl
theorem k_5_1 : am_cd 5 1 = some (.ifCond .lt 9, 3, [10], [])   := rfl
theorem k_5_4 : am_cd 5 4 = some (.iload_n 1, 1, [], [])   := rfl
theorem k_5_5 : am_cd 5 5 = some (.bipush 6, 2, [], [(6, 0)])   := rfl
theorem k_5_7 : am_cd 5 7 = some (.if_icmp .lt 5, 3, [12], [])   := rfl
theorem k_5_10 : am_cd 5 10 = some (.iconst 0, 1, [], [(0, 0)])   := rfl
theorem k_5_11 : am_cd 5 11 = some (.ireturn, 1, [], [])   := rfl
theorem k_5_12 : am_cd 5 12 = some (.aload_n 0, 1, [], [])   := rfl
theorem k_5_13 : am_cd 5 13 = some (.getfield 9, 3, [2, 0, 2], [(0, 150)])   := rfl
theorem k_5_16 : am_cd 5 16 = some (.iload_n 1, 1, [], [])   := rfl
theorem k_5_17 : am_cd 5 17 = some (.iload_n 2, 1, [], [])   := rfl
theorem k_5_18 : am_cd 5 18 = some (.iastore, 1, [], [])   := rfl
theorem k_5_19 : am_cd 5 19 = some (.iconst 1, 1, [], [(1, 0)])   := rfl
theorem k_5_20 : am_cd 5 20 = some (.ireturn, 1, [], [])   := rfl
theorem e_5_0 {x : Int32} {a0 a2 : Option AV} : X xs L d 5 (0, [a0, some (.inl x), a2], sk, h) res ↔ X xs L d 5 (1, [a0, some (.inl x), a2], .inl x :: sk, h) res := i_iload_n k_5_0 rfl
theorem e_5_1 {x : Int32} : X xs L d 5 (1, lo, .inl x :: sk, h) res ↔ (if x < 0 then X xs L d 5 (10, lo, sk, h) res else X xs L d 5 (4, lo, sk, h) res) := i_if_lt k_5_1
theorem e_5_4 {x : Int32} {a0 a2 : Option AV} : X xs L d 5 (4, [a0, some (.inl x), a2], sk, h) res ↔ X xs L d 5 (5, [a0, some (.inl x), a2], .inl x :: sk, h) res := i_iload_n k_5_4 rfl
theorem e_5_5 : X xs L d 5 (5, lo, sk, h) res ↔ X xs L d 5 (7, lo, .inl 6 :: sk, h) res := i_bipush k_5_5
theorem e_5_7 {x y : Int32} : X xs L d 5 (7, lo, .inl y :: .inl x :: sk, h) res ↔ (if x < y then X xs L d 5 (12, lo, sk, h) res else X xs L d 5 (10, lo, sk, h) res) := i_icmp_lt k_5_7
theorem e_5_10 : X xs L d 5 (10, lo, sk, h) res ↔ X xs L d 5 (11, lo, .inl 0 :: sk, h) res := i_iconst k_5_10
theorem e_5_11 {v : Int32} : X xs L d 5 (11, lo, [.inl v], h) res ↔ (v = 0 ∨ v = 1) ∧ res = (some (.inl v), h) := i_zret k_5_11 rfl
theorem e_5_12 {x : Option Nat} {a1 a2 : Option AV} : X xs L d 5 (12, [some (.inr x), a1, a2], sk, h) res ↔ X xs L d 5 (13, [some (.inr x), a1, a2], .inr x :: sk, h) res := i_aload_n k_5_12 rfl
theorem e_5_13 {o : Nat} : X xs L d 5 (13, lo, .inr (some o) :: sk, h) res ↔ hK h o = 2 ∧ X xs L d 5 (16, lo, .inr (hR h o 0) :: sk, h) res := i_getR k_5_13
theorem e_5_16 {x : Int32} {a0 a2 : Option AV} : X xs L d 5 (16, [a0, some (.inl x), a2], sk, h) res ↔ X xs L d 5 (17, [a0, some (.inl x), a2], .inl x :: sk, h) res := i_iload_n k_5_16 rfl
theorem e_5_17 {x : Int32} {a0 a1 : Option AV} : X xs L d 5 (17, [a0, a1, some (.inl x)], sk, h) res ↔ X xs L d 5 (18, [a0, a1, some (.inl x)], .inl x :: sk, h) res := i_iload_n k_5_17 rfl
theorem e_5_18 {o : Nat} {i v : Int32} : X xs L d 5 (18, lo, .inl v :: .inl i :: .inr (some o) :: sk, h) res ↔ (hK h o = 20 ∧ vp_in i (hL h o)) ∧ X xs L d 5 (19, lo, sk, sI h o i.toNatClampNeg (v)) res := i_iastore k_5_18
theorem e_5_19 : X xs L d 5 (19, lo, sk, h) res ↔ X xs L d 5 (20, lo, .inl 1 :: sk, h) res := i_iconst k_5_19
theorem e_5_20 {v : Int32} : X xs L d 5 (20, lo, [.inl v], h) res ↔ (v = 0 ∨ v = 1) ∧ res = (some (.inl v), h) := i_zret k_5_20 rfl
theorem k_6_0 : am_cd 6 0 = some (.aload_n 0, 1, [], [])   := rfl
theorem k_6_1 : am_cd 6 1 = some (.invokespecial 3, 3, [], [(0, 142), (0, 80)])   := rfl
theorem k_6_4 : am_cd 6 4 = some (.aload_n 0, 1, [], [])   := rfl
theorem k_6_5 : am_cd 6 5 = some (.bipush 6, 2, [], [(6, 0)])   := rfl
theorem k_6_7 : am_cd 6 7 = some (.anewarray 9, 3, [23], [(0, 143), (0, 144)])   := rfl
theorem k_6_10 : am_cd 6 10 = some (.putfield 11, 3, [3, 0, 2], [(0, 187)])   := rfl
theorem k_6_13 : am_cd 6 13 = some (.iconst 0, 1, [], [(0, 0)])   := rfl
theorem k_6_14 : am_cd 6 14 = some (.istore_n 1, 1, [], [])   := rfl
theorem k_6_15 : am_cd 6 15 = some (.iload_n 1, 1, [], [])   := rfl
theorem k_6_16 : am_cd 6 16 = some (.bipush 6, 2, [], [(6, 0)])   := rfl
theorem k_6_18 : am_cd 6 18 = some (.if_icmp .ge 22, 3, [40], [])   := rfl
theorem k_6_21 : am_cd 6 21 = some (.aload_n 0, 1, [], [])   := rfl
theorem k_6_22 : am_cd 6 22 = some (.getfield 11, 3, [3, 0, 2], [(0, 187)])   := rfl
theorem k_6_25 : am_cd 6 25 = some (.iload_n 1, 1, [], [])   := rfl
theorem k_6_26 : am_cd 6 26 = some (.new 9, 3, [2, 6], [(0, 143), (0, 145), (0, 60)])   := rfl
theorem k_6_29 : am_cd 6 29 = some (.dup, 1, [], [])   := rfl
theorem k_6_30 : am_cd 6 30 = some (.invokespecial 17, 3, [2, 1, 2], [(0, 146), (0, 147)])   := rfl
theorem k_6_33 : am_cd 6 33 = some (.aastore, 1, [23, 2], [])   := rfl
theorem k_6_34 : am_cd 6 34 = some (.iinc 1 1, 3, [], [(1, 0)])   := rfl
theorem k_6_37 : am_cd 6 37 = some (.goto (-22), 3, [15], [])   := rfl
theorem k_6_40 : am_cd 6 40 = some (.aload_n 0, 1, [], [])   := rfl
theorem k_6_41 : am_cd 6 41 = some (.bipush 120, 2, [], [(120, 0)])   := rfl
theorem k_6_43 : am_cd 6 43 = some (.newarray .int, 2, [20], [(0, 136)])   := rfl
theorem k_6_45 : am_cd 6 45 = some (.putfield 18, 3, [3, 1, 2], [(0, 188)])   := rfl
theorem k_6_48 : am_cd 6 48 = some (.aload_n 0, 1, [], [])   := rfl
theorem k_6_49 : am_cd 6 49 = some (.new 22, 3, [5, 2], [(0, 174), (0, 175), (0, 61)])   := rfl
theorem k_6_52 : am_cd 6 52 = some (.dup, 1, [], [])   := rfl
theorem k_6_53 : am_cd 6 53 = some (.invokespecial 24, 3, [21, 1, 5], [(0, 176), (0, 177)])   := rfl
theorem k_6_56 : am_cd 6 56 = some (.putfield 25, 3, [3, 2, 2], [(0, 189)])   := rfl
theorem k_6_59 : am_cd 6 59 = some (.return_, 1, [], [])   := rfl
theorem e_6_0 {x : Option Nat} {a1 : Option AV} : X xs L d 6 (0, [some (.inr x), a1], sk, h) res ↔ X xs L d 6 (1, [some (.inr x), a1], .inr x :: sk, h) res := i_aload_n k_6_0 rfl
theorem e_6_1 {o : Nat} : X xs L d 6 (1, lo, .inr (some o) :: sk, h) res ↔ sk.length ≤ 8 ∧ X xs L d 6 (4, lo, sk, h) res := i_obj k_6_1
theorem e_6_4 {x : Option Nat} {a1 : Option AV} : X xs L d 6 (4, [some (.inr x), a1], sk, h) res ↔ X xs L d 6 (5, [some (.inr x), a1], .inr x :: sk, h) res := i_aload_n k_6_4 rfl
theorem e_6_5 : X xs L d 6 (5, lo, sk, h) res ↔ X xs L d 6 (7, lo, .inl 6 :: sk, h) res := i_bipush k_6_5
theorem e_6_7 {i : Int32} : X xs L d 6 (7, lo, .inl i :: sk, h) res ↔ (¬ i < 0 ∧ i.toNatClampNeg ≤ 100000) ∧ X xs L d 6 (10, lo, .inr (some (hN h)) :: sk, nw h 23 i.toNatClampNeg i.toNatClampNeg) res := i_anewarray k_6_7
theorem e_6_10 {o : Nat} {v : Option Nat} : X xs L d 6 (10, lo, .inr v :: .inr (some o) :: sk, h) res ↔ hK h o = 3 ∧ X xs L d 6 (13, lo, sk, sR h o 0 v) res := i_putR k_6_10
theorem e_6_13 : X xs L d 6 (13, lo, sk, h) res ↔ X xs L d 6 (14, lo, .inl 0 :: sk, h) res := i_iconst k_6_13
theorem e_6_14 {x : Int32} {a0 a1 : Option AV} : X xs L d 6 (14, [a0, a1], .inl x :: sk, h) res ↔ X xs L d 6 (15, [a0, some (.inl x)], sk, h) res := i_istore_n k_6_14 (Nat.le_of_ble_eq_true rfl) rfl
theorem e_6_15 {x : Int32} {a0 : Option AV} : X xs L d 6 (15, [a0, some (.inl x)], sk, h) res ↔ X xs L d 6 (16, [a0, some (.inl x)], .inl x :: sk, h) res := i_iload_n k_6_15 rfl
theorem e_6_16 : X xs L d 6 (16, lo, sk, h) res ↔ X xs L d 6 (18, lo, .inl 6 :: sk, h) res := i_bipush k_6_16
theorem e_6_18 {x y : Int32} : X xs L d 6 (18, lo, .inl y :: .inl x :: sk, h) res ↔ (if y ≤ x then X xs L d 6 (40, lo, sk, h) res else X xs L d 6 (21, lo, sk, h) res) := i_icmp_ge k_6_18
theorem e_6_21 {x : Option Nat} {a1 : Option AV} : X xs L d 6 (21, [some (.inr x), a1], sk, h) res ↔ X xs L d 6 (22, [some (.inr x), a1], .inr x :: sk, h) res := i_aload_n k_6_21 rfl
theorem e_6_22 {o : Nat} : X xs L d 6 (22, lo, .inr (some o) :: sk, h) res ↔ hK h o = 3 ∧ X xs L d 6 (25, lo, .inr (hR h o 0) :: sk, h) res := i_getR k_6_22
theorem e_6_25 {x : Int32} {a0 : Option AV} : X xs L d 6 (25, [a0, some (.inl x)], sk, h) res ↔ X xs L d 6 (26, [a0, some (.inl x)], .inl x :: sk, h) res := i_iload_n k_6_25 rfl
theorem e_6_26 : X xs L d 6 (26, lo, sk, h) res ↔ X xs L d 6 (29, lo, .inr (some (hN h)) :: sk, nw h 2 0 6) res := i_new k_6_26
theorem e_6_29 {v : AV} : X xs L d 6 (29, lo, v :: sk, h) res ↔ X xs L d 6 (30, lo, v :: v :: sk, h) res := i_dup k_6_29
theorem e_6_30 {o : Nat} (hs : sk.length ≤ 8) : X xs L d 6 (30, lo, .inr (some o) :: sk, h) res ↔ hK h o = 2 ∧ ∃ q : Res, Rn xs L d 2 [.inr (some o)] h q ∧ X xs L d 6 (33, lo, q.1.toList ++ sk, q.2) res := i_callI k_6_30 rfl ⟨Nat.le_add_left 1 sk.length, Nat.le_trans (Nat.add_le_add_right hs 1) (Nat.le_of_eq (Nat.add_comm 8 1))⟩
theorem e_6_33 {o v : Nat} {i : Int32} : X xs L d 6 (33, lo, .inr (some v) :: .inl i :: .inr (some o) :: sk, h) res ↔ ((hK h o = 23 ∧ hK h v = 2) ∧ vp_in i (hL h o)) ∧ X xs L d 6 (34, lo, sk, sR h o i.toNatClampNeg (some v)) res := i_aastore k_6_33
theorem e_6_33N {o : Nat} {i : Int32} : X xs L d 6 (33, lo, .inr none :: .inl i :: .inr (some o) :: sk, h) res ↔ (hK h o = 23 ∧ vp_in i (hL h o)) ∧ X xs L d 6 (34, lo, sk, sR h o i.toNatClampNeg none) res := i_aastoreN k_6_33
theorem e_6_34 {x : Int32} {a0 : Option AV} : X xs L d 6 (34, [a0, some (.inl x)], sk, h) res ↔ X xs L d 6 (37, [a0, some (.inl (x + 1))], sk, h) res := i_iinc k_6_34 rfl rfl
theorem e_6_37 : X xs L d 6 (37, lo, sk, h) res ↔ X xs L d 6 (15, lo, sk, h) res := i_goto k_6_37
theorem e_6_40 {x : Option Nat} {a1 : Option AV} : X xs L d 6 (40, [some (.inr x), a1], sk, h) res ↔ X xs L d 6 (41, [some (.inr x), a1], .inr x :: sk, h) res := i_aload_n k_6_40 rfl
theorem e_6_41 : X xs L d 6 (41, lo, sk, h) res ↔ X xs L d 6 (43, lo, .inl 120 :: sk, h) res := i_bipush k_6_41
theorem e_6_43 {i : Int32} : X xs L d 6 (43, lo, .inl i :: sk, h) res ↔ (¬ i < 0 ∧ i.toNatClampNeg ≤ 100000) ∧ X xs L d 6 (45, lo, .inr (some (hN h)) :: sk, nw h 20 i.toNatClampNeg i.toNatClampNeg) res := i_newarray k_6_43
theorem e_6_45 {o : Nat} {v : Option Nat} : X xs L d 6 (45, lo, .inr v :: .inr (some o) :: sk, h) res ↔ hK h o = 3 ∧ X xs L d 6 (48, lo, sk, sR h o 1 v) res := i_putR k_6_45
theorem e_6_48 {x : Option Nat} {a1 : Option AV} : X xs L d 6 (48, [some (.inr x), a1], sk, h) res ↔ X xs L d 6 (49, [some (.inr x), a1], .inr x :: sk, h) res := i_aload_n k_6_48 rfl
theorem e_6_49 : X xs L d 6 (49, lo, sk, h) res ↔ X xs L d 6 (52, lo, .inr (some (hN h)) :: sk, nw h 5 0 2) res := i_new k_6_49
theorem e_6_52 {v : AV} : X xs L d 6 (52, lo, v :: sk, h) res ↔ X xs L d 6 (53, lo, v :: v :: sk, h) res := i_dup k_6_52
theorem e_6_53 {o : Nat} (hs : sk.length ≤ 8) : X xs L d 6 (53, lo, .inr (some o) :: sk, h) res ↔ hK h o = 5 ∧ ∃ q : Res, Rn xs L d 21 [.inr (some o)] h q ∧ X xs L d 6 (56, lo, q.1.toList ++ sk, q.2) res := i_callI k_6_53 rfl ⟨Nat.le_add_left 1 sk.length, Nat.le_trans (Nat.add_le_add_right hs 1) (Nat.le_of_eq (Nat.add_comm 8 1))⟩
theorem e_6_56 {o : Nat} {v : Option Nat} : X xs L d 6 (56, lo, .inr v :: .inr (some o) :: sk, h) res ↔ hK h o = 3 ∧ X xs L d 6 (59, lo, sk, sR h o 2 v) res := i_putR k_6_56
theorem e_6_59 : X xs L d 6 (59, lo, [], h) res ↔ res = (none, h) := i_vret k_6_59 rfl
theorem k_7_0 : am_cd 7 0 = some (.aload_n 0, 1, [], [])   := rfl
theorem k_7_1 : am_cd 7 1 = some (.iconst 0, 1, [], [(0, 0)])   := rfl
theorem k_7_2 : am_cd 7 2 = some (.putfield 29, 3, [3, 4, 0], [(0, 192)])   := rfl
theorem k_7_5 : am_cd 7 5 = some (.aload_n 0, 1, [], [])   := rfl
theorem k_7_6 : am_cd 7 6 = some (.iconst 0, 1, [], [(0, 0)])   := rfl
theorem k_7_7 : am_cd 7 7 = some (.putfield 33, 3, [3, 5, 0], [(0, 194)])   := rfl
theorem k_7_10 : am_cd 7 10 = some (.aload_n 0, 1, [], [])   := rfl
theorem k_7_11 : am_cd 7 11 = some (.iconst 0, 1, [], [(0, 0)])   := rfl
theorem k_7_12 : am_cd 7 12 = some (.putfield 36, 3, [3, 6, 0], [(0, 196)])   := rfl
theorem k_7_15 : am_cd 7 15 = some (.aload_n 0, 1, [], [])   := rfl
theorem k_7_16 : am_cd 7 16 = some (.iconst 0, 1, [], [(0, 0)])   := rfl
theorem k_7_17 : am_cd 7 17 = some (.putfield 39, 3, [3, 7, 0], [(0, 198)])   := rfl
theorem k_7_20 : am_cd 7 20 = some (.aload_n 0, 1, [], [])   := rfl
theorem k_7_21 : am_cd 7 21 = some (.iconst 0, 1, [], [(0, 0)])   := rfl
theorem k_7_22 : am_cd 7 22 = some (.putfield 42, 3, [3, 8, 0], [(0, 199)])   := rfl
theorem k_7_25 : am_cd 7 25 = some (.aload_n 0, 1, [], [])   := rfl
theorem k_7_26 : am_cd 7 26 = some (.getfield 25, 3, [3, 2, 2], [(0, 189)])   := rfl
theorem k_7_29 : am_cd 7 29 = some (.invokevirtual 45, 3, [23, 1, 5], [(0, 505), (0, 506), (0, 507)])   := rfl
theorem k_7_32 : am_cd 7 32 = some (.return_, 1, [], [])   := rfl
theorem e_7_0 {x : Option Nat} : X xs L d 7 (0, [some (.inr x)], sk, h) res ↔ X xs L d 7 (1, [some (.inr x)], .inr x :: sk, h) res := i_aload_n k_7_0 rfl
theorem e_7_1 : X xs L d 7 (1, lo, sk, h) res ↔ X xs L d 7 (2, lo, .inl 0 :: sk, h) res := i_iconst k_7_1
theorem e_7_2 {o : Nat} {v : Int32} : X xs L d 7 (2, lo, .inl v :: .inr (some o) :: sk, h) res ↔ hK h o = 3 ∧ X xs L d 7 (5, lo, sk, sI h o 4 v) res := i_putI k_7_2
theorem e_7_5 {x : Option Nat} : X xs L d 7 (5, [some (.inr x)], sk, h) res ↔ X xs L d 7 (6, [some (.inr x)], .inr x :: sk, h) res := i_aload_n k_7_5 rfl
theorem e_7_6 : X xs L d 7 (6, lo, sk, h) res ↔ X xs L d 7 (7, lo, .inl 0 :: sk, h) res := i_iconst k_7_6
theorem e_7_7 {o : Nat} {v : Int32} : X xs L d 7 (7, lo, .inl v :: .inr (some o) :: sk, h) res ↔ hK h o = 3 ∧ X xs L d 7 (10, lo, sk, sI h o 5 v) res := i_putI k_7_7
theorem e_7_10 {x : Option Nat} : X xs L d 7 (10, [some (.inr x)], sk, h) res ↔ X xs L d 7 (11, [some (.inr x)], .inr x :: sk, h) res := i_aload_n k_7_10 rfl
theorem e_7_11 : X xs L d 7 (11, lo, sk, h) res ↔ X xs L d 7 (12, lo, .inl 0 :: sk, h) res := i_iconst k_7_11
theorem e_7_12 {o : Nat} {v : Int32} : X xs L d 7 (12, lo, .inl v :: .inr (some o) :: sk, h) res ↔ hK h o = 3 ∧ X xs L d 7 (15, lo, sk, sI h o 6 v) res := i_putI k_7_12
theorem e_7_15 {x : Option Nat} : X xs L d 7 (15, [some (.inr x)], sk, h) res ↔ X xs L d 7 (16, [some (.inr x)], .inr x :: sk, h) res := i_aload_n k_7_15 rfl
theorem e_7_16 : X xs L d 7 (16, lo, sk, h) res ↔ X xs L d 7 (17, lo, .inl 0 :: sk, h) res := i_iconst k_7_16
theorem e_7_17 {o : Nat} {v : Int32} : X xs L d 7 (17, lo, .inl v :: .inr (some o) :: sk, h) res ↔ hK h o = 3 ∧ X xs L d 7 (20, lo, sk, sI h o 7 v) res := i_putI k_7_17
theorem e_7_20 {x : Option Nat} : X xs L d 7 (20, [some (.inr x)], sk, h) res ↔ X xs L d 7 (21, [some (.inr x)], .inr x :: sk, h) res := i_aload_n k_7_20 rfl
theorem e_7_21 : X xs L d 7 (21, lo, sk, h) res ↔ X xs L d 7 (22, lo, .inl 0 :: sk, h) res := i_iconst k_7_21
theorem e_7_22 {o : Nat} {v : Int32} : X xs L d 7 (22, lo, .inl v :: .inr (some o) :: sk, h) res ↔ hK h o = 3 ∧ X xs L d 7 (25, lo, sk, sI h o 8 v) res := i_putI k_7_22
theorem e_7_25 {x : Option Nat} : X xs L d 7 (25, [some (.inr x)], sk, h) res ↔ X xs L d 7 (26, [some (.inr x)], .inr x :: sk, h) res := i_aload_n k_7_25 rfl
theorem e_7_26 {o : Nat} : X xs L d 7 (26, lo, .inr (some o) :: sk, h) res ↔ hK h o = 3 ∧ X xs L d 7 (29, lo, .inr (hR h o 2) :: sk, h) res := i_getR k_7_26
theorem e_7_29 {o : Nat} (hs : sk.length ≤ 8) : X xs L d 7 (29, lo, .inr (some o) :: sk, h) res ↔ hK h o = 5 ∧ ∃ q : Res, Rn xs L d 23 [.inr (some o)] h q ∧ X xs L d 7 (32, lo, q.1.toList ++ sk, q.2) res := i_callV k_7_29 rfl ⟨Nat.le_add_left 1 sk.length, Nat.le_trans (Nat.add_le_add_right hs 1) (Nat.le_of_eq (Nat.add_comm 8 1))⟩
theorem e_7_32 : X xs L d 7 (32, lo, [], h) res ↔ res = (none, h) := i_vret k_7_32 rfl
theorem k_8_0 : am_cd 8 0 = some (.aload_n 0, 1, [], [])   := rfl
theorem k_8_1 : am_cd 8 1 = some (.invokevirtual 48, 3, [7, 1, 3], [(0, 518), (0, 502), (0, 503)])   := rfl
theorem k_8_4 : am_cd 8 4 = some (.aload_n 0, 1, [], [])   := rfl
theorem k_8_5 : am_cd 8 5 = some (.aload_n 1, 1, [], [])   := rfl
theorem k_8_6 : am_cd 8 6 = some (.putfield 51, 3, [3, 3, 2], [(0, 191)])   := rfl
theorem k_8_9 : am_cd 8 9 = some (.aload_n 0, 1, [], [])   := rfl
theorem k_8_10 : am_cd 8 10 = some (.iconst 0, 1, [], [(0, 0)])   := rfl
theorem k_8_11 : am_cd 8 11 = some (.invokevirtual 55, 3, [15, 2, 3], [(0, 519), (0, 521), (0, 17)])   := rfl
theorem k_8_14 : am_cd 8 14 = some (.aload_n 0, 1, [], [])   := rfl
theorem k_8_15 : am_cd 8 15 = some (.invokevirtual 59, 3, [12, 1, 3], [(0, 528), (0, 530), (0, 19)])   := rfl
theorem k_8_18 : am_cd 8 18 = some (.return_, 1, [], [])   := rfl
theorem e_8_0 {x : Option Nat} {a1 : Option AV} : X xs L d 8 (0, [some (.inr x), a1], sk, h) res ↔ X xs L d 8 (1, [some (.inr x), a1], .inr x :: sk, h) res := i_aload_n k_8_0 rfl
theorem e_8_1 {o : Nat} (hs : sk.length ≤ 8) : X xs L d 8 (1, lo, .inr (some o) :: sk, h) res ↔ hK h o = 3 ∧ ∃ q : Res, Rn xs L d 7 [.inr (some o)] h q ∧ X xs L d 8 (4, lo, q.1.toList ++ sk, q.2) res := i_callV k_8_1 rfl ⟨Nat.le_add_left 1 sk.length, Nat.le_trans (Nat.add_le_add_right hs 1) (Nat.le_of_eq (Nat.add_comm 8 1))⟩
theorem e_8_4 {x : Option Nat} {a1 : Option AV} : X xs L d 8 (4, [some (.inr x), a1], sk, h) res ↔ X xs L d 8 (5, [some (.inr x), a1], .inr x :: sk, h) res := i_aload_n k_8_4 rfl
theorem e_8_5 {x : Option Nat} {a0 : Option AV} : X xs L d 8 (5, [a0, some (.inr x)], sk, h) res ↔ X xs L d 8 (6, [a0, some (.inr x)], .inr x :: sk, h) res := i_aload_n k_8_5 rfl
theorem e_8_6 {o : Nat} {v : Option Nat} : X xs L d 8 (6, lo, .inr v :: .inr (some o) :: sk, h) res ↔ hK h o = 3 ∧ X xs L d 8 (9, lo, sk, sR h o 3 v) res := i_putR k_8_6
theorem e_8_9 {x : Option Nat} {a1 : Option AV} : X xs L d 8 (9, [some (.inr x), a1], sk, h) res ↔ X xs L d 8 (10, [some (.inr x), a1], .inr x :: sk, h) res := i_aload_n k_8_9 rfl
theorem e_8_10 : X xs L d 8 (10, lo, sk, h) res ↔ X xs L d 8 (11, lo, .inl 0 :: sk, h) res := i_iconst k_8_10
theorem e_8_11 {o : Nat} {v0 : Int32} (hs : sk.length ≤ 8) : X xs L d 8 (11, lo, .inl v0 :: .inr (some o) :: sk, h) res ↔ hK h o = 3 ∧ ∃ q : Res, Rn xs L d 15 [.inr (some o), .inl v0] h q ∧ X xs L d 8 (14, lo, q.1.toList ++ sk, q.2) res := i_callV k_8_11 rfl ⟨Nat.le_add_left 2 sk.length, Nat.le_trans (Nat.add_le_add_right hs 2) (Nat.le_of_eq (Nat.add_comm 8 2))⟩
theorem e_8_14 {x : Option Nat} {a1 : Option AV} : X xs L d 8 (14, [some (.inr x), a1], sk, h) res ↔ X xs L d 8 (15, [some (.inr x), a1], .inr x :: sk, h) res := i_aload_n k_8_14 rfl
theorem e_8_15 {o : Nat} (hs : sk.length ≤ 8) : X xs L d 8 (15, lo, .inr (some o) :: sk, h) res ↔ hK h o = 3 ∧ ∃ q : Res, Rn xs L d 12 [.inr (some o)] h q ∧ X xs L d 8 (18, lo, q.1.toList ++ sk, q.2) res := i_callV k_8_15 rfl ⟨Nat.le_add_left 1 sk.length, Nat.le_trans (Nat.add_le_add_right hs 1) (Nat.le_of_eq (Nat.add_comm 8 1))⟩
theorem e_8_18 : X xs L d 8 (18, lo, [], h) res ↔ res = (none, h) := i_vret k_8_18 rfl
theorem k_9_0 : am_cd 9 0 = some (.aload_n 0, 1, [], [])   := rfl
theorem k_9_1 : am_cd 9 1 = some (.dup, 1, [], [])   := rfl
theorem k_9_2 : am_cd 9 2 = some (.getfield 42, 3, [3, 8, 0], [(0, 199)])   := rfl
theorem k_9_5 : am_cd 9 5 = some (.iconst 1, 1, [], [(1, 0)])   := rfl
theorem k_9_6 : am_cd 9 6 = some (.iadd, 1, [], [])   := rfl
theorem k_9_7 : am_cd 9 7 = some (.putfield 42, 3, [3, 8, 0], [(0, 199)])   := rfl
theorem k_9_10 : am_cd 9 10 = some (.aload_n 0, 1, [], [])   := rfl
theorem k_9_11 : am_cd 9 11 = some (.invokevirtual 59, 3, [12, 1, 3], [(0, 528), (0, 530), (0, 19)])   := rfl
theorem k_9_14 : am_cd 9 14 = some (.return_, 1, [], [])   := rfl
theorem e_9_0 {x : Option Nat} : X xs L d 9 (0, [some (.inr x)], sk, h) res ↔ X xs L d 9 (1, [some (.inr x)], .inr x :: sk, h) res := i_aload_n k_9_0 rfl
theorem e_9_1 {v : AV} : X xs L d 9 (1, lo, v :: sk, h) res ↔ X xs L d 9 (2, lo, v :: v :: sk, h) res := i_dup k_9_1
theorem e_9_2 {o : Nat} : X xs L d 9 (2, lo, .inr (some o) :: sk, h) res ↔ hK h o = 3 ∧ X xs L d 9 (5, lo, .inl (hI h o 8) :: sk, h) res := i_getI k_9_2
theorem e_9_5 : X xs L d 9 (5, lo, sk, h) res ↔ X xs L d 9 (6, lo, .inl 1 :: sk, h) res := i_iconst k_9_5
theorem e_9_6 {x y : Int32} : X xs L d 9 (6, lo, .inl y :: .inl x :: sk, h) res ↔ X xs L d 9 (7, lo, .inl (x + y) :: sk, h) res := i_iadd k_9_6
theorem e_9_7 {o : Nat} {v : Int32} : X xs L d 9 (7, lo, .inl v :: .inr (some o) :: sk, h) res ↔ hK h o = 3 ∧ X xs L d 9 (10, lo, sk, sI h o 8 v) res := i_putI k_9_7
theorem e_9_10 {x : Option Nat} : X xs L d 9 (10, [some (.inr x)], sk, h) res ↔ X xs L d 9 (11, [some (.inr x)], .inr x :: sk, h) res := i_aload_n k_9_10 rfl
theorem e_9_11 {o : Nat} (hs : sk.length ≤ 8) : X xs L d 9 (11, lo, .inr (some o) :: sk, h) res ↔ hK h o = 3 ∧ ∃ q : Res, Rn xs L d 12 [.inr (some o)] h q ∧ X xs L d 9 (14, lo, q.1.toList ++ sk, q.2) res := i_callV k_9_11 rfl ⟨Nat.le_add_left 1 sk.length, Nat.le_trans (Nat.add_le_add_right hs 1) (Nat.le_of_eq (Nat.add_comm 8 1))⟩
theorem e_9_14 : X xs L d 9 (14, lo, [], h) res ↔ res = (none, h) := i_vret k_9_14 rfl
theorem k_10_0 : am_cd 10 0 = some (.aload_n 0, 1, [], [])   := rfl
theorem k_10_1 : am_cd 10 1 = some (.invokevirtual 48, 3, [7, 1, 3], [(0, 518), (0, 502), (0, 503)])   := rfl
theorem k_10_4 : am_cd 10 4 = some (.aload_n 0, 1, [], [])   := rfl
theorem k_10_5 : am_cd 10 5 = some (.aload_n 1, 1, [], [])   := rfl
theorem k_10_6 : am_cd 10 6 = some (.putfield 51, 3, [3, 3, 2], [(0, 191)])   := rfl
theorem k_10_9 : am_cd 10 9 = some (.aload_n 0, 1, [], [])   := rfl
theorem k_10_10 : am_cd 10 10 = some (.getfield 11, 3, [3, 0, 2], [(0, 187)])   := rfl
theorem k_10_13 : am_cd 10 13 = some (.iconst 0, 1, [], [(0, 0)])   := rfl
theorem k_10_14 : am_cd 10 14 = some (.aaload, 1, [], [])   := rfl
theorem k_10_15 : am_cd 10 15 = some (.astore 4, 2, [], [])   := rfl
theorem k_10_17 : am_cd 10 17 = some (.aload_n 2, 1, [], [])   := rfl
theorem k_10_18 : am_cd 10 18 = some (.getfield 62, 3, [2, 0, 2], [(0, 151)])   := rfl
theorem k_10_21 : am_cd 10 21 = some (.iconst 0, 1, [], [(0, 0)])   := rfl
theorem k_10_22 : am_cd 10 22 = some (.aload 4, 2, [], [])   := rfl
theorem k_10_24 : am_cd 10 24 = some (.getfield 62, 3, [2, 0, 2], [(0, 151)])   := rfl
theorem k_10_27 : am_cd 10 27 = some (.iconst 0, 1, [], [(0, 0)])   := rfl
theorem k_10_28 : am_cd 10 28 = some (.bipush 6, 2, [], [(6, 0)])   := rfl
theorem k_10_30 : am_cd 10 30 = some (.invokestatic 65, 3, [], [(0, 642), (0, 458), (0, 457), (0, 72)])   := rfl
theorem k_10_33 : am_cd 10 33 = some (.aload 4, 2, [], [])   := rfl
theorem k_10_35 : am_cd 10 35 = some (.aload_n 3, 1, [], [])   := rfl
theorem k_10_36 : am_cd 10 36 = some (.putfield 71, 3, [2, 1, 2], [(0, 153)])   := rfl
theorem k_10_39 : am_cd 10 39 = some (.aload 4, 2, [], [])   := rfl
theorem k_10_41 : am_cd 10 41 = some (.iconst 0, 1, [], [(0, 0)])   := rfl
theorem k_10_42 : am_cd 10 42 = some (.putfield 75, 3, [2, 2, 0], [(0, 155)])   := rfl
theorem k_10_45 : am_cd 10 45 = some (.aload_n 0, 1, [], [])   := rfl
theorem k_10_46 : am_cd 10 46 = some (.iconst 1, 1, [], [(1, 0)])   := rfl
theorem k_10_47 : am_cd 10 47 = some (.putfield 36, 3, [3, 6, 0], [(0, 196)])   := rfl
theorem k_10_50 : am_cd 10 50 = some (.aload_n 0, 1, [], [])   := rfl
theorem k_10_51 : am_cd 10 51 = some (.invokevirtual 59, 3, [12, 1, 3], [(0, 528), (0, 530), (0, 19)])   := rfl
theorem k_10_54 : am_cd 10 54 = some (.iconst 0, 1, [], [(0, 0)])   := rfl
theorem k_10_55 : am_cd 10 55 = some (.istore 5, 2, [], [])   := rfl
theorem k_10_57 : am_cd 10 57 = some (.iload 5, 2, [], [])   := rfl
theorem k_10_59 : am_cd 10 59 = some (.bipush 100, 2, [], [(100, 0)])   := rfl
theorem k_10_61 : am_cd 10 61 = some (.if_icmp .ge 21, 3, [82], [])   := rfl
theorem k_10_64 : am_cd 10 64 = some (.aload_n 0, 1, [], [])   := rfl
theorem k_10_65 : am_cd 10 65 = some (.getfield 29, 3, [3, 4, 0], [(0, 192)])   := rfl
theorem k_10_68 : am_cd 10 68 = some (.iconst 1, 1, [], [(1, 0)])   := rfl
theorem k_10_69 : am_cd 10 69 = some (.if_icmp .ne 13, 3, [82], [])   := rfl
theorem k_10_72 : am_cd 10 72 = some (.aload_n 0, 1, [], [])   := rfl
theorem k_10_73 : am_cd 10 73 = some (.invokevirtual 59, 3, [12, 1, 3], [(0, 528), (0, 530), (0, 19)])   := rfl
theorem k_10_76 : am_cd 10 76 = some (.iinc 5 1, 3, [], [(1, 0)])   := rfl
theorem k_10_79 : am_cd 10 79 = some (.goto (-22), 3, [57], [])   := rfl
theorem k_10_82 : am_cd 10 82 = some (.return_, 1, [], [])   := rfl
theorem e_10_0 {x : Option Nat} {a1 a2 a3 a4 a5 : Option AV} : X xs L d 10 (0, [some (.inr x), a1, a2, a3, a4, a5], sk, h) res ↔ X xs L d 10 (1, [some (.inr x), a1, a2, a3, a4, a5], .inr x :: sk, h) res := i_aload_n k_10_0 rfl
theorem e_10_1 {o : Nat} (hs : sk.length ≤ 8) : X xs L d 10 (1, lo, .inr (some o) :: sk, h) res ↔ hK h o = 3 ∧ ∃ q : Res, Rn xs L d 7 [.inr (some o)] h q ∧ X xs L d 10 (4, lo, q.1.toList ++ sk, q.2) res := i_callV k_10_1 rfl ⟨Nat.le_add_left 1 sk.length, Nat.le_trans (Nat.add_le_add_right hs 1) (Nat.le_of_eq (Nat.add_comm 8 1))⟩
theorem e_10_4 {x : Option Nat} {a1 a2 a3 a4 a5 : Option AV} : X xs L d 10 (4, [some (.inr x), a1, a2, a3, a4, a5], sk, h) res ↔ X xs L d 10 (5, [some (.inr x), a1, a2, a3, a4, a5], .inr x :: sk, h) res := i_aload_n k_10_4 rfl
theorem e_10_5 {x : Option Nat} {a0 a2 a3 a4 a5 : Option AV} : X xs L d 10 (5, [a0, some (.inr x), a2, a3, a4, a5], sk, h) res ↔ X xs L d 10 (6, [a0, some (.inr x), a2, a3, a4, a5], .inr x :: sk, h) res := i_aload_n k_10_5 rfl
theorem e_10_6 {o : Nat} {v : Option Nat} : X xs L d 10 (6, lo, .inr v :: .inr (some o) :: sk, h) res ↔ hK h o = 3 ∧ X xs L d 10 (9, lo, sk, sR h o 3 v) res := i_putR k_10_6
theorem e_10_9 {x : Option Nat} {a1 a2 a3 a4 a5 : Option AV} : X xs L d 10 (9, [some (.inr x), a1, a2, a3, a4, a5], sk, h) res ↔ X xs L d 10 (10, [some (.inr x), a1, a2, a3, a4, a5], .inr x :: sk, h) res := i_aload_n k_10_9 rfl
theorem e_10_10 {o : Nat} : X xs L d 10 (10, lo, .inr (some o) :: sk, h) res ↔ hK h o = 3 ∧ X xs L d 10 (13, lo, .inr (hR h o 0) :: sk, h) res := i_getR k_10_10
theorem e_10_13 : X xs L d 10 (13, lo, sk, h) res ↔ X xs L d 10 (14, lo, .inl 0 :: sk, h) res := i_iconst k_10_13
theorem e_10_14 {o : Nat} {i : Int32} : X xs L d 10 (14, lo, .inl i :: .inr (some o) :: sk, h) res ↔ ((hK h o = 23 ∨ hK h o = 24) ∧ vp_in i (hL h o)) ∧ X xs L d 10 (15, lo, .inr (hR h o i.toNatClampNeg) :: sk, h) res := i_aaload k_10_14
theorem e_10_15 {x : Option Nat} {a0 a1 a2 a3 a4 a5 : Option AV} : X xs L d 10 (15, [a0, a1, a2, a3, a4, a5], .inr x :: sk, h) res ↔ X xs L d 10 (17, [a0, a1, a2, a3, some (.inr x), a5], sk, h) res := i_astore k_10_15 (Nat.le_of_ble_eq_true rfl) rfl
theorem e_10_17 {x : Option Nat} {a0 a1 a3 a4 a5 : Option AV} : X xs L d 10 (17, [a0, a1, some (.inr x), a3, a4, a5], sk, h) res ↔ X xs L d 10 (18, [a0, a1, some (.inr x), a3, a4, a5], .inr x :: sk, h) res := i_aload_n k_10_17 rfl
theorem e_10_18 {o : Nat} : X xs L d 10 (18, lo, .inr (some o) :: sk, h) res ↔ hK h o = 2 ∧ X xs L d 10 (21, lo, .inr (hR h o 0) :: sk, h) res := i_getR k_10_18
theorem e_10_21 : X xs L d 10 (21, lo, sk, h) res ↔ X xs L d 10 (22, lo, .inl 0 :: sk, h) res := i_iconst k_10_21
theorem e_10_22 {x : Option Nat} {a0 a1 a2 a3 a5 : Option AV} : X xs L d 10 (22, [a0, a1, a2, a3, some (.inr x), a5], sk, h) res ↔ X xs L d 10 (24, [a0, a1, a2, a3, some (.inr x), a5], .inr x :: sk, h) res := i_aload k_10_22 rfl
theorem e_10_24 {o : Nat} : X xs L d 10 (24, lo, .inr (some o) :: sk, h) res ↔ hK h o = 2 ∧ X xs L d 10 (27, lo, .inr (hR h o 0) :: sk, h) res := i_getR k_10_24
theorem e_10_27 : X xs L d 10 (27, lo, sk, h) res ↔ X xs L d 10 (28, lo, .inl 0 :: sk, h) res := i_iconst k_10_27
theorem e_10_28 : X xs L d 10 (28, lo, sk, h) res ↔ X xs L d 10 (30, lo, .inl 6 :: sk, h) res := i_bipush k_10_28
theorem e_10_30 {o q : Nat} {n dp sp : Int32} : X xs L d 10 (30, lo, .inl n :: .inl dp :: .inr (some q) :: .inl sp :: .inr (some o) :: sk, h) res ↔ ((hK h o = 20 ∧ hK h q = 20 ∧ o ≠ q) ∧ (¬ sp < 0 ∧ ¬ dp < 0 ∧ ¬ n < 0) ∧ (sp.toNatClampNeg + n.toNatClampNeg ≤ hL h o ∧ dp.toNatClampNeg + n.toNatClampNeg ≤ hL h q) ∧ sk.length ≤ 8) ∧ X xs L d 10 (33, lo, sk, sA h q (va_cpy (hI h o) (hI h q) sp.toNatClampNeg dp.toNatClampNeg n.toNatClampNeg)) res := i_acpy k_10_30
theorem e_10_33 {x : Option Nat} {a0 a1 a2 a3 a5 : Option AV} : X xs L d 10 (33, [a0, a1, a2, a3, some (.inr x), a5], sk, h) res ↔ X xs L d 10 (35, [a0, a1, a2, a3, some (.inr x), a5], .inr x :: sk, h) res := i_aload k_10_33 rfl
theorem e_10_35 {x : Option Nat} {a0 a1 a2 a4 a5 : Option AV} : X xs L d 10 (35, [a0, a1, a2, some (.inr x), a4, a5], sk, h) res ↔ X xs L d 10 (36, [a0, a1, a2, some (.inr x), a4, a5], .inr x :: sk, h) res := i_aload_n k_10_35 rfl
theorem e_10_36 {o : Nat} {v : Option Nat} : X xs L d 10 (36, lo, .inr v :: .inr (some o) :: sk, h) res ↔ hK h o = 2 ∧ X xs L d 10 (39, lo, sk, sR h o 1 v) res := i_putR k_10_36
theorem e_10_39 {x : Option Nat} {a0 a1 a2 a3 a5 : Option AV} : X xs L d 10 (39, [a0, a1, a2, a3, some (.inr x), a5], sk, h) res ↔ X xs L d 10 (41, [a0, a1, a2, a3, some (.inr x), a5], .inr x :: sk, h) res := i_aload k_10_39 rfl
theorem e_10_41 : X xs L d 10 (41, lo, sk, h) res ↔ X xs L d 10 (42, lo, .inl 0 :: sk, h) res := i_iconst k_10_41
theorem e_10_42 {o : Nat} {v : Int32} : X xs L d 10 (42, lo, .inl v :: .inr (some o) :: sk, h) res ↔ hK h o = 2 ∧ X xs L d 10 (45, lo, sk, sI h o 2 v) res := i_putI k_10_42
theorem e_10_45 {x : Option Nat} {a1 a2 a3 a4 a5 : Option AV} : X xs L d 10 (45, [some (.inr x), a1, a2, a3, a4, a5], sk, h) res ↔ X xs L d 10 (46, [some (.inr x), a1, a2, a3, a4, a5], .inr x :: sk, h) res := i_aload_n k_10_45 rfl
theorem e_10_46 : X xs L d 10 (46, lo, sk, h) res ↔ X xs L d 10 (47, lo, .inl 1 :: sk, h) res := i_iconst k_10_46
theorem e_10_47 {o : Nat} {v : Int32} : X xs L d 10 (47, lo, .inl v :: .inr (some o) :: sk, h) res ↔ hK h o = 3 ∧ X xs L d 10 (50, lo, sk, sI h o 6 v) res := i_putI k_10_47
theorem e_10_50 {x : Option Nat} {a1 a2 a3 a4 a5 : Option AV} : X xs L d 10 (50, [some (.inr x), a1, a2, a3, a4, a5], sk, h) res ↔ X xs L d 10 (51, [some (.inr x), a1, a2, a3, a4, a5], .inr x :: sk, h) res := i_aload_n k_10_50 rfl
theorem e_10_51 {o : Nat} (hs : sk.length ≤ 8) : X xs L d 10 (51, lo, .inr (some o) :: sk, h) res ↔ hK h o = 3 ∧ ∃ q : Res, Rn xs L d 12 [.inr (some o)] h q ∧ X xs L d 10 (54, lo, q.1.toList ++ sk, q.2) res := i_callV k_10_51 rfl ⟨Nat.le_add_left 1 sk.length, Nat.le_trans (Nat.add_le_add_right hs 1) (Nat.le_of_eq (Nat.add_comm 8 1))⟩
theorem e_10_54 : X xs L d 10 (54, lo, sk, h) res ↔ X xs L d 10 (55, lo, .inl 0 :: sk, h) res := i_iconst k_10_54
theorem e_10_55 {x : Int32} {a0 a1 a2 a3 a4 a5 : Option AV} : X xs L d 10 (55, [a0, a1, a2, a3, a4, a5], .inl x :: sk, h) res ↔ X xs L d 10 (57, [a0, a1, a2, a3, a4, some (.inl x)], sk, h) res := i_istore k_10_55 (Nat.le_of_ble_eq_true rfl) rfl
theorem e_10_57 {x : Int32} {a0 a1 a2 a3 a4 : Option AV} : X xs L d 10 (57, [a0, a1, a2, a3, a4, some (.inl x)], sk, h) res ↔ X xs L d 10 (59, [a0, a1, a2, a3, a4, some (.inl x)], .inl x :: sk, h) res := i_iload k_10_57 rfl
theorem e_10_59 : X xs L d 10 (59, lo, sk, h) res ↔ X xs L d 10 (61, lo, .inl 100 :: sk, h) res := i_bipush k_10_59
theorem e_10_61 {x y : Int32} : X xs L d 10 (61, lo, .inl y :: .inl x :: sk, h) res ↔ (if y ≤ x then X xs L d 10 (82, lo, sk, h) res else X xs L d 10 (64, lo, sk, h) res) := i_icmp_ge k_10_61
theorem e_10_64 {x : Option Nat} {a1 a2 a3 a4 a5 : Option AV} : X xs L d 10 (64, [some (.inr x), a1, a2, a3, a4, a5], sk, h) res ↔ X xs L d 10 (65, [some (.inr x), a1, a2, a3, a4, a5], .inr x :: sk, h) res := i_aload_n k_10_64 rfl
theorem e_10_65 {o : Nat} : X xs L d 10 (65, lo, .inr (some o) :: sk, h) res ↔ hK h o = 3 ∧ X xs L d 10 (68, lo, .inl (hI h o 4) :: sk, h) res := i_getI k_10_65
theorem e_10_68 : X xs L d 10 (68, lo, sk, h) res ↔ X xs L d 10 (69, lo, .inl 1 :: sk, h) res := i_iconst k_10_68
theorem e_10_69 {x y : Int32} : X xs L d 10 (69, lo, .inl y :: .inl x :: sk, h) res ↔ (if x = y then X xs L d 10 (72, lo, sk, h) res else X xs L d 10 (82, lo, sk, h) res) := i_icmp_ne k_10_69
theorem e_10_72 {x : Option Nat} {a1 a2 a3 a4 a5 : Option AV} : X xs L d 10 (72, [some (.inr x), a1, a2, a3, a4, a5], sk, h) res ↔ X xs L d 10 (73, [some (.inr x), a1, a2, a3, a4, a5], .inr x :: sk, h) res := i_aload_n k_10_72 rfl
theorem e_10_73 {o : Nat} (hs : sk.length ≤ 8) : X xs L d 10 (73, lo, .inr (some o) :: sk, h) res ↔ hK h o = 3 ∧ ∃ q : Res, Rn xs L d 12 [.inr (some o)] h q ∧ X xs L d 10 (76, lo, q.1.toList ++ sk, q.2) res := i_callV k_10_73 rfl ⟨Nat.le_add_left 1 sk.length, Nat.le_trans (Nat.add_le_add_right hs 1) (Nat.le_of_eq (Nat.add_comm 8 1))⟩
theorem e_10_76 {x : Int32} {a0 a1 a2 a3 a4 : Option AV} : X xs L d 10 (76, [a0, a1, a2, a3, a4, some (.inl x)], sk, h) res ↔ X xs L d 10 (79, [a0, a1, a2, a3, a4, some (.inl (x + 1))], sk, h) res := i_iinc k_10_76 rfl rfl
theorem e_10_79 : X xs L d 10 (79, lo, sk, h) res ↔ X xs L d 10 (57, lo, sk, h) res := i_goto k_10_79
theorem e_10_82 : X xs L d 10 (82, lo, [], h) res ↔ res = (none, h) := i_vret k_10_82 rfl
theorem k_11_0 : am_cd 11 0 = some (.iload_n 1, 1, [], [])   := rfl
theorem k_11_1 : am_cd 11 1 = some (.ifCond .lt 27, 3, [28], [])   := rfl
theorem k_11_4 : am_cd 11 4 = some (.iload_n 1, 1, [], [])   := rfl
theorem k_11_5 : am_cd 11 5 = some (.aload_n 0, 1, [], [])   := rfl
theorem k_11_6 : am_cd 11 6 = some (.getfield 36, 3, [3, 6, 0], [(0, 196)])   := rfl
theorem k_11_9 : am_cd 11 9 = some (.if_icmp .ge 19, 3, [28], [])   := rfl
theorem k_11_12 : am_cd 11 12 = some (.aload_n 0, 1, [], [])   := rfl
theorem k_11_13 : am_cd 11 13 = some (.getfield 11, 3, [3, 0, 2], [(0, 187)])   := rfl
theorem k_11_16 : am_cd 11 16 = some (.aload_n 0, 1, [], [])   := rfl
theorem k_11_17 : am_cd 11 17 = some (.getfield 36, 3, [3, 6, 0], [(0, 196)])   := rfl
theorem k_11_20 : am_cd 11 20 = some (.iconst 1, 1, [], [(1, 0)])   := rfl
theorem k_11_21 : am_cd 11 21 = some (.isub, 1, [], [])   := rfl
theorem k_11_22 : am_cd 11 22 = some (.iload_n 1, 1, [], [])   := rfl
theorem k_11_23 : am_cd 11 23 = some (.isub, 1, [], [])   := rfl
theorem k_11_24 : am_cd 11 24 = some (.aaload, 1, [], [])   := rfl
theorem k_11_25 : am_cd 11 25 = some (.goto 4, 3, [29], [])   := rfl
theorem k_11_28 : am_cd 11 28 = some (.aconst_null, 1, [], [])   := rfl
theorem k_11_29 : am_cd 11 29 = some (.areturn, 1, [], [])   := rfl
theorem e_11_0 {x : Int32} {a0 : Option AV} : X xs L d 11 (0, [a0, some (.inl x)], sk, h) res ↔ X xs L d 11 (1, [a0, some (.inl x)], .inl x :: sk, h) res := i_iload_n k_11_0 rfl
theorem e_11_1 {x : Int32} : X xs L d 11 (1, lo, .inl x :: sk, h) res ↔ (if x < 0 then X xs L d 11 (28, lo, sk, h) res else X xs L d 11 (4, lo, sk, h) res) := i_if_lt k_11_1
theorem e_11_4 {x : Int32} {a0 : Option AV} : X xs L d 11 (4, [a0, some (.inl x)], sk, h) res ↔ X xs L d 11 (5, [a0, some (.inl x)], .inl x :: sk, h) res := i_iload_n k_11_4 rfl
theorem e_11_5 {x : Option Nat} {a1 : Option AV} : X xs L d 11 (5, [some (.inr x), a1], sk, h) res ↔ X xs L d 11 (6, [some (.inr x), a1], .inr x :: sk, h) res := i_aload_n k_11_5 rfl
theorem e_11_6 {o : Nat} : X xs L d 11 (6, lo, .inr (some o) :: sk, h) res ↔ hK h o = 3 ∧ X xs L d 11 (9, lo, .inl (hI h o 6) :: sk, h) res := i_getI k_11_6
theorem e_11_9 {x y : Int32} : X xs L d 11 (9, lo, .inl y :: .inl x :: sk, h) res ↔ (if y ≤ x then X xs L d 11 (28, lo, sk, h) res else X xs L d 11 (12, lo, sk, h) res) := i_icmp_ge k_11_9
theorem e_11_12 {x : Option Nat} {a1 : Option AV} : X xs L d 11 (12, [some (.inr x), a1], sk, h) res ↔ X xs L d 11 (13, [some (.inr x), a1], .inr x :: sk, h) res := i_aload_n k_11_12 rfl
theorem e_11_13 {o : Nat} : X xs L d 11 (13, lo, .inr (some o) :: sk, h) res ↔ hK h o = 3 ∧ X xs L d 11 (16, lo, .inr (hR h o 0) :: sk, h) res := i_getR k_11_13
theorem e_11_16 {x : Option Nat} {a1 : Option AV} : X xs L d 11 (16, [some (.inr x), a1], sk, h) res ↔ X xs L d 11 (17, [some (.inr x), a1], .inr x :: sk, h) res := i_aload_n k_11_16 rfl
theorem e_11_17 {o : Nat} : X xs L d 11 (17, lo, .inr (some o) :: sk, h) res ↔ hK h o = 3 ∧ X xs L d 11 (20, lo, .inl (hI h o 6) :: sk, h) res := i_getI k_11_17
theorem e_11_20 : X xs L d 11 (20, lo, sk, h) res ↔ X xs L d 11 (21, lo, .inl 1 :: sk, h) res := i_iconst k_11_20
theorem e_11_21 {x y : Int32} : X xs L d 11 (21, lo, .inl y :: .inl x :: sk, h) res ↔ X xs L d 11 (22, lo, .inl (x - y) :: sk, h) res := i_isub k_11_21
theorem e_11_22 {x : Int32} {a0 : Option AV} : X xs L d 11 (22, [a0, some (.inl x)], sk, h) res ↔ X xs L d 11 (23, [a0, some (.inl x)], .inl x :: sk, h) res := i_iload_n k_11_22 rfl
theorem e_11_23 {x y : Int32} : X xs L d 11 (23, lo, .inl y :: .inl x :: sk, h) res ↔ X xs L d 11 (24, lo, .inl (x - y) :: sk, h) res := i_isub k_11_23
theorem e_11_24 {o : Nat} {i : Int32} : X xs L d 11 (24, lo, .inl i :: .inr (some o) :: sk, h) res ↔ ((hK h o = 23 ∨ hK h o = 24) ∧ vp_in i (hL h o)) ∧ X xs L d 11 (25, lo, .inr (hR h o i.toNatClampNeg) :: sk, h) res := i_aaload k_11_24
theorem e_11_25 : X xs L d 11 (25, lo, sk, h) res ↔ X xs L d 11 (29, lo, sk, h) res := i_goto k_11_25
theorem e_11_28 : X xs L d 11 (28, lo, sk, h) res ↔ X xs L d 11 (29, lo, .inr none :: sk, h) res := i_null k_11_28
theorem e_11_29 {v : Option Nat} : X xs L d 11 (29, lo, [.inr v], h) res ↔ res = (some (.inr v), h) := i_aret k_11_29 rfl
theorem k_12_0 : am_cd 12 0 = some (.aload_n 0, 1, [], [])   := rfl
theorem k_12_1 : am_cd 12 1 = some (.iconst 0, 1, [], [(0, 0)])   := rfl
theorem k_12_2 : am_cd 12 2 = some (.putfield 78, 3, [3, 9, 1], [(0, 201)])   := rfl
theorem k_12_5 : am_cd 12 5 = some (.iconst 1, 1, [], [(1, 0)])   := rfl
theorem k_12_6 : am_cd 12 6 = some (.istore_n 1, 1, [], [])   := rfl
theorem k_12_7 : am_cd 12 7 = some (.iconst 0, 1, [], [(0, 0)])   := rfl
theorem k_12_8 : am_cd 12 8 = some (.istore_n 2, 1, [], [])   := rfl
theorem k_12_9 : am_cd 12 9 = some (.iload_n 1, 1, [], [])   := rfl
theorem k_12_10 : am_cd 12 10 = some (.ifCond .eq 55, 3, [65], [])   := rfl
theorem k_12_13 : am_cd 12 13 = some (.aload_n 0, 1, [], [])   := rfl
theorem k_12_14 : am_cd 12 14 = some (.getfield 36, 3, [3, 6, 0], [(0, 196)])   := rfl
theorem k_12_17 : am_cd 12 17 = some (.ifCond .le 48, 3, [65], [])   := rfl
theorem k_12_20 : am_cd 12 20 = some (.iload_n 2, 1, [], [])   := rfl
theorem k_12_21 : am_cd 12 21 = some (.ldc 82, 2, [], [(100000, 532)])   := rfl
theorem k_12_23 : am_cd 12 23 = some (.if_icmp .ge 42, 3, [65], [])   := rfl
theorem k_12_26 : am_cd 12 26 = some (.aload_n 0, 1, [], [])   := rfl
theorem k_12_27 : am_cd 12 27 = some (.getfield 11, 3, [3, 0, 2], [(0, 187)])   := rfl
theorem k_12_30 : am_cd 12 30 = some (.aload_n 0, 1, [], [])   := rfl
theorem k_12_31 : am_cd 12 31 = some (.getfield 36, 3, [3, 6, 0], [(0, 196)])   := rfl
theorem k_12_34 : am_cd 12 34 = some (.iconst 1, 1, [], [(1, 0)])   := rfl
theorem k_12_35 : am_cd 12 35 = some (.isub, 1, [], [])   := rfl
theorem k_12_36 : am_cd 12 36 = some (.aaload, 1, [], [])   := rfl
theorem k_12_37 : am_cd 12 37 = some (.astore_n 3, 1, [], [])   := rfl
theorem k_12_38 : am_cd 12 38 = some (.aload_n 3, 1, [], [])   := rfl
theorem k_12_39 : am_cd 12 39 = some (.invokevirtual 83, 3, [3, 1, 2], [(0, 533), (0, 534), (0, 535)])   := rfl
theorem k_12_42 : am_cd 12 42 = some (.istore 4, 2, [], [])   := rfl
theorem k_12_44 : am_cd 12 44 = some (.aload_n 0, 1, [], [])   := rfl
theorem k_12_45 : am_cd 12 45 = some (.aload_n 3, 1, [], [])   := rfl
theorem k_12_46 : am_cd 12 46 = some (.iload 4, 2, [], [])   := rfl
theorem k_12_48 : am_cd 12 48 = some (.bipush 15, 2, [], [(15, 0)])   := rfl
theorem k_12_50 : am_cd 12 50 = some (.iand, 1, [], [])   := rfl
theorem k_12_51 : am_cd 12 51 = some (.iload 4, 2, [], [])   := rfl
theorem k_12_53 : am_cd 12 53 = some (.iconst 4, 1, [], [(4, 0)])   := rfl
theorem k_12_54 : am_cd 12 54 = some (.ishr, 1, [], [])   := rfl
theorem k_12_55 : am_cd 12 55 = some (.invokevirtual 87, 3, [13, 4, 3], [(0, 537), (0, 539), (0, 20)])   := rfl
theorem k_12_58 : am_cd 12 58 = some (.istore_n 1, 1, [], [])   := rfl
theorem k_12_59 : am_cd 12 59 = some (.iinc 2 1, 3, [], [(1, 0)])   := rfl
theorem k_12_62 : am_cd 12 62 = some (.goto (-53), 3, [9], [])   := rfl
theorem k_12_65 : am_cd 12 65 = some (.return_, 1, [], [])   := rfl
theorem e_12_0 {x : Option Nat} {a1 a2 a3 a4 : Option AV} : X xs L d 12 (0, [some (.inr x), a1, a2, a3, a4], sk, h) res ↔ X xs L d 12 (1, [some (.inr x), a1, a2, a3, a4], .inr x :: sk, h) res := i_aload_n k_12_0 rfl
theorem e_12_1 : X xs L d 12 (1, lo, sk, h) res ↔ X xs L d 12 (2, lo, .inl 0 :: sk, h) res := i_iconst k_12_1
theorem e_12_2 {o : Nat} {v : Int32} : X xs L d 12 (2, lo, .inl v :: .inr (some o) :: sk, h) res ↔ (hK h o = 3 ∧ (v = 0 ∨ v = 1)) ∧ X xs L d 12 (5, lo, sk, sI h o 9 v) res := i_putZ k_12_2
theorem e_12_5 : X xs L d 12 (5, lo, sk, h) res ↔ X xs L d 12 (6, lo, .inl 1 :: sk, h) res := i_iconst k_12_5
theorem e_12_6 {x : Int32} {a0 a1 a2 a3 a4 : Option AV} : X xs L d 12 (6, [a0, a1, a2, a3, a4], .inl x :: sk, h) res ↔ X xs L d 12 (7, [a0, some (.inl x), a2, a3, a4], sk, h) res := i_istore_n k_12_6 (Nat.le_of_ble_eq_true rfl) rfl
theorem e_12_7 : X xs L d 12 (7, lo, sk, h) res ↔ X xs L d 12 (8, lo, .inl 0 :: sk, h) res := i_iconst k_12_7
theorem e_12_8 {x : Int32} {a0 a1 a2 a3 a4 : Option AV} : X xs L d 12 (8, [a0, a1, a2, a3, a4], .inl x :: sk, h) res ↔ X xs L d 12 (9, [a0, a1, some (.inl x), a3, a4], sk, h) res := i_istore_n k_12_8 (Nat.le_of_ble_eq_true rfl) rfl
theorem e_12_9 {x : Int32} {a0 a2 a3 a4 : Option AV} : X xs L d 12 (9, [a0, some (.inl x), a2, a3, a4], sk, h) res ↔ X xs L d 12 (10, [a0, some (.inl x), a2, a3, a4], .inl x :: sk, h) res := i_iload_n k_12_9 rfl
theorem e_12_10 {x : Int32} : X xs L d 12 (10, lo, .inl x :: sk, h) res ↔ (if x = 0 then X xs L d 12 (65, lo, sk, h) res else X xs L d 12 (13, lo, sk, h) res) := i_if_eq k_12_10
theorem e_12_13 {x : Option Nat} {a1 a2 a3 a4 : Option AV} : X xs L d 12 (13, [some (.inr x), a1, a2, a3, a4], sk, h) res ↔ X xs L d 12 (14, [some (.inr x), a1, a2, a3, a4], .inr x :: sk, h) res := i_aload_n k_12_13 rfl
theorem e_12_14 {o : Nat} : X xs L d 12 (14, lo, .inr (some o) :: sk, h) res ↔ hK h o = 3 ∧ X xs L d 12 (17, lo, .inl (hI h o 6) :: sk, h) res := i_getI k_12_14
theorem e_12_17 {x : Int32} : X xs L d 12 (17, lo, .inl x :: sk, h) res ↔ (if x ≤ 0 then X xs L d 12 (65, lo, sk, h) res else X xs L d 12 (20, lo, sk, h) res) := i_if_le k_12_17
theorem e_12_20 {x : Int32} {a0 a1 a3 a4 : Option AV} : X xs L d 12 (20, [a0, a1, some (.inl x), a3, a4], sk, h) res ↔ X xs L d 12 (21, [a0, a1, some (.inl x), a3, a4], .inl x :: sk, h) res := i_iload_n k_12_20 rfl
theorem e_12_21 : X xs L d 12 (21, lo, sk, h) res ↔ X xs L d 12 (23, lo, .inl 100000 :: sk, h) res := i_ldc k_12_21
theorem e_12_23 {x y : Int32} : X xs L d 12 (23, lo, .inl y :: .inl x :: sk, h) res ↔ (if y ≤ x then X xs L d 12 (65, lo, sk, h) res else X xs L d 12 (26, lo, sk, h) res) := i_icmp_ge k_12_23
theorem e_12_26 {x : Option Nat} {a1 a2 a3 a4 : Option AV} : X xs L d 12 (26, [some (.inr x), a1, a2, a3, a4], sk, h) res ↔ X xs L d 12 (27, [some (.inr x), a1, a2, a3, a4], .inr x :: sk, h) res := i_aload_n k_12_26 rfl
theorem e_12_27 {o : Nat} : X xs L d 12 (27, lo, .inr (some o) :: sk, h) res ↔ hK h o = 3 ∧ X xs L d 12 (30, lo, .inr (hR h o 0) :: sk, h) res := i_getR k_12_27
theorem e_12_30 {x : Option Nat} {a1 a2 a3 a4 : Option AV} : X xs L d 12 (30, [some (.inr x), a1, a2, a3, a4], sk, h) res ↔ X xs L d 12 (31, [some (.inr x), a1, a2, a3, a4], .inr x :: sk, h) res := i_aload_n k_12_30 rfl
theorem e_12_31 {o : Nat} : X xs L d 12 (31, lo, .inr (some o) :: sk, h) res ↔ hK h o = 3 ∧ X xs L d 12 (34, lo, .inl (hI h o 6) :: sk, h) res := i_getI k_12_31
theorem e_12_34 : X xs L d 12 (34, lo, sk, h) res ↔ X xs L d 12 (35, lo, .inl 1 :: sk, h) res := i_iconst k_12_34
theorem e_12_35 {x y : Int32} : X xs L d 12 (35, lo, .inl y :: .inl x :: sk, h) res ↔ X xs L d 12 (36, lo, .inl (x - y) :: sk, h) res := i_isub k_12_35
theorem e_12_36 {o : Nat} {i : Int32} : X xs L d 12 (36, lo, .inl i :: .inr (some o) :: sk, h) res ↔ ((hK h o = 23 ∨ hK h o = 24) ∧ vp_in i (hL h o)) ∧ X xs L d 12 (37, lo, .inr (hR h o i.toNatClampNeg) :: sk, h) res := i_aaload k_12_36
theorem e_12_37 {x : Option Nat} {a0 a1 a2 a3 a4 : Option AV} : X xs L d 12 (37, [a0, a1, a2, a3, a4], .inr x :: sk, h) res ↔ X xs L d 12 (38, [a0, a1, a2, some (.inr x), a4], sk, h) res := i_astore_n k_12_37 (Nat.le_of_ble_eq_true rfl) rfl
theorem e_12_38 {x : Option Nat} {a0 a1 a2 a4 : Option AV} : X xs L d 12 (38, [a0, a1, a2, some (.inr x), a4], sk, h) res ↔ X xs L d 12 (39, [a0, a1, a2, some (.inr x), a4], .inr x :: sk, h) res := i_aload_n k_12_38 rfl
theorem e_12_39 {o : Nat} (hs : sk.length ≤ 8) : X xs L d 12 (39, lo, .inr (some o) :: sk, h) res ↔ hK h o = 2 ∧ ∃ q : Res, Rn xs L d 3 [.inr (some o)] h q ∧ X xs L d 12 (42, lo, q.1.toList ++ sk, q.2) res := i_callV k_12_39 rfl ⟨Nat.le_add_left 1 sk.length, Nat.le_trans (Nat.add_le_add_right hs 1) (Nat.le_of_eq (Nat.add_comm 8 1))⟩
theorem e_12_42 {x : Int32} {a0 a1 a2 a3 a4 : Option AV} : X xs L d 12 (42, [a0, a1, a2, a3, a4], .inl x :: sk, h) res ↔ X xs L d 12 (44, [a0, a1, a2, a3, some (.inl x)], sk, h) res := i_istore k_12_42 (Nat.le_of_ble_eq_true rfl) rfl
theorem e_12_44 {x : Option Nat} {a1 a2 a3 a4 : Option AV} : X xs L d 12 (44, [some (.inr x), a1, a2, a3, a4], sk, h) res ↔ X xs L d 12 (45, [some (.inr x), a1, a2, a3, a4], .inr x :: sk, h) res := i_aload_n k_12_44 rfl
theorem e_12_45 {x : Option Nat} {a0 a1 a2 a4 : Option AV} : X xs L d 12 (45, [a0, a1, a2, some (.inr x), a4], sk, h) res ↔ X xs L d 12 (46, [a0, a1, a2, some (.inr x), a4], .inr x :: sk, h) res := i_aload_n k_12_45 rfl
theorem e_12_46 {x : Int32} {a0 a1 a2 a3 : Option AV} : X xs L d 12 (46, [a0, a1, a2, a3, some (.inl x)], sk, h) res ↔ X xs L d 12 (48, [a0, a1, a2, a3, some (.inl x)], .inl x :: sk, h) res := i_iload k_12_46 rfl
theorem e_12_48 : X xs L d 12 (48, lo, sk, h) res ↔ X xs L d 12 (50, lo, .inl 15 :: sk, h) res := i_bipush k_12_48
theorem e_12_50 {x y : Int32} : X xs L d 12 (50, lo, .inl y :: .inl x :: sk, h) res ↔ X xs L d 12 (51, lo, .inl (x &&& y) :: sk, h) res := i_iand k_12_50
theorem e_12_51 {x : Int32} {a0 a1 a2 a3 : Option AV} : X xs L d 12 (51, [a0, a1, a2, a3, some (.inl x)], sk, h) res ↔ X xs L d 12 (53, [a0, a1, a2, a3, some (.inl x)], .inl x :: sk, h) res := i_iload k_12_51 rfl
theorem e_12_53 : X xs L d 12 (53, lo, sk, h) res ↔ X xs L d 12 (54, lo, .inl 4 :: sk, h) res := i_iconst k_12_53
theorem e_12_54 {x y : Int32} : X xs L d 12 (54, lo, .inl y :: .inl x :: sk, h) res ↔ X xs L d 12 (55, lo, .inl (x >>> (y &&& 31)) :: sk, h) res := i_ishr k_12_54
theorem e_12_55 {o : Nat} {v0 : Option Nat} {v1 : Int32} {v2 : Int32} (hs : sk.length ≤ 8) : X xs L d 12 (55, lo, .inl v2 :: .inl v1 :: .inr v0 :: .inr (some o) :: sk, h) res ↔ hK h o = 3 ∧ ∃ q : Res, Rn xs L d 13 [.inr (some o), .inr v0, .inl v1, .inl v2] h q ∧ X xs L d 12 (58, lo, q.1.toList ++ sk, q.2) res := i_callV k_12_55 rfl ⟨Nat.le_add_left 4 sk.length, Nat.le_trans (Nat.add_le_add_right hs 4) (Nat.le_of_eq (Nat.add_comm 8 4))⟩
theorem e_12_58 {x : Int32} {a0 a1 a2 a3 a4 : Option AV} : X xs L d 12 (58, [a0, a1, a2, a3, a4], .inl x :: sk, h) res ↔ X xs L d 12 (59, [a0, some (.inl x), a2, a3, a4], sk, h) res := i_istore_n k_12_58 (Nat.le_of_ble_eq_true rfl) rfl
theorem e_12_59 {x : Int32} {a0 a1 a3 a4 : Option AV} : X xs L d 12 (59, [a0, a1, some (.inl x), a3, a4], sk, h) res ↔ X xs L d 12 (62, [a0, a1, some (.inl (x + 1)), a3, a4], sk, h) res := i_iinc k_12_59 rfl rfl
theorem e_12_62 : X xs L d 12 (62, lo, sk, h) res ↔ X xs L d 12 (9, lo, sk, h) res := i_goto k_12_62
theorem e_12_65 : X xs L d 12 (65, lo, [], h) res ↔ res = (none, h) := i_vret k_12_65 rfl
theorem k_13_0 : am_cd 13 0 = some (.iload_n 2, 1, [], [])   := rfl
theorem k_13_1 : am_cd 13 1 = some (.tableswitch 170 1 10 #[55, 62, 73, 79, 103, 115, 127, 140, 149, 163], 55, [171], [(1, 56), (2, 63), (3, 74), (4, 80), (5, 104), (6, 116), (7, 128), (8, 141), (9, 150), (10, 164)])   := rfl
theorem k_13_56 : am_cd 13 56 = some (.aload_n 0, 1, [], [])   := rfl
theorem k_13_57 : am_cd 13 57 = some (.iload_n 3, 1, [], [])   := rfl
theorem k_13_58 : am_cd 13 58 = some (.invokevirtual 91, 3, [18, 2, 3], [(0, 541), (0, 543), (0, 21)])   := rfl
theorem k_13_61 : am_cd 13 61 = some (.iconst 1, 1, [], [(1, 0)])   := rfl
theorem k_13_62 : am_cd 13 62 = some (.ireturn, 1, [], [])   := rfl
theorem k_13_63 : am_cd 13 63 = some (.aload_n 0, 1, [], [])   := rfl
theorem k_13_64 : am_cd 13 64 = some (.aload_n 1, 1, [], [])   := rfl
theorem k_13_65 : am_cd 13 65 = some (.iload_n 3, 1, [], [])   := rfl
theorem k_13_66 : am_cd 13 66 = some (.invokevirtual 94, 3, [4, 2, 2], [(0, 545), (0, 546), (0, 547)])   := rfl
theorem k_13_69 : am_cd 13 69 = some (.invokevirtual 91, 3, [18, 2, 3], [(0, 541), (0, 543), (0, 21)])   := rfl
theorem k_13_72 : am_cd 13 72 = some (.iconst 1, 1, [], [(1, 0)])   := rfl
theorem k_13_73 : am_cd 13 73 = some (.ireturn, 1, [], [])   := rfl
theorem k_13_74 : am_cd 13 74 = some (.aload_n 0, 1, [], [])   := rfl
theorem k_13_75 : am_cd 13 75 = some (.iload_n 3, 1, [], [])   := rfl
theorem k_13_76 : am_cd 13 76 = some (.invokevirtual 98, 3, [14, 2, 3], [(0, 549), (0, 551), (0, 22)])   := rfl
theorem k_13_79 : am_cd 13 79 = some (.ireturn, 1, [], [])   := rfl
theorem k_13_80 : am_cd 13 80 = some (.aload_n 0, 1, [], [])   := rfl
theorem k_13_81 : am_cd 13 81 = some (.getfield 36, 3, [3, 6, 0], [(0, 196)])   := rfl
theorem k_13_84 : am_cd 13 84 = some (.bipush 6, 2, [], [(6, 0)])   := rfl
theorem k_13_86 : am_cd 13 86 = some (.if_icmp .lt 11, 3, [97], [])   := rfl
theorem k_13_89 : am_cd 13 89 = some (.aload_n 0, 1, [], [])   := rfl
theorem k_13_90 : am_cd 13 90 = some (.sipush 1002, 3, [], [(1002, 0)])   := rfl
theorem k_13_93 : am_cd 13 93 = some (.invokevirtual 102, 3, [17, 2, 3], [(0, 553), (0, 555), (0, 23)])   := rfl
theorem k_13_96 : am_cd 13 96 = some (.ireturn, 1, [], [])   := rfl
theorem k_13_97 : am_cd 13 97 = some (.aload_n 0, 1, [], [])   := rfl
theorem k_13_98 : am_cd 13 98 = some (.iload_n 3, 1, [], [])   := rfl
theorem k_13_99 : am_cd 13 99 = some (.invokevirtual 55, 3, [15, 2, 3], [(0, 519), (0, 521), (0, 17)])   := rfl
theorem k_13_102 : am_cd 13 102 = some (.iconst 1, 1, [], [(1, 0)])   := rfl
theorem k_13_103 : am_cd 13 103 = some (.ireturn, 1, [], [])   := rfl
theorem k_13_104 : am_cd 13 104 = some (.aload_n 1, 1, [], [])   := rfl
theorem k_13_105 : am_cd 13 105 = some (.iload_n 3, 1, [], [])   := rfl
theorem k_13_106 : am_cd 13 106 = some (.putfield 105, 3, [2, 5, 0], [(0, 159)])   := rfl
theorem k_13_109 : am_cd 13 109 = some (.aload_n 0, 1, [], [])   := rfl
theorem k_13_110 : am_cd 13 110 = some (.iconst 1, 1, [], [(1, 0)])   := rfl
theorem k_13_111 : am_cd 13 111 = some (.putfield 29, 3, [3, 4, 0], [(0, 192)])   := rfl
theorem k_13_114 : am_cd 13 114 = some (.iconst 0, 1, [], [(0, 0)])   := rfl
theorem k_13_115 : am_cd 13 115 = some (.ireturn, 1, [], [])   := rfl
theorem k_13_116 : am_cd 13 116 = some (.aload_n 1, 1, [], [])   := rfl
theorem k_13_117 : am_cd 13 117 = some (.iload_n 3, 1, [], [])   := rfl
theorem k_13_118 : am_cd 13 118 = some (.aload_n 0, 1, [], [])   := rfl
theorem k_13_119 : am_cd 13 119 = some (.invokevirtual 108, 3, [19, 1, 3], [(0, 524), (0, 526), (0, 18)])   := rfl
theorem k_13_122 : am_cd 13 122 = some (.invokevirtual 111, 3, [5, 3, 2], [(0, 557), (0, 558), (0, 559)])   := rfl
theorem k_13_125 : am_cd 13 125 = some (.pop, 1, [], [])   := rfl
theorem k_13_126 : am_cd 13 126 = some (.iconst 1, 1, [], [(1, 0)])   := rfl
theorem k_13_127 : am_cd 13 127 = some (.ireturn, 1, [], [])   := rfl
theorem k_13_128 : am_cd 13 128 = some (.aload_n 0, 1, [], [])   := rfl
theorem k_13_129 : am_cd 13 129 = some (.getfield 25, 3, [3, 2, 2], [(0, 189)])   := rfl
theorem k_13_132 : am_cd 13 132 = some (.aload_n 0, 1, [], [])   := rfl
theorem k_13_133 : am_cd 13 133 = some (.invokevirtual 108, 3, [19, 1, 3], [(0, 524), (0, 526), (0, 18)])   := rfl
theorem k_13_136 : am_cd 13 136 = some (.invokevirtual 115, 3, [22, 2, 5], [(0, 561), (0, 562), (0, 563)])   := rfl
theorem k_13_139 : am_cd 13 139 = some (.iconst 1, 1, [], [(1, 0)])   := rfl
theorem k_13_140 : am_cd 13 140 = some (.ireturn, 1, [], [])   := rfl
theorem k_13_141 : am_cd 13 141 = some (.aload_n 0, 1, [], [])   := rfl
theorem k_13_142 : am_cd 13 142 = some (.aload_n 0, 1, [], [])   := rfl
theorem k_13_143 : am_cd 13 143 = some (.invokevirtual 108, 3, [19, 1, 3], [(0, 524), (0, 526), (0, 18)])   := rfl
theorem k_13_146 : am_cd 13 146 = some (.invokevirtual 102, 3, [17, 2, 3], [(0, 553), (0, 555), (0, 23)])   := rfl
theorem k_13_149 : am_cd 13 149 = some (.ireturn, 1, [], [])   := rfl
theorem k_13_150 : am_cd 13 150 = some (.aload_n 0, 1, [], [])   := rfl
theorem k_13_151 : am_cd 13 151 = some (.invokevirtual 108, 3, [19, 1, 3], [(0, 524), (0, 526), (0, 18)])   := rfl
theorem k_13_154 : am_cd 13 154 = some (.ifCond .ne 8, 3, [162], [])   := rfl
theorem k_13_157 : am_cd 13 157 = some (.aload_n 1, 1, [], [])   := rfl
theorem k_13_158 : am_cd 13 158 = some (.iload_n 3, 1, [], [])   := rfl
theorem k_13_159 : am_cd 13 159 = some (.putfield 75, 3, [2, 2, 0], [(0, 155)])   := rfl
theorem k_13_162 : am_cd 13 162 = some (.iconst 1, 1, [], [(1, 0)])   := rfl
theorem k_13_163 : am_cd 13 163 = some (.ireturn, 1, [], [])   := rfl
theorem k_13_164 : am_cd 13 164 = some (.aload_n 1, 1, [], [])   := rfl
theorem k_13_165 : am_cd 13 165 = some (.iload_n 3, 1, [], [])   := rfl
theorem k_13_166 : am_cd 13 166 = some (.putfield 75, 3, [2, 2, 0], [(0, 155)])   := rfl
theorem k_13_169 : am_cd 13 169 = some (.iconst 1, 1, [], [(1, 0)])   := rfl
theorem k_13_170 : am_cd 13 170 = some (.ireturn, 1, [], [])   := rfl
theorem k_13_171 : am_cd 13 171 = some (.aload_n 0, 1, [], [])   := rfl
theorem k_13_172 : am_cd 13 172 = some (.aload_n 0, 1, [], [])   := rfl
theorem k_13_173 : am_cd 13 173 = some (.invokevirtual 108, 3, [19, 1, 3], [(0, 524), (0, 526), (0, 18)])   := rfl
theorem k_13_176 : am_cd 13 176 = some (.invokevirtual 118, 3, [16, 2, 3], [(0, 565), (0, 567), (0, 24)])   := rfl
theorem k_13_179 : am_cd 13 179 = some (.ireturn, 1, [], [])   := rfl
theorem e_13_0 {x : Int32} {a0 a1 a3 : Option AV} : X xs L d 13 (0, [a0, a1, some (.inl x), a3], sk, h) res ↔ X xs L d 13 (1, [a0, a1, some (.inl x), a3], .inl x :: sk, h) res := i_iload_n k_13_0 rfl
theorem e_13_1 {x : Int32} : X xs L d 13 (1, lo, .inl x :: sk, h) res ↔ X xs L d 13 (a_tgt x [(1, 56), (2, 63), (3, 74), (4, 80), (5, 104), (6, 116), (7, 128), (8, 141), (9, 150), (10, 164)] 171, lo, sk, h) res := i_tsw k_13_1
theorem e_13_56 {x : Option Nat} {a1 a2 a3 : Option AV} : X xs L d 13 (56, [some (.inr x), a1, a2, a3], sk, h) res ↔ X xs L d 13 (57, [some (.inr x), a1, a2, a3], .inr x :: sk, h) res := i_aload_n k_13_56 rfl
theorem e_13_57 {x : Int32} {a0 a1 a2 : Option AV} : X xs L d 13 (57, [a0, a1, a2, some (.inl x)], sk, h) res ↔ X xs L d 13 (58, [a0, a1, a2, some (.inl x)], .inl x :: sk, h) res := i_iload_n k_13_57 rfl
theorem e_13_58 {o : Nat} {v0 : Int32} (hs : sk.length ≤ 8) : X xs L d 13 (58, lo, .inl v0 :: .inr (some o) :: sk, h) res ↔ hK h o = 3 ∧ ∃ q : Res, Rn xs L d 18 [.inr (some o), .inl v0] h q ∧ X xs L d 13 (61, lo, q.1.toList ++ sk, q.2) res := i_callV k_13_58 rfl ⟨Nat.le_add_left 2 sk.length, Nat.le_trans (Nat.add_le_add_right hs 2) (Nat.le_of_eq (Nat.add_comm 8 2))⟩
theorem e_13_61 : X xs L d 13 (61, lo, sk, h) res ↔ X xs L d 13 (62, lo, .inl 1 :: sk, h) res := i_iconst k_13_61
theorem e_13_62 {v : Int32} : X xs L d 13 (62, lo, [.inl v], h) res ↔ (v = 0 ∨ v = 1) ∧ res = (some (.inl v), h) := i_zret k_13_62 rfl
theorem e_13_63 {x : Option Nat} {a1 a2 a3 : Option AV} : X xs L d 13 (63, [some (.inr x), a1, a2, a3], sk, h) res ↔ X xs L d 13 (64, [some (.inr x), a1, a2, a3], .inr x :: sk, h) res := i_aload_n k_13_63 rfl
theorem e_13_64 {x : Option Nat} {a0 a2 a3 : Option AV} : X xs L d 13 (64, [a0, some (.inr x), a2, a3], sk, h) res ↔ X xs L d 13 (65, [a0, some (.inr x), a2, a3], .inr x :: sk, h) res := i_aload_n k_13_64 rfl
theorem e_13_65 {x : Int32} {a0 a1 a2 : Option AV} : X xs L d 13 (65, [a0, a1, a2, some (.inl x)], sk, h) res ↔ X xs L d 13 (66, [a0, a1, a2, some (.inl x)], .inl x :: sk, h) res := i_iload_n k_13_65 rfl
theorem e_13_66 {o : Nat} {v0 : Int32} (hs : sk.length ≤ 8) : X xs L d 13 (66, lo, .inl v0 :: .inr (some o) :: sk, h) res ↔ hK h o = 2 ∧ ∃ q : Res, Rn xs L d 4 [.inr (some o), .inl v0] h q ∧ X xs L d 13 (69, lo, q.1.toList ++ sk, q.2) res := i_callV k_13_66 rfl ⟨Nat.le_add_left 2 sk.length, Nat.le_trans (Nat.add_le_add_right hs 2) (Nat.le_of_eq (Nat.add_comm 8 2))⟩
theorem e_13_69 {o : Nat} {v0 : Int32} (hs : sk.length ≤ 8) : X xs L d 13 (69, lo, .inl v0 :: .inr (some o) :: sk, h) res ↔ hK h o = 3 ∧ ∃ q : Res, Rn xs L d 18 [.inr (some o), .inl v0] h q ∧ X xs L d 13 (72, lo, q.1.toList ++ sk, q.2) res := i_callV k_13_69 rfl ⟨Nat.le_add_left 2 sk.length, Nat.le_trans (Nat.add_le_add_right hs 2) (Nat.le_of_eq (Nat.add_comm 8 2))⟩
theorem e_13_72 : X xs L d 13 (72, lo, sk, h) res ↔ X xs L d 13 (73, lo, .inl 1 :: sk, h) res := i_iconst k_13_72
theorem e_13_73 {v : Int32} : X xs L d 13 (73, lo, [.inl v], h) res ↔ (v = 0 ∨ v = 1) ∧ res = (some (.inl v), h) := i_zret k_13_73 rfl
theorem e_13_74 {x : Option Nat} {a1 a2 a3 : Option AV} : X xs L d 13 (74, [some (.inr x), a1, a2, a3], sk, h) res ↔ X xs L d 13 (75, [some (.inr x), a1, a2, a3], .inr x :: sk, h) res := i_aload_n k_13_74 rfl
theorem e_13_75 {x : Int32} {a0 a1 a2 : Option AV} : X xs L d 13 (75, [a0, a1, a2, some (.inl x)], sk, h) res ↔ X xs L d 13 (76, [a0, a1, a2, some (.inl x)], .inl x :: sk, h) res := i_iload_n k_13_75 rfl
theorem e_13_76 {o : Nat} {v0 : Int32} (hs : sk.length ≤ 8) : X xs L d 13 (76, lo, .inl v0 :: .inr (some o) :: sk, h) res ↔ hK h o = 3 ∧ ∃ q : Res, Rn xs L d 14 [.inr (some o), .inl v0] h q ∧ X xs L d 13 (79, lo, q.1.toList ++ sk, q.2) res := i_callV k_13_76 rfl ⟨Nat.le_add_left 2 sk.length, Nat.le_trans (Nat.add_le_add_right hs 2) (Nat.le_of_eq (Nat.add_comm 8 2))⟩
theorem e_13_79 {v : Int32} : X xs L d 13 (79, lo, [.inl v], h) res ↔ (v = 0 ∨ v = 1) ∧ res = (some (.inl v), h) := i_zret k_13_79 rfl
theorem e_13_80 {x : Option Nat} {a1 a2 a3 : Option AV} : X xs L d 13 (80, [some (.inr x), a1, a2, a3], sk, h) res ↔ X xs L d 13 (81, [some (.inr x), a1, a2, a3], .inr x :: sk, h) res := i_aload_n k_13_80 rfl
theorem e_13_81 {o : Nat} : X xs L d 13 (81, lo, .inr (some o) :: sk, h) res ↔ hK h o = 3 ∧ X xs L d 13 (84, lo, .inl (hI h o 6) :: sk, h) res := i_getI k_13_81
theorem e_13_84 : X xs L d 13 (84, lo, sk, h) res ↔ X xs L d 13 (86, lo, .inl 6 :: sk, h) res := i_bipush k_13_84
theorem e_13_86 {x y : Int32} : X xs L d 13 (86, lo, .inl y :: .inl x :: sk, h) res ↔ (if x < y then X xs L d 13 (97, lo, sk, h) res else X xs L d 13 (89, lo, sk, h) res) := i_icmp_lt k_13_86
theorem e_13_89 {x : Option Nat} {a1 a2 a3 : Option AV} : X xs L d 13 (89, [some (.inr x), a1, a2, a3], sk, h) res ↔ X xs L d 13 (90, [some (.inr x), a1, a2, a3], .inr x :: sk, h) res := i_aload_n k_13_89 rfl
theorem e_13_90 : X xs L d 13 (90, lo, sk, h) res ↔ X xs L d 13 (93, lo, .inl 1002 :: sk, h) res := i_sipush k_13_90
theorem e_13_93 {o : Nat} {v0 : Int32} (hs : sk.length ≤ 8) : X xs L d 13 (93, lo, .inl v0 :: .inr (some o) :: sk, h) res ↔ hK h o = 3 ∧ ∃ q : Res, Rn xs L d 17 [.inr (some o), .inl v0] h q ∧ X xs L d 13 (96, lo, q.1.toList ++ sk, q.2) res := i_callV k_13_93 rfl ⟨Nat.le_add_left 2 sk.length, Nat.le_trans (Nat.add_le_add_right hs 2) (Nat.le_of_eq (Nat.add_comm 8 2))⟩
theorem e_13_96 {v : Int32} : X xs L d 13 (96, lo, [.inl v], h) res ↔ (v = 0 ∨ v = 1) ∧ res = (some (.inl v), h) := i_zret k_13_96 rfl
theorem e_13_97 {x : Option Nat} {a1 a2 a3 : Option AV} : X xs L d 13 (97, [some (.inr x), a1, a2, a3], sk, h) res ↔ X xs L d 13 (98, [some (.inr x), a1, a2, a3], .inr x :: sk, h) res := i_aload_n k_13_97 rfl
theorem e_13_98 {x : Int32} {a0 a1 a2 : Option AV} : X xs L d 13 (98, [a0, a1, a2, some (.inl x)], sk, h) res ↔ X xs L d 13 (99, [a0, a1, a2, some (.inl x)], .inl x :: sk, h) res := i_iload_n k_13_98 rfl
theorem e_13_99 {o : Nat} {v0 : Int32} (hs : sk.length ≤ 8) : X xs L d 13 (99, lo, .inl v0 :: .inr (some o) :: sk, h) res ↔ hK h o = 3 ∧ ∃ q : Res, Rn xs L d 15 [.inr (some o), .inl v0] h q ∧ X xs L d 13 (102, lo, q.1.toList ++ sk, q.2) res := i_callV k_13_99 rfl ⟨Nat.le_add_left 2 sk.length, Nat.le_trans (Nat.add_le_add_right hs 2) (Nat.le_of_eq (Nat.add_comm 8 2))⟩
theorem e_13_102 : X xs L d 13 (102, lo, sk, h) res ↔ X xs L d 13 (103, lo, .inl 1 :: sk, h) res := i_iconst k_13_102
theorem e_13_103 {v : Int32} : X xs L d 13 (103, lo, [.inl v], h) res ↔ (v = 0 ∨ v = 1) ∧ res = (some (.inl v), h) := i_zret k_13_103 rfl
theorem e_13_104 {x : Option Nat} {a0 a2 a3 : Option AV} : X xs L d 13 (104, [a0, some (.inr x), a2, a3], sk, h) res ↔ X xs L d 13 (105, [a0, some (.inr x), a2, a3], .inr x :: sk, h) res := i_aload_n k_13_104 rfl
theorem e_13_105 {x : Int32} {a0 a1 a2 : Option AV} : X xs L d 13 (105, [a0, a1, a2, some (.inl x)], sk, h) res ↔ X xs L d 13 (106, [a0, a1, a2, some (.inl x)], .inl x :: sk, h) res := i_iload_n k_13_105 rfl
theorem e_13_106 {o : Nat} {v : Int32} : X xs L d 13 (106, lo, .inl v :: .inr (some o) :: sk, h) res ↔ hK h o = 2 ∧ X xs L d 13 (109, lo, sk, sI h o 5 v) res := i_putI k_13_106
theorem e_13_109 {x : Option Nat} {a1 a2 a3 : Option AV} : X xs L d 13 (109, [some (.inr x), a1, a2, a3], sk, h) res ↔ X xs L d 13 (110, [some (.inr x), a1, a2, a3], .inr x :: sk, h) res := i_aload_n k_13_109 rfl
theorem e_13_110 : X xs L d 13 (110, lo, sk, h) res ↔ X xs L d 13 (111, lo, .inl 1 :: sk, h) res := i_iconst k_13_110
theorem e_13_111 {o : Nat} {v : Int32} : X xs L d 13 (111, lo, .inl v :: .inr (some o) :: sk, h) res ↔ hK h o = 3 ∧ X xs L d 13 (114, lo, sk, sI h o 4 v) res := i_putI k_13_111
theorem e_13_114 : X xs L d 13 (114, lo, sk, h) res ↔ X xs L d 13 (115, lo, .inl 0 :: sk, h) res := i_iconst k_13_114
theorem e_13_115 {v : Int32} : X xs L d 13 (115, lo, [.inl v], h) res ↔ (v = 0 ∨ v = 1) ∧ res = (some (.inl v), h) := i_zret k_13_115 rfl
theorem e_13_116 {x : Option Nat} {a0 a2 a3 : Option AV} : X xs L d 13 (116, [a0, some (.inr x), a2, a3], sk, h) res ↔ X xs L d 13 (117, [a0, some (.inr x), a2, a3], .inr x :: sk, h) res := i_aload_n k_13_116 rfl
theorem e_13_117 {x : Int32} {a0 a1 a2 : Option AV} : X xs L d 13 (117, [a0, a1, a2, some (.inl x)], sk, h) res ↔ X xs L d 13 (118, [a0, a1, a2, some (.inl x)], .inl x :: sk, h) res := i_iload_n k_13_117 rfl
theorem e_13_118 {x : Option Nat} {a1 a2 a3 : Option AV} : X xs L d 13 (118, [some (.inr x), a1, a2, a3], sk, h) res ↔ X xs L d 13 (119, [some (.inr x), a1, a2, a3], .inr x :: sk, h) res := i_aload_n k_13_118 rfl
theorem e_13_119 {o : Nat} (hs : sk.length ≤ 8) : X xs L d 13 (119, lo, .inr (some o) :: sk, h) res ↔ hK h o = 3 ∧ ∃ q : Res, Rn xs L d 19 [.inr (some o)] h q ∧ X xs L d 13 (122, lo, q.1.toList ++ sk, q.2) res := i_callV k_13_119 rfl ⟨Nat.le_add_left 1 sk.length, Nat.le_trans (Nat.add_le_add_right hs 1) (Nat.le_of_eq (Nat.add_comm 8 1))⟩
theorem e_13_122 {o : Nat} {v0 : Int32} {v1 : Int32} (hs : sk.length ≤ 8) : X xs L d 13 (122, lo, .inl v1 :: .inl v0 :: .inr (some o) :: sk, h) res ↔ hK h o = 2 ∧ ∃ q : Res, Rn xs L d 5 [.inr (some o), .inl v0, .inl v1] h q ∧ X xs L d 13 (125, lo, q.1.toList ++ sk, q.2) res := i_callV k_13_122 rfl ⟨Nat.le_add_left 3 sk.length, Nat.le_trans (Nat.add_le_add_right hs 3) (Nat.le_of_eq (Nat.add_comm 8 3))⟩
theorem e_13_125 {v : AV} : X xs L d 13 (125, lo, v :: sk, h) res ↔ X xs L d 13 (126, lo, sk, h) res := i_pop k_13_125
theorem e_13_126 : X xs L d 13 (126, lo, sk, h) res ↔ X xs L d 13 (127, lo, .inl 1 :: sk, h) res := i_iconst k_13_126
theorem e_13_127 {v : Int32} : X xs L d 13 (127, lo, [.inl v], h) res ↔ (v = 0 ∨ v = 1) ∧ res = (some (.inl v), h) := i_zret k_13_127 rfl
theorem e_13_128 {x : Option Nat} {a1 a2 a3 : Option AV} : X xs L d 13 (128, [some (.inr x), a1, a2, a3], sk, h) res ↔ X xs L d 13 (129, [some (.inr x), a1, a2, a3], .inr x :: sk, h) res := i_aload_n k_13_128 rfl
theorem e_13_129 {o : Nat} : X xs L d 13 (129, lo, .inr (some o) :: sk, h) res ↔ hK h o = 3 ∧ X xs L d 13 (132, lo, .inr (hR h o 2) :: sk, h) res := i_getR k_13_129
theorem e_13_132 {x : Option Nat} {a1 a2 a3 : Option AV} : X xs L d 13 (132, [some (.inr x), a1, a2, a3], sk, h) res ↔ X xs L d 13 (133, [some (.inr x), a1, a2, a3], .inr x :: sk, h) res := i_aload_n k_13_132 rfl
theorem e_13_133 {o : Nat} (hs : sk.length ≤ 8) : X xs L d 13 (133, lo, .inr (some o) :: sk, h) res ↔ hK h o = 3 ∧ ∃ q : Res, Rn xs L d 19 [.inr (some o)] h q ∧ X xs L d 13 (136, lo, q.1.toList ++ sk, q.2) res := i_callV k_13_133 rfl ⟨Nat.le_add_left 1 sk.length, Nat.le_trans (Nat.add_le_add_right hs 1) (Nat.le_of_eq (Nat.add_comm 8 1))⟩
theorem e_13_136 {o : Nat} {v0 : Int32} (hs : sk.length ≤ 8) : X xs L d 13 (136, lo, .inl v0 :: .inr (some o) :: sk, h) res ↔ hK h o = 5 ∧ ∃ q : Res, Rn xs L d 22 [.inr (some o), .inl v0] h q ∧ X xs L d 13 (139, lo, q.1.toList ++ sk, q.2) res := i_callV k_13_136 rfl ⟨Nat.le_add_left 2 sk.length, Nat.le_trans (Nat.add_le_add_right hs 2) (Nat.le_of_eq (Nat.add_comm 8 2))⟩
theorem e_13_139 : X xs L d 13 (139, lo, sk, h) res ↔ X xs L d 13 (140, lo, .inl 1 :: sk, h) res := i_iconst k_13_139
theorem e_13_140 {v : Int32} : X xs L d 13 (140, lo, [.inl v], h) res ↔ (v = 0 ∨ v = 1) ∧ res = (some (.inl v), h) := i_zret k_13_140 rfl
theorem e_13_141 {x : Option Nat} {a1 a2 a3 : Option AV} : X xs L d 13 (141, [some (.inr x), a1, a2, a3], sk, h) res ↔ X xs L d 13 (142, [some (.inr x), a1, a2, a3], .inr x :: sk, h) res := i_aload_n k_13_141 rfl
theorem e_13_142 {x : Option Nat} {a1 a2 a3 : Option AV} : X xs L d 13 (142, [some (.inr x), a1, a2, a3], sk, h) res ↔ X xs L d 13 (143, [some (.inr x), a1, a2, a3], .inr x :: sk, h) res := i_aload_n k_13_142 rfl
theorem e_13_143 {o : Nat} (hs : sk.length ≤ 8) : X xs L d 13 (143, lo, .inr (some o) :: sk, h) res ↔ hK h o = 3 ∧ ∃ q : Res, Rn xs L d 19 [.inr (some o)] h q ∧ X xs L d 13 (146, lo, q.1.toList ++ sk, q.2) res := i_callV k_13_143 rfl ⟨Nat.le_add_left 1 sk.length, Nat.le_trans (Nat.add_le_add_right hs 1) (Nat.le_of_eq (Nat.add_comm 8 1))⟩
theorem e_13_146 {o : Nat} {v0 : Int32} (hs : sk.length ≤ 8) : X xs L d 13 (146, lo, .inl v0 :: .inr (some o) :: sk, h) res ↔ hK h o = 3 ∧ ∃ q : Res, Rn xs L d 17 [.inr (some o), .inl v0] h q ∧ X xs L d 13 (149, lo, q.1.toList ++ sk, q.2) res := i_callV k_13_146 rfl ⟨Nat.le_add_left 2 sk.length, Nat.le_trans (Nat.add_le_add_right hs 2) (Nat.le_of_eq (Nat.add_comm 8 2))⟩
theorem e_13_149 {v : Int32} : X xs L d 13 (149, lo, [.inl v], h) res ↔ (v = 0 ∨ v = 1) ∧ res = (some (.inl v), h) := i_zret k_13_149 rfl
theorem e_13_150 {x : Option Nat} {a1 a2 a3 : Option AV} : X xs L d 13 (150, [some (.inr x), a1, a2, a3], sk, h) res ↔ X xs L d 13 (151, [some (.inr x), a1, a2, a3], .inr x :: sk, h) res := i_aload_n k_13_150 rfl
theorem e_13_151 {o : Nat} (hs : sk.length ≤ 8) : X xs L d 13 (151, lo, .inr (some o) :: sk, h) res ↔ hK h o = 3 ∧ ∃ q : Res, Rn xs L d 19 [.inr (some o)] h q ∧ X xs L d 13 (154, lo, q.1.toList ++ sk, q.2) res := i_callV k_13_151 rfl ⟨Nat.le_add_left 1 sk.length, Nat.le_trans (Nat.add_le_add_right hs 1) (Nat.le_of_eq (Nat.add_comm 8 1))⟩
theorem e_13_154 {x : Int32} : X xs L d 13 (154, lo, .inl x :: sk, h) res ↔ (if x = 0 then X xs L d 13 (157, lo, sk, h) res else X xs L d 13 (162, lo, sk, h) res) := i_if_ne k_13_154
theorem e_13_157 {x : Option Nat} {a0 a2 a3 : Option AV} : X xs L d 13 (157, [a0, some (.inr x), a2, a3], sk, h) res ↔ X xs L d 13 (158, [a0, some (.inr x), a2, a3], .inr x :: sk, h) res := i_aload_n k_13_157 rfl
theorem e_13_158 {x : Int32} {a0 a1 a2 : Option AV} : X xs L d 13 (158, [a0, a1, a2, some (.inl x)], sk, h) res ↔ X xs L d 13 (159, [a0, a1, a2, some (.inl x)], .inl x :: sk, h) res := i_iload_n k_13_158 rfl
theorem e_13_159 {o : Nat} {v : Int32} : X xs L d 13 (159, lo, .inl v :: .inr (some o) :: sk, h) res ↔ hK h o = 2 ∧ X xs L d 13 (162, lo, sk, sI h o 2 v) res := i_putI k_13_159
theorem e_13_162 : X xs L d 13 (162, lo, sk, h) res ↔ X xs L d 13 (163, lo, .inl 1 :: sk, h) res := i_iconst k_13_162
theorem e_13_163 {v : Int32} : X xs L d 13 (163, lo, [.inl v], h) res ↔ (v = 0 ∨ v = 1) ∧ res = (some (.inl v), h) := i_zret k_13_163 rfl
theorem e_13_164 {x : Option Nat} {a0 a2 a3 : Option AV} : X xs L d 13 (164, [a0, some (.inr x), a2, a3], sk, h) res ↔ X xs L d 13 (165, [a0, some (.inr x), a2, a3], .inr x :: sk, h) res := i_aload_n k_13_164 rfl
theorem e_13_165 {x : Int32} {a0 a1 a2 : Option AV} : X xs L d 13 (165, [a0, a1, a2, some (.inl x)], sk, h) res ↔ X xs L d 13 (166, [a0, a1, a2, some (.inl x)], .inl x :: sk, h) res := i_iload_n k_13_165 rfl
theorem e_13_166 {o : Nat} {v : Int32} : X xs L d 13 (166, lo, .inl v :: .inr (some o) :: sk, h) res ↔ hK h o = 2 ∧ X xs L d 13 (169, lo, sk, sI h o 2 v) res := i_putI k_13_166
theorem e_13_169 : X xs L d 13 (169, lo, sk, h) res ↔ X xs L d 13 (170, lo, .inl 1 :: sk, h) res := i_iconst k_13_169
theorem e_13_170 {v : Int32} : X xs L d 13 (170, lo, [.inl v], h) res ↔ (v = 0 ∨ v = 1) ∧ res = (some (.inl v), h) := i_zret k_13_170 rfl
theorem e_13_171 {x : Option Nat} {a1 a2 a3 : Option AV} : X xs L d 13 (171, [some (.inr x), a1, a2, a3], sk, h) res ↔ X xs L d 13 (172, [some (.inr x), a1, a2, a3], .inr x :: sk, h) res := i_aload_n k_13_171 rfl
theorem e_13_172 {x : Option Nat} {a1 a2 a3 : Option AV} : X xs L d 13 (172, [some (.inr x), a1, a2, a3], sk, h) res ↔ X xs L d 13 (173, [some (.inr x), a1, a2, a3], .inr x :: sk, h) res := i_aload_n k_13_172 rfl
theorem e_13_173 {o : Nat} (hs : sk.length ≤ 8) : X xs L d 13 (173, lo, .inr (some o) :: sk, h) res ↔ hK h o = 3 ∧ ∃ q : Res, Rn xs L d 19 [.inr (some o)] h q ∧ X xs L d 13 (176, lo, q.1.toList ++ sk, q.2) res := i_callV k_13_173 rfl ⟨Nat.le_add_left 1 sk.length, Nat.le_trans (Nat.add_le_add_right hs 1) (Nat.le_of_eq (Nat.add_comm 8 1))⟩
theorem e_13_176 {o : Nat} {v0 : Int32} (hs : sk.length ≤ 8) : X xs L d 13 (176, lo, .inl v0 :: .inr (some o) :: sk, h) res ↔ hK h o = 3 ∧ ∃ q : Res, Rn xs L d 16 [.inr (some o), .inl v0] h q ∧ X xs L d 13 (179, lo, q.1.toList ++ sk, q.2) res := i_callV k_13_176 rfl ⟨Nat.le_add_left 2 sk.length, Nat.le_trans (Nat.add_le_add_right hs 2) (Nat.le_of_eq (Nat.add_comm 8 2))⟩
theorem e_13_179 {v : Int32} : X xs L d 13 (179, lo, [.inl v], h) res ↔ (v = 0 ∨ v = 1) ∧ res = (some (.inl v), h) := i_zret k_13_179 rfl
theorem k_14_0 : am_cd 14 0 = some (.aload_n 0, 1, [], [])   := rfl
theorem k_14_1 : am_cd 14 1 = some (.invokevirtual 108, 3, [19, 1, 3], [(0, 524), (0, 526), (0, 18)])   := rfl
theorem k_14_4 : am_cd 14 4 = some (.istore_n 2, 1, [], [])   := rfl
theorem k_14_5 : am_cd 14 5 = some (.aload_n 0, 1, [], [])   := rfl
theorem k_14_6 : am_cd 14 6 = some (.invokevirtual 108, 3, [19, 1, 3], [(0, 524), (0, 526), (0, 18)])   := rfl
theorem k_14_9 : am_cd 14 9 = some (.istore_n 3, 1, [], [])   := rfl
theorem k_14_10 : am_cd 14 10 = some (.iload_n 1, 1, [], [])   := rfl
theorem k_14_11 : am_cd 14 11 = some (.lookupswitch 113 #[(42, 67), (43, 49), (45, 58), (47, 76), (60, 97)], 49, [124], [(42, 78), (43, 60), (45, 69), (47, 87), (60, 108)])   := rfl
theorem k_14_60 : am_cd 14 60 = some (.aload_n 0, 1, [], [])   := rfl
theorem k_14_61 : am_cd 14 61 = some (.iload_n 3, 1, [], [])   := rfl
theorem k_14_62 : am_cd 14 62 = some (.iload_n 2, 1, [], [])   := rfl
theorem k_14_63 : am_cd 14 63 = some (.iadd, 1, [], [])   := rfl
theorem k_14_64 : am_cd 14 64 = some (.invokevirtual 91, 3, [18, 2, 3], [(0, 541), (0, 543), (0, 21)])   := rfl
theorem k_14_67 : am_cd 14 67 = some (.iconst 1, 1, [], [(1, 0)])   := rfl
theorem k_14_68 : am_cd 14 68 = some (.ireturn, 1, [], [])   := rfl
theorem k_14_69 : am_cd 14 69 = some (.aload_n 0, 1, [], [])   := rfl
theorem k_14_70 : am_cd 14 70 = some (.iload_n 3, 1, [], [])   := rfl
theorem k_14_71 : am_cd 14 71 = some (.iload_n 2, 1, [], [])   := rfl
theorem k_14_72 : am_cd 14 72 = some (.isub, 1, [], [])   := rfl
theorem k_14_73 : am_cd 14 73 = some (.invokevirtual 91, 3, [18, 2, 3], [(0, 541), (0, 543), (0, 21)])   := rfl
theorem k_14_76 : am_cd 14 76 = some (.iconst 1, 1, [], [(1, 0)])   := rfl
theorem k_14_77 : am_cd 14 77 = some (.ireturn, 1, [], [])   := rfl
theorem k_14_78 : am_cd 14 78 = some (.aload_n 0, 1, [], [])   := rfl
theorem k_14_79 : am_cd 14 79 = some (.iload_n 3, 1, [], [])   := rfl
theorem k_14_80 : am_cd 14 80 = some (.iload_n 2, 1, [], [])   := rfl
theorem k_14_81 : am_cd 14 81 = some (.imul, 1, [], [])   := rfl
theorem k_14_82 : am_cd 14 82 = some (.invokevirtual 91, 3, [18, 2, 3], [(0, 541), (0, 543), (0, 21)])   := rfl
theorem k_14_85 : am_cd 14 85 = some (.iconst 1, 1, [], [(1, 0)])   := rfl
theorem k_14_86 : am_cd 14 86 = some (.ireturn, 1, [], [])   := rfl
theorem k_14_87 : am_cd 14 87 = some (.iload_n 2, 1, [], [])   := rfl
theorem k_14_88 : am_cd 14 88 = some (.ifCond .ne 11, 3, [99], [])   := rfl
theorem k_14_91 : am_cd 14 91 = some (.aload_n 0, 1, [], [])   := rfl
theorem k_14_92 : am_cd 14 92 = some (.sipush 1001, 3, [], [(1001, 0)])   := rfl
theorem k_14_95 : am_cd 14 95 = some (.invokevirtual 102, 3, [17, 2, 3], [(0, 553), (0, 555), (0, 23)])   := rfl
theorem k_14_98 : am_cd 14 98 = some (.ireturn, 1, [], [])   := rfl
theorem k_14_99 : am_cd 14 99 = some (.aload_n 0, 1, [], [])   := rfl
theorem k_14_100 : am_cd 14 100 = some (.iload_n 3, 1, [], [])   := rfl
theorem k_14_101 : am_cd 14 101 = some (.iload_n 2, 1, [], [])   := rfl
theorem k_14_102 : am_cd 14 102 = some (.idiv, 1, [], [])   := rfl
theorem k_14_103 : am_cd 14 103 = some (.invokevirtual 91, 3, [18, 2, 3], [(0, 541), (0, 543), (0, 21)])   := rfl
theorem k_14_106 : am_cd 14 106 = some (.iconst 1, 1, [], [(1, 0)])   := rfl
theorem k_14_107 : am_cd 14 107 = some (.ireturn, 1, [], [])   := rfl
theorem k_14_108 : am_cd 14 108 = some (.aload_n 0, 1, [], [])   := rfl
theorem k_14_109 : am_cd 14 109 = some (.iload_n 3, 1, [], [])   := rfl
theorem k_14_110 : am_cd 14 110 = some (.iload_n 2, 1, [], [])   := rfl
theorem k_14_111 : am_cd 14 111 = some (.if_icmp .ge 7, 3, [118], [])   := rfl
theorem k_14_114 : am_cd 14 114 = some (.iconst 1, 1, [], [(1, 0)])   := rfl
theorem k_14_115 : am_cd 14 115 = some (.goto 4, 3, [119], [])   := rfl
theorem k_14_118 : am_cd 14 118 = some (.iconst 0, 1, [], [(0, 0)])   := rfl
theorem k_14_119 : am_cd 14 119 = some (.invokevirtual 91, 3, [18, 2, 3], [(0, 541), (0, 543), (0, 21)])   := rfl
theorem k_14_122 : am_cd 14 122 = some (.iconst 1, 1, [], [(1, 0)])   := rfl
theorem k_14_123 : am_cd 14 123 = some (.ireturn, 1, [], [])   := rfl
theorem k_14_124 : am_cd 14 124 = some (.aload_n 0, 1, [], [])   := rfl
theorem k_14_125 : am_cd 14 125 = some (.iload_n 3, 1, [], [])   := rfl
theorem k_14_126 : am_cd 14 126 = some (.iload_n 2, 1, [], [])   := rfl
theorem k_14_127 : am_cd 14 127 = some (.if_icmp .ne 7, 3, [134], [])   := rfl
theorem k_14_130 : am_cd 14 130 = some (.iconst 1, 1, [], [(1, 0)])   := rfl
theorem k_14_131 : am_cd 14 131 = some (.goto 4, 3, [135], [])   := rfl
theorem k_14_134 : am_cd 14 134 = some (.iconst 0, 1, [], [(0, 0)])   := rfl
theorem k_14_135 : am_cd 14 135 = some (.invokevirtual 91, 3, [18, 2, 3], [(0, 541), (0, 543), (0, 21)])   := rfl
theorem k_14_138 : am_cd 14 138 = some (.iconst 1, 1, [], [(1, 0)])   := rfl
theorem k_14_139 : am_cd 14 139 = some (.ireturn, 1, [], [])   := rfl
theorem e_14_0 {x : Option Nat} {a1 a2 a3 : Option AV} : X xs L d 14 (0, [some (.inr x), a1, a2, a3], sk, h) res ↔ X xs L d 14 (1, [some (.inr x), a1, a2, a3], .inr x :: sk, h) res := i_aload_n k_14_0 rfl
theorem e_14_1 {o : Nat} (hs : sk.length ≤ 8) : X xs L d 14 (1, lo, .inr (some o) :: sk, h) res ↔ hK h o = 3 ∧ ∃ q : Res, Rn xs L d 19 [.inr (some o)] h q ∧ X xs L d 14 (4, lo, q.1.toList ++ sk, q.2) res := i_callV k_14_1 rfl ⟨Nat.le_add_left 1 sk.length, Nat.le_trans (Nat.add_le_add_right hs 1) (Nat.le_of_eq (Nat.add_comm 8 1))⟩
theorem e_14_4 {x : Int32} {a0 a1 a2 a3 : Option AV} : X xs L d 14 (4, [a0, a1, a2, a3], .inl x :: sk, h) res ↔ X xs L d 14 (5, [a0, a1, some (.inl x), a3], sk, h) res := i_istore_n k_14_4 (Nat.le_of_ble_eq_true rfl) rfl
theorem e_14_5 {x : Option Nat} {a1 a2 a3 : Option AV} : X xs L d 14 (5, [some (.inr x), a1, a2, a3], sk, h) res ↔ X xs L d 14 (6, [some (.inr x), a1, a2, a3], .inr x :: sk, h) res := i_aload_n k_14_5 rfl
theorem e_14_6 {o : Nat} (hs : sk.length ≤ 8) : X xs L d 14 (6, lo, .inr (some o) :: sk, h) res ↔ hK h o = 3 ∧ ∃ q : Res, Rn xs L d 19 [.inr (some o)] h q ∧ X xs L d 14 (9, lo, q.1.toList ++ sk, q.2) res := i_callV k_14_6 rfl ⟨Nat.le_add_left 1 sk.length, Nat.le_trans (Nat.add_le_add_right hs 1) (Nat.le_of_eq (Nat.add_comm 8 1))⟩
theorem e_14_9 {x : Int32} {a0 a1 a2 a3 : Option AV} : X xs L d 14 (9, [a0, a1, a2, a3], .inl x :: sk, h) res ↔ X xs L d 14 (10, [a0, a1, a2, some (.inl x)], sk, h) res := i_istore_n k_14_9 (Nat.le_of_ble_eq_true rfl) rfl
theorem e_14_10 {x : Int32} {a0 a2 a3 : Option AV} : X xs L d 14 (10, [a0, some (.inl x), a2, a3], sk, h) res ↔ X xs L d 14 (11, [a0, some (.inl x), a2, a3], .inl x :: sk, h) res := i_iload_n k_14_10 rfl
theorem e_14_11 {x : Int32} : X xs L d 14 (11, lo, .inl x :: sk, h) res ↔ X xs L d 14 (a_tgt x [(42, 78), (43, 60), (45, 69), (47, 87), (60, 108)] 124, lo, sk, h) res := i_lsw k_14_11
theorem e_14_60 {x : Option Nat} {a1 a2 a3 : Option AV} : X xs L d 14 (60, [some (.inr x), a1, a2, a3], sk, h) res ↔ X xs L d 14 (61, [some (.inr x), a1, a2, a3], .inr x :: sk, h) res := i_aload_n k_14_60 rfl
theorem e_14_61 {x : Int32} {a0 a1 a2 : Option AV} : X xs L d 14 (61, [a0, a1, a2, some (.inl x)], sk, h) res ↔ X xs L d 14 (62, [a0, a1, a2, some (.inl x)], .inl x :: sk, h) res := i_iload_n k_14_61 rfl
theorem e_14_62 {x : Int32} {a0 a1 a3 : Option AV} : X xs L d 14 (62, [a0, a1, some (.inl x), a3], sk, h) res ↔ X xs L d 14 (63, [a0, a1, some (.inl x), a3], .inl x :: sk, h) res := i_iload_n k_14_62 rfl
theorem e_14_63 {x y : Int32} : X xs L d 14 (63, lo, .inl y :: .inl x :: sk, h) res ↔ X xs L d 14 (64, lo, .inl (x + y) :: sk, h) res := i_iadd k_14_63
theorem e_14_64 {o : Nat} {v0 : Int32} (hs : sk.length ≤ 8) : X xs L d 14 (64, lo, .inl v0 :: .inr (some o) :: sk, h) res ↔ hK h o = 3 ∧ ∃ q : Res, Rn xs L d 18 [.inr (some o), .inl v0] h q ∧ X xs L d 14 (67, lo, q.1.toList ++ sk, q.2) res := i_callV k_14_64 rfl ⟨Nat.le_add_left 2 sk.length, Nat.le_trans (Nat.add_le_add_right hs 2) (Nat.le_of_eq (Nat.add_comm 8 2))⟩
theorem e_14_67 : X xs L d 14 (67, lo, sk, h) res ↔ X xs L d 14 (68, lo, .inl 1 :: sk, h) res := i_iconst k_14_67
theorem e_14_68 {v : Int32} : X xs L d 14 (68, lo, [.inl v], h) res ↔ (v = 0 ∨ v = 1) ∧ res = (some (.inl v), h) := i_zret k_14_68 rfl
theorem e_14_69 {x : Option Nat} {a1 a2 a3 : Option AV} : X xs L d 14 (69, [some (.inr x), a1, a2, a3], sk, h) res ↔ X xs L d 14 (70, [some (.inr x), a1, a2, a3], .inr x :: sk, h) res := i_aload_n k_14_69 rfl
theorem e_14_70 {x : Int32} {a0 a1 a2 : Option AV} : X xs L d 14 (70, [a0, a1, a2, some (.inl x)], sk, h) res ↔ X xs L d 14 (71, [a0, a1, a2, some (.inl x)], .inl x :: sk, h) res := i_iload_n k_14_70 rfl
theorem e_14_71 {x : Int32} {a0 a1 a3 : Option AV} : X xs L d 14 (71, [a0, a1, some (.inl x), a3], sk, h) res ↔ X xs L d 14 (72, [a0, a1, some (.inl x), a3], .inl x :: sk, h) res := i_iload_n k_14_71 rfl
theorem e_14_72 {x y : Int32} : X xs L d 14 (72, lo, .inl y :: .inl x :: sk, h) res ↔ X xs L d 14 (73, lo, .inl (x - y) :: sk, h) res := i_isub k_14_72
theorem e_14_73 {o : Nat} {v0 : Int32} (hs : sk.length ≤ 8) : X xs L d 14 (73, lo, .inl v0 :: .inr (some o) :: sk, h) res ↔ hK h o = 3 ∧ ∃ q : Res, Rn xs L d 18 [.inr (some o), .inl v0] h q ∧ X xs L d 14 (76, lo, q.1.toList ++ sk, q.2) res := i_callV k_14_73 rfl ⟨Nat.le_add_left 2 sk.length, Nat.le_trans (Nat.add_le_add_right hs 2) (Nat.le_of_eq (Nat.add_comm 8 2))⟩
theorem e_14_76 : X xs L d 14 (76, lo, sk, h) res ↔ X xs L d 14 (77, lo, .inl 1 :: sk, h) res := i_iconst k_14_76
theorem e_14_77 {v : Int32} : X xs L d 14 (77, lo, [.inl v], h) res ↔ (v = 0 ∨ v = 1) ∧ res = (some (.inl v), h) := i_zret k_14_77 rfl
theorem e_14_78 {x : Option Nat} {a1 a2 a3 : Option AV} : X xs L d 14 (78, [some (.inr x), a1, a2, a3], sk, h) res ↔ X xs L d 14 (79, [some (.inr x), a1, a2, a3], .inr x :: sk, h) res := i_aload_n k_14_78 rfl
theorem e_14_79 {x : Int32} {a0 a1 a2 : Option AV} : X xs L d 14 (79, [a0, a1, a2, some (.inl x)], sk, h) res ↔ X xs L d 14 (80, [a0, a1, a2, some (.inl x)], .inl x :: sk, h) res := i_iload_n k_14_79 rfl
theorem e_14_80 {x : Int32} {a0 a1 a3 : Option AV} : X xs L d 14 (80, [a0, a1, some (.inl x), a3], sk, h) res ↔ X xs L d 14 (81, [a0, a1, some (.inl x), a3], .inl x :: sk, h) res := i_iload_n k_14_80 rfl
theorem e_14_81 {x y : Int32} : X xs L d 14 (81, lo, .inl y :: .inl x :: sk, h) res ↔ X xs L d 14 (82, lo, .inl (x * y) :: sk, h) res := i_imul k_14_81
theorem e_14_82 {o : Nat} {v0 : Int32} (hs : sk.length ≤ 8) : X xs L d 14 (82, lo, .inl v0 :: .inr (some o) :: sk, h) res ↔ hK h o = 3 ∧ ∃ q : Res, Rn xs L d 18 [.inr (some o), .inl v0] h q ∧ X xs L d 14 (85, lo, q.1.toList ++ sk, q.2) res := i_callV k_14_82 rfl ⟨Nat.le_add_left 2 sk.length, Nat.le_trans (Nat.add_le_add_right hs 2) (Nat.le_of_eq (Nat.add_comm 8 2))⟩
theorem e_14_85 : X xs L d 14 (85, lo, sk, h) res ↔ X xs L d 14 (86, lo, .inl 1 :: sk, h) res := i_iconst k_14_85
theorem e_14_86 {v : Int32} : X xs L d 14 (86, lo, [.inl v], h) res ↔ (v = 0 ∨ v = 1) ∧ res = (some (.inl v), h) := i_zret k_14_86 rfl
theorem e_14_87 {x : Int32} {a0 a1 a3 : Option AV} : X xs L d 14 (87, [a0, a1, some (.inl x), a3], sk, h) res ↔ X xs L d 14 (88, [a0, a1, some (.inl x), a3], .inl x :: sk, h) res := i_iload_n k_14_87 rfl
theorem e_14_88 {x : Int32} : X xs L d 14 (88, lo, .inl x :: sk, h) res ↔ (if x = 0 then X xs L d 14 (91, lo, sk, h) res else X xs L d 14 (99, lo, sk, h) res) := i_if_ne k_14_88
theorem e_14_91 {x : Option Nat} {a1 a2 a3 : Option AV} : X xs L d 14 (91, [some (.inr x), a1, a2, a3], sk, h) res ↔ X xs L d 14 (92, [some (.inr x), a1, a2, a3], .inr x :: sk, h) res := i_aload_n k_14_91 rfl
theorem e_14_92 : X xs L d 14 (92, lo, sk, h) res ↔ X xs L d 14 (95, lo, .inl 1001 :: sk, h) res := i_sipush k_14_92
theorem e_14_95 {o : Nat} {v0 : Int32} (hs : sk.length ≤ 8) : X xs L d 14 (95, lo, .inl v0 :: .inr (some o) :: sk, h) res ↔ hK h o = 3 ∧ ∃ q : Res, Rn xs L d 17 [.inr (some o), .inl v0] h q ∧ X xs L d 14 (98, lo, q.1.toList ++ sk, q.2) res := i_callV k_14_95 rfl ⟨Nat.le_add_left 2 sk.length, Nat.le_trans (Nat.add_le_add_right hs 2) (Nat.le_of_eq (Nat.add_comm 8 2))⟩
theorem e_14_98 {v : Int32} : X xs L d 14 (98, lo, [.inl v], h) res ↔ (v = 0 ∨ v = 1) ∧ res = (some (.inl v), h) := i_zret k_14_98 rfl
theorem e_14_99 {x : Option Nat} {a1 a2 a3 : Option AV} : X xs L d 14 (99, [some (.inr x), a1, a2, a3], sk, h) res ↔ X xs L d 14 (100, [some (.inr x), a1, a2, a3], .inr x :: sk, h) res := i_aload_n k_14_99 rfl
theorem e_14_100 {x : Int32} {a0 a1 a2 : Option AV} : X xs L d 14 (100, [a0, a1, a2, some (.inl x)], sk, h) res ↔ X xs L d 14 (101, [a0, a1, a2, some (.inl x)], .inl x :: sk, h) res := i_iload_n k_14_100 rfl
theorem e_14_101 {x : Int32} {a0 a1 a3 : Option AV} : X xs L d 14 (101, [a0, a1, some (.inl x), a3], sk, h) res ↔ X xs L d 14 (102, [a0, a1, some (.inl x), a3], .inl x :: sk, h) res := i_iload_n k_14_101 rfl
theorem e_14_102 {x y : Int32} : X xs L d 14 (102, lo, .inl y :: .inl x :: sk, h) res ↔ (¬ y = 0) ∧ X xs L d 14 (103, lo, .inl (x / y) :: sk, h) res := i_idiv k_14_102
theorem e_14_103 {o : Nat} {v0 : Int32} (hs : sk.length ≤ 8) : X xs L d 14 (103, lo, .inl v0 :: .inr (some o) :: sk, h) res ↔ hK h o = 3 ∧ ∃ q : Res, Rn xs L d 18 [.inr (some o), .inl v0] h q ∧ X xs L d 14 (106, lo, q.1.toList ++ sk, q.2) res := i_callV k_14_103 rfl ⟨Nat.le_add_left 2 sk.length, Nat.le_trans (Nat.add_le_add_right hs 2) (Nat.le_of_eq (Nat.add_comm 8 2))⟩
theorem e_14_106 : X xs L d 14 (106, lo, sk, h) res ↔ X xs L d 14 (107, lo, .inl 1 :: sk, h) res := i_iconst k_14_106
theorem e_14_107 {v : Int32} : X xs L d 14 (107, lo, [.inl v], h) res ↔ (v = 0 ∨ v = 1) ∧ res = (some (.inl v), h) := i_zret k_14_107 rfl
theorem e_14_108 {x : Option Nat} {a1 a2 a3 : Option AV} : X xs L d 14 (108, [some (.inr x), a1, a2, a3], sk, h) res ↔ X xs L d 14 (109, [some (.inr x), a1, a2, a3], .inr x :: sk, h) res := i_aload_n k_14_108 rfl
theorem e_14_109 {x : Int32} {a0 a1 a2 : Option AV} : X xs L d 14 (109, [a0, a1, a2, some (.inl x)], sk, h) res ↔ X xs L d 14 (110, [a0, a1, a2, some (.inl x)], .inl x :: sk, h) res := i_iload_n k_14_109 rfl
theorem e_14_110 {x : Int32} {a0 a1 a3 : Option AV} : X xs L d 14 (110, [a0, a1, some (.inl x), a3], sk, h) res ↔ X xs L d 14 (111, [a0, a1, some (.inl x), a3], .inl x :: sk, h) res := i_iload_n k_14_110 rfl
theorem e_14_111 {x y : Int32} : X xs L d 14 (111, lo, .inl y :: .inl x :: sk, h) res ↔ (if y ≤ x then X xs L d 14 (118, lo, sk, h) res else X xs L d 14 (114, lo, sk, h) res) := i_icmp_ge k_14_111
theorem e_14_114 : X xs L d 14 (114, lo, sk, h) res ↔ X xs L d 14 (115, lo, .inl 1 :: sk, h) res := i_iconst k_14_114
theorem e_14_115 : X xs L d 14 (115, lo, sk, h) res ↔ X xs L d 14 (119, lo, sk, h) res := i_goto k_14_115
theorem e_14_118 : X xs L d 14 (118, lo, sk, h) res ↔ X xs L d 14 (119, lo, .inl 0 :: sk, h) res := i_iconst k_14_118
theorem e_14_119 {o : Nat} {v0 : Int32} (hs : sk.length ≤ 8) : X xs L d 14 (119, lo, .inl v0 :: .inr (some o) :: sk, h) res ↔ hK h o = 3 ∧ ∃ q : Res, Rn xs L d 18 [.inr (some o), .inl v0] h q ∧ X xs L d 14 (122, lo, q.1.toList ++ sk, q.2) res := i_callV k_14_119 rfl ⟨Nat.le_add_left 2 sk.length, Nat.le_trans (Nat.add_le_add_right hs 2) (Nat.le_of_eq (Nat.add_comm 8 2))⟩
theorem e_14_122 : X xs L d 14 (122, lo, sk, h) res ↔ X xs L d 14 (123, lo, .inl 1 :: sk, h) res := i_iconst k_14_122
theorem e_14_123 {v : Int32} : X xs L d 14 (123, lo, [.inl v], h) res ↔ (v = 0 ∨ v = 1) ∧ res = (some (.inl v), h) := i_zret k_14_123 rfl
theorem e_14_124 {x : Option Nat} {a1 a2 a3 : Option AV} : X xs L d 14 (124, [some (.inr x), a1, a2, a3], sk, h) res ↔ X xs L d 14 (125, [some (.inr x), a1, a2, a3], .inr x :: sk, h) res := i_aload_n k_14_124 rfl
theorem e_14_125 {x : Int32} {a0 a1 a2 : Option AV} : X xs L d 14 (125, [a0, a1, a2, some (.inl x)], sk, h) res ↔ X xs L d 14 (126, [a0, a1, a2, some (.inl x)], .inl x :: sk, h) res := i_iload_n k_14_125 rfl
theorem e_14_126 {x : Int32} {a0 a1 a3 : Option AV} : X xs L d 14 (126, [a0, a1, some (.inl x), a3], sk, h) res ↔ X xs L d 14 (127, [a0, a1, some (.inl x), a3], .inl x :: sk, h) res := i_iload_n k_14_126 rfl
theorem e_14_127 {x y : Int32} : X xs L d 14 (127, lo, .inl y :: .inl x :: sk, h) res ↔ (if x = y then X xs L d 14 (130, lo, sk, h) res else X xs L d 14 (134, lo, sk, h) res) := i_icmp_ne k_14_127
theorem e_14_130 : X xs L d 14 (130, lo, sk, h) res ↔ X xs L d 14 (131, lo, .inl 1 :: sk, h) res := i_iconst k_14_130
theorem e_14_131 : X xs L d 14 (131, lo, sk, h) res ↔ X xs L d 14 (135, lo, sk, h) res := i_goto k_14_131
theorem e_14_134 : X xs L d 14 (134, lo, sk, h) res ↔ X xs L d 14 (135, lo, .inl 0 :: sk, h) res := i_iconst k_14_134
theorem e_14_135 {o : Nat} {v0 : Int32} (hs : sk.length ≤ 8) : X xs L d 14 (135, lo, .inl v0 :: .inr (some o) :: sk, h) res ↔ hK h o = 3 ∧ ∃ q : Res, Rn xs L d 18 [.inr (some o), .inl v0] h q ∧ X xs L d 14 (138, lo, q.1.toList ++ sk, q.2) res := i_callV k_14_135 rfl ⟨Nat.le_add_left 2 sk.length, Nat.le_trans (Nat.add_le_add_right hs 2) (Nat.le_of_eq (Nat.add_comm 8 2))⟩
theorem e_14_138 : X xs L d 14 (138, lo, sk, h) res ↔ X xs L d 14 (139, lo, .inl 1 :: sk, h) res := i_iconst k_14_138
theorem e_14_139 {v : Int32} : X xs L d 14 (139, lo, [.inl v], h) res ↔ (v = 0 ∨ v = 1) ∧ res = (some (.inl v), h) := i_zret k_14_139 rfl
theorem k_15_0 : am_cd 15 0 = some (.aload_n 0, 1, [], [])   := rfl
theorem k_15_1 : am_cd 15 1 = some (.getfield 11, 3, [3, 0, 2], [(0, 187)])   := rfl
theorem k_15_4 : am_cd 15 4 = some (.aload_n 0, 1, [], [])   := rfl
theorem k_15_5 : am_cd 15 5 = some (.getfield 36, 3, [3, 6, 0], [(0, 196)])   := rfl
theorem k_15_8 : am_cd 15 8 = some (.aaload, 1, [], [])   := rfl
theorem k_15_9 : am_cd 15 9 = some (.astore_n 2, 1, [], [])   := rfl
theorem k_15_10 : am_cd 15 10 = some (.aload_n 2, 1, [], [])   := rfl
theorem k_15_11 : am_cd 15 11 = some (.getfield 62, 3, [2, 0, 2], [(0, 151)])   := rfl
theorem k_15_14 : am_cd 15 14 = some (.iconst 0, 1, [], [(0, 0)])   := rfl
theorem k_15_15 : am_cd 15 15 = some (.invokestatic 121, 3, [127, 2], [(0, 523), (0, 277)])   := rfl
theorem k_15_18 : am_cd 15 18 = some (.aload_n 0, 1, [], [])   := rfl
theorem k_15_19 : am_cd 15 19 = some (.getfield 51, 3, [3, 3, 2], [(0, 191)])   := rfl
theorem k_15_22 : am_cd 15 22 = some (.getfield 127, 3, [4, 2, 2], [(0, 485)])   := rfl
theorem k_15_25 : am_cd 15 25 = some (.iload_n 1, 1, [], [])   := rfl
theorem k_15_26 : am_cd 15 26 = some (.iaload, 1, [], [])   := rfl
theorem k_15_27 : am_cd 15 27 = some (.iconst 1, 1, [], [(1, 0)])   := rfl
theorem k_15_28 : am_cd 15 28 = some (.isub, 1, [], [])   := rfl
theorem k_15_29 : am_cd 15 29 = some (.istore_n 3, 1, [], [])   := rfl
theorem k_15_30 : am_cd 15 30 = some (.iload_n 3, 1, [], [])   := rfl
theorem k_15_31 : am_cd 15 31 = some (.ifCond .lt 19, 3, [50], [])   := rfl
theorem k_15_34 : am_cd 15 34 = some (.aload_n 2, 1, [], [])   := rfl
theorem k_15_35 : am_cd 15 35 = some (.getfield 62, 3, [2, 0, 2], [(0, 151)])   := rfl
theorem k_15_38 : am_cd 15 38 = some (.iload_n 3, 1, [], [])   := rfl
theorem k_15_39 : am_cd 15 39 = some (.aload_n 0, 1, [], [])   := rfl
theorem k_15_40 : am_cd 15 40 = some (.invokevirtual 108, 3, [19, 1, 3], [(0, 524), (0, 526), (0, 18)])   := rfl
theorem k_15_43 : am_cd 15 43 = some (.iastore, 1, [], [])   := rfl
theorem k_15_44 : am_cd 15 44 = some (.iinc 3 (-1), 3, [], [(-1, 0)])   := rfl
theorem k_15_47 : am_cd 15 47 = some (.goto (-17), 3, [30], [])   := rfl
theorem k_15_50 : am_cd 15 50 = some (.aload_n 2, 1, [], [])   := rfl
theorem k_15_51 : am_cd 15 51 = some (.aload_n 0, 1, [], [])   := rfl
theorem k_15_52 : am_cd 15 52 = some (.getfield 51, 3, [3, 3, 2], [(0, 191)])   := rfl
theorem k_15_55 : am_cd 15 55 = some (.getfield 132, 3, [4, 0, 2], [(0, 480)])   := rfl
theorem k_15_58 : am_cd 15 58 = some (.putfield 71, 3, [2, 1, 2], [(0, 153)])   := rfl
theorem k_15_61 : am_cd 15 61 = some (.aload_n 2, 1, [], [])   := rfl
theorem k_15_62 : am_cd 15 62 = some (.aload_n 0, 1, [], [])   := rfl
theorem k_15_63 : am_cd 15 63 = some (.getfield 51, 3, [3, 3, 2], [(0, 191)])   := rfl
theorem k_15_66 : am_cd 15 66 = some (.getfield 133, 3, [4, 1, 2], [(0, 482)])   := rfl
theorem k_15_69 : am_cd 15 69 = some (.iload_n 1, 1, [], [])   := rfl
theorem k_15_70 : am_cd 15 70 = some (.iaload, 1, [], [])   := rfl
theorem k_15_71 : am_cd 15 71 = some (.putfield 75, 3, [2, 2, 0], [(0, 155)])   := rfl
theorem k_15_74 : am_cd 15 74 = some (.aload_n 2, 1, [], [])   := rfl
theorem k_15_75 : am_cd 15 75 = some (.aload_n 0, 1, [], [])   := rfl
theorem k_15_76 : am_cd 15 76 = some (.getfield 39, 3, [3, 7, 0], [(0, 198)])   := rfl
theorem k_15_79 : am_cd 15 79 = some (.putfield 136, 3, [2, 3, 0], [(0, 156)])   := rfl
theorem k_15_82 : am_cd 15 82 = some (.aload_n 2, 1, [], [])   := rfl
theorem k_15_83 : am_cd 15 83 = some (.iload_n 1, 1, [], [])   := rfl
theorem k_15_84 : am_cd 15 84 = some (.putfield 139, 3, [2, 4, 0], [(0, 157)])   := rfl
theorem k_15_87 : am_cd 15 87 = some (.aload_n 0, 1, [], [])   := rfl
theorem k_15_88 : am_cd 15 88 = some (.dup, 1, [], [])   := rfl
theorem k_15_89 : am_cd 15 89 = some (.getfield 36, 3, [3, 6, 0], [(0, 196)])   := rfl
theorem k_15_92 : am_cd 15 92 = some (.iconst 1, 1, [], [(1, 0)])   := rfl
theorem k_15_93 : am_cd 15 93 = some (.iadd, 1, [], [])   := rfl
theorem k_15_94 : am_cd 15 94 = some (.putfield 36, 3, [3, 6, 0], [(0, 196)])   := rfl
theorem k_15_97 : am_cd 15 97 = some (.return_, 1, [], [])   := rfl
theorem e_15_0 {x : Option Nat} {a1 a2 a3 : Option AV} : X xs L d 15 (0, [some (.inr x), a1, a2, a3], sk, h) res ↔ X xs L d 15 (1, [some (.inr x), a1, a2, a3], .inr x :: sk, h) res := i_aload_n k_15_0 rfl
theorem e_15_1 {o : Nat} : X xs L d 15 (1, lo, .inr (some o) :: sk, h) res ↔ hK h o = 3 ∧ X xs L d 15 (4, lo, .inr (hR h o 0) :: sk, h) res := i_getR k_15_1
theorem e_15_4 {x : Option Nat} {a1 a2 a3 : Option AV} : X xs L d 15 (4, [some (.inr x), a1, a2, a3], sk, h) res ↔ X xs L d 15 (5, [some (.inr x), a1, a2, a3], .inr x :: sk, h) res := i_aload_n k_15_4 rfl
theorem e_15_5 {o : Nat} : X xs L d 15 (5, lo, .inr (some o) :: sk, h) res ↔ hK h o = 3 ∧ X xs L d 15 (8, lo, .inl (hI h o 6) :: sk, h) res := i_getI k_15_5
theorem e_15_8 {o : Nat} {i : Int32} : X xs L d 15 (8, lo, .inl i :: .inr (some o) :: sk, h) res ↔ ((hK h o = 23 ∨ hK h o = 24) ∧ vp_in i (hL h o)) ∧ X xs L d 15 (9, lo, .inr (hR h o i.toNatClampNeg) :: sk, h) res := i_aaload k_15_8
theorem e_15_9 {x : Option Nat} {a0 a1 a2 a3 : Option AV} : X xs L d 15 (9, [a0, a1, a2, a3], .inr x :: sk, h) res ↔ X xs L d 15 (10, [a0, a1, some (.inr x), a3], sk, h) res := i_astore_n k_15_9 (Nat.le_of_ble_eq_true rfl) rfl
theorem e_15_10 {x : Option Nat} {a0 a1 a3 : Option AV} : X xs L d 15 (10, [a0, a1, some (.inr x), a3], sk, h) res ↔ X xs L d 15 (11, [a0, a1, some (.inr x), a3], .inr x :: sk, h) res := i_aload_n k_15_10 rfl
theorem e_15_11 {o : Nat} : X xs L d 15 (11, lo, .inr (some o) :: sk, h) res ↔ hK h o = 2 ∧ X xs L d 15 (14, lo, .inr (hR h o 0) :: sk, h) res := i_getR k_15_11
theorem e_15_14 : X xs L d 15 (14, lo, sk, h) res ↔ X xs L d 15 (15, lo, .inl 0 :: sk, h) res := i_iconst k_15_14
theorem e_15_15 {v0 : Option Nat} {v1 : Int32} (hs : sk.length ≤ 8) : X xs L d 15 (15, lo, .inl v1 :: .inr v0 :: sk, h) res ↔ ∃ q : Res, Rn xs L d 127 [.inr v0, .inl v1] h q ∧ X xs L d 15 (18, lo, q.1.toList ++ sk, q.2) res := i_callS k_15_15 ⟨Nat.le_add_left 2 sk.length, Nat.le_trans (Nat.add_le_add_right hs 2) (Nat.le_of_eq (Nat.add_comm 8 2))⟩
theorem e_15_18 {x : Option Nat} {a1 a2 a3 : Option AV} : X xs L d 15 (18, [some (.inr x), a1, a2, a3], sk, h) res ↔ X xs L d 15 (19, [some (.inr x), a1, a2, a3], .inr x :: sk, h) res := i_aload_n k_15_18 rfl
theorem e_15_19 {o : Nat} : X xs L d 15 (19, lo, .inr (some o) :: sk, h) res ↔ hK h o = 3 ∧ X xs L d 15 (22, lo, .inr (hR h o 3) :: sk, h) res := i_getR k_15_19
theorem e_15_22 {o : Nat} : X xs L d 15 (22, lo, .inr (some o) :: sk, h) res ↔ hK h o = 4 ∧ X xs L d 15 (25, lo, .inr (hR h o 2) :: sk, h) res := i_getR k_15_22
theorem e_15_25 {x : Int32} {a0 a2 a3 : Option AV} : X xs L d 15 (25, [a0, some (.inl x), a2, a3], sk, h) res ↔ X xs L d 15 (26, [a0, some (.inl x), a2, a3], .inl x :: sk, h) res := i_iload_n k_15_25 rfl
theorem e_15_26 {o : Nat} {i : Int32} : X xs L d 15 (26, lo, .inl i :: .inr (some o) :: sk, h) res ↔ (hK h o = 20 ∧ vp_in i (hL h o)) ∧ X xs L d 15 (27, lo, .inl (hI h o i.toNatClampNeg) :: sk, h) res := i_iaload k_15_26
theorem e_15_27 : X xs L d 15 (27, lo, sk, h) res ↔ X xs L d 15 (28, lo, .inl 1 :: sk, h) res := i_iconst k_15_27
theorem e_15_28 {x y : Int32} : X xs L d 15 (28, lo, .inl y :: .inl x :: sk, h) res ↔ X xs L d 15 (29, lo, .inl (x - y) :: sk, h) res := i_isub k_15_28
theorem e_15_29 {x : Int32} {a0 a1 a2 a3 : Option AV} : X xs L d 15 (29, [a0, a1, a2, a3], .inl x :: sk, h) res ↔ X xs L d 15 (30, [a0, a1, a2, some (.inl x)], sk, h) res := i_istore_n k_15_29 (Nat.le_of_ble_eq_true rfl) rfl
theorem e_15_30 {x : Int32} {a0 a1 a2 : Option AV} : X xs L d 15 (30, [a0, a1, a2, some (.inl x)], sk, h) res ↔ X xs L d 15 (31, [a0, a1, a2, some (.inl x)], .inl x :: sk, h) res := i_iload_n k_15_30 rfl
theorem e_15_31 {x : Int32} : X xs L d 15 (31, lo, .inl x :: sk, h) res ↔ (if x < 0 then X xs L d 15 (50, lo, sk, h) res else X xs L d 15 (34, lo, sk, h) res) := i_if_lt k_15_31
theorem e_15_34 {x : Option Nat} {a0 a1 a3 : Option AV} : X xs L d 15 (34, [a0, a1, some (.inr x), a3], sk, h) res ↔ X xs L d 15 (35, [a0, a1, some (.inr x), a3], .inr x :: sk, h) res := i_aload_n k_15_34 rfl
theorem e_15_35 {o : Nat} : X xs L d 15 (35, lo, .inr (some o) :: sk, h) res ↔ hK h o = 2 ∧ X xs L d 15 (38, lo, .inr (hR h o 0) :: sk, h) res := i_getR k_15_35
theorem e_15_38 {x : Int32} {a0 a1 a2 : Option AV} : X xs L d 15 (38, [a0, a1, a2, some (.inl x)], sk, h) res ↔ X xs L d 15 (39, [a0, a1, a2, some (.inl x)], .inl x :: sk, h) res := i_iload_n k_15_38 rfl
theorem e_15_39 {x : Option Nat} {a1 a2 a3 : Option AV} : X xs L d 15 (39, [some (.inr x), a1, a2, a3], sk, h) res ↔ X xs L d 15 (40, [some (.inr x), a1, a2, a3], .inr x :: sk, h) res := i_aload_n k_15_39 rfl
theorem e_15_40 {o : Nat} (hs : sk.length ≤ 8) : X xs L d 15 (40, lo, .inr (some o) :: sk, h) res ↔ hK h o = 3 ∧ ∃ q : Res, Rn xs L d 19 [.inr (some o)] h q ∧ X xs L d 15 (43, lo, q.1.toList ++ sk, q.2) res := i_callV k_15_40 rfl ⟨Nat.le_add_left 1 sk.length, Nat.le_trans (Nat.add_le_add_right hs 1) (Nat.le_of_eq (Nat.add_comm 8 1))⟩
theorem e_15_43 {o : Nat} {i v : Int32} : X xs L d 15 (43, lo, .inl v :: .inl i :: .inr (some o) :: sk, h) res ↔ (hK h o = 20 ∧ vp_in i (hL h o)) ∧ X xs L d 15 (44, lo, sk, sI h o i.toNatClampNeg (v)) res := i_iastore k_15_43
theorem e_15_44 {x : Int32} {a0 a1 a2 : Option AV} : X xs L d 15 (44, [a0, a1, a2, some (.inl x)], sk, h) res ↔ X xs L d 15 (47, [a0, a1, a2, some (.inl (x + (-1)))], sk, h) res := i_iinc k_15_44 rfl rfl
theorem e_15_47 : X xs L d 15 (47, lo, sk, h) res ↔ X xs L d 15 (30, lo, sk, h) res := i_goto k_15_47
theorem e_15_50 {x : Option Nat} {a0 a1 a3 : Option AV} : X xs L d 15 (50, [a0, a1, some (.inr x), a3], sk, h) res ↔ X xs L d 15 (51, [a0, a1, some (.inr x), a3], .inr x :: sk, h) res := i_aload_n k_15_50 rfl
theorem e_15_51 {x : Option Nat} {a1 a2 a3 : Option AV} : X xs L d 15 (51, [some (.inr x), a1, a2, a3], sk, h) res ↔ X xs L d 15 (52, [some (.inr x), a1, a2, a3], .inr x :: sk, h) res := i_aload_n k_15_51 rfl
theorem e_15_52 {o : Nat} : X xs L d 15 (52, lo, .inr (some o) :: sk, h) res ↔ hK h o = 3 ∧ X xs L d 15 (55, lo, .inr (hR h o 3) :: sk, h) res := i_getR k_15_52
theorem e_15_55 {o : Nat} : X xs L d 15 (55, lo, .inr (some o) :: sk, h) res ↔ hK h o = 4 ∧ X xs L d 15 (58, lo, .inr (hR h o 0) :: sk, h) res := i_getR k_15_55
theorem e_15_58 {o : Nat} {v : Option Nat} : X xs L d 15 (58, lo, .inr v :: .inr (some o) :: sk, h) res ↔ hK h o = 2 ∧ X xs L d 15 (61, lo, sk, sR h o 1 v) res := i_putR k_15_58
theorem e_15_61 {x : Option Nat} {a0 a1 a3 : Option AV} : X xs L d 15 (61, [a0, a1, some (.inr x), a3], sk, h) res ↔ X xs L d 15 (62, [a0, a1, some (.inr x), a3], .inr x :: sk, h) res := i_aload_n k_15_61 rfl
theorem e_15_62 {x : Option Nat} {a1 a2 a3 : Option AV} : X xs L d 15 (62, [some (.inr x), a1, a2, a3], sk, h) res ↔ X xs L d 15 (63, [some (.inr x), a1, a2, a3], .inr x :: sk, h) res := i_aload_n k_15_62 rfl
theorem e_15_63 {o : Nat} : X xs L d 15 (63, lo, .inr (some o) :: sk, h) res ↔ hK h o = 3 ∧ X xs L d 15 (66, lo, .inr (hR h o 3) :: sk, h) res := i_getR k_15_63
theorem e_15_66 {o : Nat} : X xs L d 15 (66, lo, .inr (some o) :: sk, h) res ↔ hK h o = 4 ∧ X xs L d 15 (69, lo, .inr (hR h o 1) :: sk, h) res := i_getR k_15_66
theorem e_15_69 {x : Int32} {a0 a2 a3 : Option AV} : X xs L d 15 (69, [a0, some (.inl x), a2, a3], sk, h) res ↔ X xs L d 15 (70, [a0, some (.inl x), a2, a3], .inl x :: sk, h) res := i_iload_n k_15_69 rfl
theorem e_15_70 {o : Nat} {i : Int32} : X xs L d 15 (70, lo, .inl i :: .inr (some o) :: sk, h) res ↔ (hK h o = 20 ∧ vp_in i (hL h o)) ∧ X xs L d 15 (71, lo, .inl (hI h o i.toNatClampNeg) :: sk, h) res := i_iaload k_15_70
theorem e_15_71 {o : Nat} {v : Int32} : X xs L d 15 (71, lo, .inl v :: .inr (some o) :: sk, h) res ↔ hK h o = 2 ∧ X xs L d 15 (74, lo, sk, sI h o 2 v) res := i_putI k_15_71
theorem e_15_74 {x : Option Nat} {a0 a1 a3 : Option AV} : X xs L d 15 (74, [a0, a1, some (.inr x), a3], sk, h) res ↔ X xs L d 15 (75, [a0, a1, some (.inr x), a3], .inr x :: sk, h) res := i_aload_n k_15_74 rfl
theorem e_15_75 {x : Option Nat} {a1 a2 a3 : Option AV} : X xs L d 15 (75, [some (.inr x), a1, a2, a3], sk, h) res ↔ X xs L d 15 (76, [some (.inr x), a1, a2, a3], .inr x :: sk, h) res := i_aload_n k_15_75 rfl
theorem e_15_76 {o : Nat} : X xs L d 15 (76, lo, .inr (some o) :: sk, h) res ↔ hK h o = 3 ∧ X xs L d 15 (79, lo, .inl (hI h o 7) :: sk, h) res := i_getI k_15_76
theorem e_15_79 {o : Nat} {v : Int32} : X xs L d 15 (79, lo, .inl v :: .inr (some o) :: sk, h) res ↔ hK h o = 2 ∧ X xs L d 15 (82, lo, sk, sI h o 3 v) res := i_putI k_15_79
theorem e_15_82 {x : Option Nat} {a0 a1 a3 : Option AV} : X xs L d 15 (82, [a0, a1, some (.inr x), a3], sk, h) res ↔ X xs L d 15 (83, [a0, a1, some (.inr x), a3], .inr x :: sk, h) res := i_aload_n k_15_82 rfl
theorem e_15_83 {x : Int32} {a0 a2 a3 : Option AV} : X xs L d 15 (83, [a0, some (.inl x), a2, a3], sk, h) res ↔ X xs L d 15 (84, [a0, some (.inl x), a2, a3], .inl x :: sk, h) res := i_iload_n k_15_83 rfl
theorem e_15_84 {o : Nat} {v : Int32} : X xs L d 15 (84, lo, .inl v :: .inr (some o) :: sk, h) res ↔ hK h o = 2 ∧ X xs L d 15 (87, lo, sk, sI h o 4 v) res := i_putI k_15_84
theorem e_15_87 {x : Option Nat} {a1 a2 a3 : Option AV} : X xs L d 15 (87, [some (.inr x), a1, a2, a3], sk, h) res ↔ X xs L d 15 (88, [some (.inr x), a1, a2, a3], .inr x :: sk, h) res := i_aload_n k_15_87 rfl
theorem e_15_88 {v : AV} : X xs L d 15 (88, lo, v :: sk, h) res ↔ X xs L d 15 (89, lo, v :: v :: sk, h) res := i_dup k_15_88
theorem e_15_89 {o : Nat} : X xs L d 15 (89, lo, .inr (some o) :: sk, h) res ↔ hK h o = 3 ∧ X xs L d 15 (92, lo, .inl (hI h o 6) :: sk, h) res := i_getI k_15_89
theorem e_15_92 : X xs L d 15 (92, lo, sk, h) res ↔ X xs L d 15 (93, lo, .inl 1 :: sk, h) res := i_iconst k_15_92
theorem e_15_93 {x y : Int32} : X xs L d 15 (93, lo, .inl y :: .inl x :: sk, h) res ↔ X xs L d 15 (94, lo, .inl (x + y) :: sk, h) res := i_iadd k_15_93
theorem e_15_94 {o : Nat} {v : Int32} : X xs L d 15 (94, lo, .inl v :: .inr (some o) :: sk, h) res ↔ hK h o = 3 ∧ X xs L d 15 (97, lo, sk, sI h o 6 v) res := i_putI k_15_94
theorem e_15_97 : X xs L d 15 (97, lo, [], h) res ↔ res = (none, h) := i_vret k_15_97 rfl
theorem k_16_0 : am_cd 16 0 = some (.aload_n 0, 1, [], [])   := rfl
theorem k_16_1 : am_cd 16 1 = some (.dup, 1, [], [])   := rfl
theorem k_16_2 : am_cd 16 2 = some (.getfield 36, 3, [3, 6, 0], [(0, 196)])   := rfl
theorem k_16_5 : am_cd 16 5 = some (.iconst 1, 1, [], [(1, 0)])   := rfl
theorem k_16_6 : am_cd 16 6 = some (.isub, 1, [], [])   := rfl
theorem k_16_7 : am_cd 16 7 = some (.putfield 36, 3, [3, 6, 0], [(0, 196)])   := rfl
theorem k_16_10 : am_cd 16 10 = some (.aload_n 0, 1, [], [])   := rfl
theorem k_16_11 : am_cd 16 11 = some (.getfield 36, 3, [3, 6, 0], [(0, 196)])   := rfl
theorem k_16_14 : am_cd 16 14 = some (.ifCond .ne 15, 3, [29], [])   := rfl
theorem k_16_17 : am_cd 16 17 = some (.aload_n 0, 1, [], [])   := rfl
theorem k_16_18 : am_cd 16 18 = some (.iconst 2, 1, [], [(2, 0)])   := rfl
theorem k_16_19 : am_cd 16 19 = some (.putfield 29, 3, [3, 4, 0], [(0, 192)])   := rfl
theorem k_16_22 : am_cd 16 22 = some (.aload_n 0, 1, [], [])   := rfl
theorem k_16_23 : am_cd 16 23 = some (.iload_n 1, 1, [], [])   := rfl
theorem k_16_24 : am_cd 16 24 = some (.putfield 33, 3, [3, 5, 0], [(0, 194)])   := rfl
theorem k_16_27 : am_cd 16 27 = some (.iconst 0, 1, [], [(0, 0)])   := rfl
theorem k_16_28 : am_cd 16 28 = some (.ireturn, 1, [], [])   := rfl
theorem k_16_29 : am_cd 16 29 = some (.aload_n 0, 1, [], [])   := rfl
theorem k_16_30 : am_cd 16 30 = some (.iload_n 1, 1, [], [])   := rfl
theorem k_16_31 : am_cd 16 31 = some (.invokevirtual 91, 3, [18, 2, 3], [(0, 541), (0, 543), (0, 21)])   := rfl
theorem k_16_34 : am_cd 16 34 = some (.iconst 1, 1, [], [(1, 0)])   := rfl
theorem k_16_35 : am_cd 16 35 = some (.ireturn, 1, [], [])   := rfl
theorem e_16_0 {x : Option Nat} {a1 : Option AV} : X xs L d 16 (0, [some (.inr x), a1], sk, h) res ↔ X xs L d 16 (1, [some (.inr x), a1], .inr x :: sk, h) res := i_aload_n k_16_0 rfl
theorem e_16_1 {v : AV} : X xs L d 16 (1, lo, v :: sk, h) res ↔ X xs L d 16 (2, lo, v :: v :: sk, h) res := i_dup k_16_1
theorem e_16_2 {o : Nat} : X xs L d 16 (2, lo, .inr (some o) :: sk, h) res ↔ hK h o = 3 ∧ X xs L d 16 (5, lo, .inl (hI h o 6) :: sk, h) res := i_getI k_16_2
theorem e_16_5 : X xs L d 16 (5, lo, sk, h) res ↔ X xs L d 16 (6, lo, .inl 1 :: sk, h) res := i_iconst k_16_5
theorem e_16_6 {x y : Int32} : X xs L d 16 (6, lo, .inl y :: .inl x :: sk, h) res ↔ X xs L d 16 (7, lo, .inl (x - y) :: sk, h) res := i_isub k_16_6
theorem e_16_7 {o : Nat} {v : Int32} : X xs L d 16 (7, lo, .inl v :: .inr (some o) :: sk, h) res ↔ hK h o = 3 ∧ X xs L d 16 (10, lo, sk, sI h o 6 v) res := i_putI k_16_7
theorem e_16_10 {x : Option Nat} {a1 : Option AV} : X xs L d 16 (10, [some (.inr x), a1], sk, h) res ↔ X xs L d 16 (11, [some (.inr x), a1], .inr x :: sk, h) res := i_aload_n k_16_10 rfl
theorem e_16_11 {o : Nat} : X xs L d 16 (11, lo, .inr (some o) :: sk, h) res ↔ hK h o = 3 ∧ X xs L d 16 (14, lo, .inl (hI h o 6) :: sk, h) res := i_getI k_16_11
theorem e_16_14 {x : Int32} : X xs L d 16 (14, lo, .inl x :: sk, h) res ↔ (if x = 0 then X xs L d 16 (17, lo, sk, h) res else X xs L d 16 (29, lo, sk, h) res) := i_if_ne k_16_14
theorem e_16_17 {x : Option Nat} {a1 : Option AV} : X xs L d 16 (17, [some (.inr x), a1], sk, h) res ↔ X xs L d 16 (18, [some (.inr x), a1], .inr x :: sk, h) res := i_aload_n k_16_17 rfl
theorem e_16_18 : X xs L d 16 (18, lo, sk, h) res ↔ X xs L d 16 (19, lo, .inl 2 :: sk, h) res := i_iconst k_16_18
theorem e_16_19 {o : Nat} {v : Int32} : X xs L d 16 (19, lo, .inl v :: .inr (some o) :: sk, h) res ↔ hK h o = 3 ∧ X xs L d 16 (22, lo, sk, sI h o 4 v) res := i_putI k_16_19
theorem e_16_22 {x : Option Nat} {a1 : Option AV} : X xs L d 16 (22, [some (.inr x), a1], sk, h) res ↔ X xs L d 16 (23, [some (.inr x), a1], .inr x :: sk, h) res := i_aload_n k_16_22 rfl
theorem e_16_23 {x : Int32} {a0 : Option AV} : X xs L d 16 (23, [a0, some (.inl x)], sk, h) res ↔ X xs L d 16 (24, [a0, some (.inl x)], .inl x :: sk, h) res := i_iload_n k_16_23 rfl
theorem e_16_24 {o : Nat} {v : Int32} : X xs L d 16 (24, lo, .inl v :: .inr (some o) :: sk, h) res ↔ hK h o = 3 ∧ X xs L d 16 (27, lo, sk, sI h o 5 v) res := i_putI k_16_24
theorem e_16_27 : X xs L d 16 (27, lo, sk, h) res ↔ X xs L d 16 (28, lo, .inl 0 :: sk, h) res := i_iconst k_16_27
theorem e_16_28 {v : Int32} : X xs L d 16 (28, lo, [.inl v], h) res ↔ (v = 0 ∨ v = 1) ∧ res = (some (.inl v), h) := i_zret k_16_28 rfl
theorem e_16_29 {x : Option Nat} {a1 : Option AV} : X xs L d 16 (29, [some (.inr x), a1], sk, h) res ↔ X xs L d 16 (30, [some (.inr x), a1], .inr x :: sk, h) res := i_aload_n k_16_29 rfl
theorem e_16_30 {x : Int32} {a0 : Option AV} : X xs L d 16 (30, [a0, some (.inl x)], sk, h) res ↔ X xs L d 16 (31, [a0, some (.inl x)], .inl x :: sk, h) res := i_iload_n k_16_30 rfl
theorem e_16_31 {o : Nat} {v0 : Int32} (hs : sk.length ≤ 8) : X xs L d 16 (31, lo, .inl v0 :: .inr (some o) :: sk, h) res ↔ hK h o = 3 ∧ ∃ q : Res, Rn xs L d 18 [.inr (some o), .inl v0] h q ∧ X xs L d 16 (34, lo, q.1.toList ++ sk, q.2) res := i_callV k_16_31 rfl ⟨Nat.le_add_left 2 sk.length, Nat.le_trans (Nat.add_le_add_right hs 2) (Nat.le_of_eq (Nat.add_comm 8 2))⟩
theorem e_16_34 : X xs L d 16 (34, lo, sk, h) res ↔ X xs L d 16 (35, lo, .inl 1 :: sk, h) res := i_iconst k_16_34
theorem e_16_35 {v : Int32} : X xs L d 16 (35, lo, [.inl v], h) res ↔ (v = 0 ∨ v = 1) ∧ res = (some (.inl v), h) := i_zret k_16_35 rfl
theorem k_17_0 : am_cd 17 0 = some (.aload_n 0, 1, [], [])   := rfl
theorem k_17_1 : am_cd 17 1 = some (.iconst 1, 1, [], [(1, 0)])   := rfl
theorem k_17_2 : am_cd 17 2 = some (.putfield 78, 3, [3, 9, 1], [(0, 201)])   := rfl
theorem k_17_5 : am_cd 17 5 = some (.aload_n 0, 1, [], [])   := rfl
theorem k_17_6 : am_cd 17 6 = some (.getfield 36, 3, [3, 6, 0], [(0, 196)])   := rfl
theorem k_17_9 : am_cd 17 9 = some (.iconst 1, 1, [], [(1, 0)])   := rfl
theorem k_17_10 : am_cd 17 10 = some (.isub, 1, [], [])   := rfl
theorem k_17_11 : am_cd 17 11 = some (.istore_n 2, 1, [], [])   := rfl
theorem k_17_12 : am_cd 17 12 = some (.iload_n 2, 1, [], [])   := rfl
theorem k_17_13 : am_cd 17 13 = some (.ifCond .lt 93, 3, [106], [])   := rfl
theorem k_17_16 : am_cd 17 16 = some (.aload_n 0, 1, [], [])   := rfl
theorem k_17_17 : am_cd 17 17 = some (.getfield 11, 3, [3, 0, 2], [(0, 187)])   := rfl
theorem k_17_20 : am_cd 17 20 = some (.iload_n 2, 1, [], [])   := rfl
theorem k_17_21 : am_cd 17 21 = some (.aaload, 1, [], [])   := rfl
theorem k_17_22 : am_cd 17 22 = some (.astore_n 3, 1, [], [])   := rfl
theorem k_17_23 : am_cd 17 23 = some (.aload_n 3, 1, [], [])   := rfl
theorem k_17_24 : am_cd 17 24 = some (.getfield 75, 3, [2, 2, 0], [(0, 155)])   := rfl
theorem k_17_27 : am_cd 17 27 = some (.iconst 1, 1, [], [(1, 0)])   := rfl
theorem k_17_28 : am_cd 17 28 = some (.isub, 1, [], [])   := rfl
theorem k_17_29 : am_cd 17 29 = some (.istore 4, 2, [], [])   := rfl
theorem k_17_31 : am_cd 17 31 = some (.iload 4, 2, [], [])   := rfl
theorem k_17_33 : am_cd 17 33 = some (.ifCond .lt 28, 3, [61], [])   := rfl
theorem k_17_36 : am_cd 17 36 = some (.iload 4, 2, [], [])   := rfl
theorem k_17_38 : am_cd 17 38 = some (.aload_n 3, 1, [], [])   := rfl
theorem k_17_39 : am_cd 17 39 = some (.getfield 71, 3, [2, 1, 2], [(0, 153)])   := rfl
theorem k_17_42 : am_cd 17 42 = some (.getfield 142, 3, [1, 2, 0], [(0, 465)])   := rfl
theorem k_17_45 : am_cd 17 45 = some (.if_icmp .ge 16, 3, [61], [])   := rfl
theorem k_17_48 : am_cd 17 48 = some (.aload_n 3, 1, [], [])   := rfl
theorem k_17_49 : am_cd 17 49 = some (.getfield 71, 3, [2, 1, 2], [(0, 153)])   := rfl
theorem k_17_52 : am_cd 17 52 = some (.getfield 147, 3, [1, 1, 2], [(0, 462)])   := rfl
theorem k_17_55 : am_cd 17 55 = some (.iload 4, 2, [], [])   := rfl
theorem k_17_57 : am_cd 17 57 = some (.iaload, 1, [], [])   := rfl
theorem k_17_58 : am_cd 17 58 = some (.goto 4, 3, [62], [])   := rfl
theorem k_17_61 : am_cd 17 61 = some (.iconst (-1), 1, [], [(-1, 0)])   := rfl
theorem k_17_62 : am_cd 17 62 = some (.istore 5, 2, [], [])   := rfl
theorem k_17_64 : am_cd 17 64 = some (.iload 5, 2, [], [])   := rfl
theorem k_17_66 : am_cd 17 66 = some (.iconst (-1), 1, [], [(-1, 0)])   := rfl
theorem k_17_67 : am_cd 17 67 = some (.if_icmp .eq 33, 3, [100], [])   := rfl
theorem k_17_70 : am_cd 17 70 = some (.aload_n 0, 1, [], [])   := rfl
theorem k_17_71 : am_cd 17 71 = some (.iload_n 2, 1, [], [])   := rfl
theorem k_17_72 : am_cd 17 72 = some (.iconst 1, 1, [], [(1, 0)])   := rfl
theorem k_17_73 : am_cd 17 73 = some (.iadd, 1, [], [])   := rfl
theorem k_17_74 : am_cd 17 74 = some (.putfield 36, 3, [3, 6, 0], [(0, 196)])   := rfl
theorem k_17_77 : am_cd 17 77 = some (.aload_n 0, 1, [], [])   := rfl
theorem k_17_78 : am_cd 17 78 = some (.aload_n 3, 1, [], [])   := rfl
theorem k_17_79 : am_cd 17 79 = some (.getfield 136, 3, [2, 3, 0], [(0, 156)])   := rfl
theorem k_17_82 : am_cd 17 82 = some (.putfield 39, 3, [3, 7, 0], [(0, 198)])   := rfl
theorem k_17_85 : am_cd 17 85 = some (.aload_n 3, 1, [], [])   := rfl
theorem k_17_86 : am_cd 17 86 = some (.getfield 62, 3, [2, 0, 2], [(0, 151)])   := rfl
theorem k_17_89 : am_cd 17 89 = some (.iconst 4, 1, [], [(4, 0)])   := rfl
theorem k_17_90 : am_cd 17 90 = some (.iload_n 1, 1, [], [])   := rfl
theorem k_17_91 : am_cd 17 91 = some (.iastore, 1, [], [])   := rfl
theorem k_17_92 : am_cd 17 92 = some (.aload_n 3, 1, [], [])   := rfl
theorem k_17_93 : am_cd 17 93 = some (.iload 5, 2, [], [])   := rfl
theorem k_17_95 : am_cd 17 95 = some (.putfield 75, 3, [2, 2, 0], [(0, 155)])   := rfl
theorem k_17_98 : am_cd 17 98 = some (.iconst 1, 1, [], [(1, 0)])   := rfl
theorem k_17_99 : am_cd 17 99 = some (.ireturn, 1, [], [])   := rfl
theorem k_17_100 : am_cd 17 100 = some (.iinc 2 (-1), 3, [], [(-1, 0)])   := rfl
theorem k_17_103 : am_cd 17 103 = some (.goto (-91), 3, [12], [])   := rfl
theorem k_17_106 : am_cd 17 106 = some (.aload_n 0, 1, [], [])   := rfl
theorem k_17_107 : am_cd 17 107 = some (.iconst 0, 1, [], [(0, 0)])   := rfl
theorem k_17_108 : am_cd 17 108 = some (.putfield 36, 3, [3, 6, 0], [(0, 196)])   := rfl
theorem k_17_111 : am_cd 17 111 = some (.aload_n 0, 1, [], [])   := rfl
theorem k_17_112 : am_cd 17 112 = some (.iconst 3, 1, [], [(3, 0)])   := rfl
theorem k_17_113 : am_cd 17 113 = some (.putfield 29, 3, [3, 4, 0], [(0, 192)])   := rfl
theorem k_17_116 : am_cd 17 116 = some (.aload_n 0, 1, [], [])   := rfl
theorem k_17_117 : am_cd 17 117 = some (.iload_n 1, 1, [], [])   := rfl
theorem k_17_118 : am_cd 17 118 = some (.putfield 33, 3, [3, 5, 0], [(0, 194)])   := rfl
theorem k_17_121 : am_cd 17 121 = some (.iconst 0, 1, [], [(0, 0)])   := rfl
theorem k_17_122 : am_cd 17 122 = some (.ireturn, 1, [], [])   := rfl
theorem e_17_0 {x : Option Nat} {a1 a2 a3 a4 a5 : Option AV} : X xs L d 17 (0, [some (.inr x), a1, a2, a3, a4, a5], sk, h) res ↔ X xs L d 17 (1, [some (.inr x), a1, a2, a3, a4, a5], .inr x :: sk, h) res := i_aload_n k_17_0 rfl
theorem e_17_1 : X xs L d 17 (1, lo, sk, h) res ↔ X xs L d 17 (2, lo, .inl 1 :: sk, h) res := i_iconst k_17_1
theorem e_17_2 {o : Nat} {v : Int32} : X xs L d 17 (2, lo, .inl v :: .inr (some o) :: sk, h) res ↔ (hK h o = 3 ∧ (v = 0 ∨ v = 1)) ∧ X xs L d 17 (5, lo, sk, sI h o 9 v) res := i_putZ k_17_2
theorem e_17_5 {x : Option Nat} {a1 a2 a3 a4 a5 : Option AV} : X xs L d 17 (5, [some (.inr x), a1, a2, a3, a4, a5], sk, h) res ↔ X xs L d 17 (6, [some (.inr x), a1, a2, a3, a4, a5], .inr x :: sk, h) res := i_aload_n k_17_5 rfl
theorem e_17_6 {o : Nat} : X xs L d 17 (6, lo, .inr (some o) :: sk, h) res ↔ hK h o = 3 ∧ X xs L d 17 (9, lo, .inl (hI h o 6) :: sk, h) res := i_getI k_17_6
theorem e_17_9 : X xs L d 17 (9, lo, sk, h) res ↔ X xs L d 17 (10, lo, .inl 1 :: sk, h) res := i_iconst k_17_9
theorem e_17_10 {x y : Int32} : X xs L d 17 (10, lo, .inl y :: .inl x :: sk, h) res ↔ X xs L d 17 (11, lo, .inl (x - y) :: sk, h) res := i_isub k_17_10
theorem e_17_11 {x : Int32} {a0 a1 a2 a3 a4 a5 : Option AV} : X xs L d 17 (11, [a0, a1, a2, a3, a4, a5], .inl x :: sk, h) res ↔ X xs L d 17 (12, [a0, a1, some (.inl x), a3, a4, a5], sk, h) res := i_istore_n k_17_11 (Nat.le_of_ble_eq_true rfl) rfl
theorem e_17_12 {x : Int32} {a0 a1 a3 a4 a5 : Option AV} : X xs L d 17 (12, [a0, a1, some (.inl x), a3, a4, a5], sk, h) res ↔ X xs L d 17 (13, [a0, a1, some (.inl x), a3, a4, a5], .inl x :: sk, h) res := i_iload_n k_17_12 rfl
theorem e_17_13 {x : Int32} : X xs L d 17 (13, lo, .inl x :: sk, h) res ↔ (if x < 0 then X xs L d 17 (106, lo, sk, h) res else X xs L d 17 (16, lo, sk, h) res) := i_if_lt k_17_13
theorem e_17_16 {x : Option Nat} {a1 a2 a3 a4 a5 : Option AV} : X xs L d 17 (16, [some (.inr x), a1, a2, a3, a4, a5], sk, h) res ↔ X xs L d 17 (17, [some (.inr x), a1, a2, a3, a4, a5], .inr x :: sk, h) res := i_aload_n k_17_16 rfl
theorem e_17_17 {o : Nat} : X xs L d 17 (17, lo, .inr (some o) :: sk, h) res ↔ hK h o = 3 ∧ X xs L d 17 (20, lo, .inr (hR h o 0) :: sk, h) res := i_getR k_17_17
theorem e_17_20 {x : Int32} {a0 a1 a3 a4 a5 : Option AV} : X xs L d 17 (20, [a0, a1, some (.inl x), a3, a4, a5], sk, h) res ↔ X xs L d 17 (21, [a0, a1, some (.inl x), a3, a4, a5], .inl x :: sk, h) res := i_iload_n k_17_20 rfl
theorem e_17_21 {o : Nat} {i : Int32} : X xs L d 17 (21, lo, .inl i :: .inr (some o) :: sk, h) res ↔ ((hK h o = 23 ∨ hK h o = 24) ∧ vp_in i (hL h o)) ∧ X xs L d 17 (22, lo, .inr (hR h o i.toNatClampNeg) :: sk, h) res := i_aaload k_17_21
theorem e_17_22 {x : Option Nat} {a0 a1 a2 a3 a4 a5 : Option AV} : X xs L d 17 (22, [a0, a1, a2, a3, a4, a5], .inr x :: sk, h) res ↔ X xs L d 17 (23, [a0, a1, a2, some (.inr x), a4, a5], sk, h) res := i_astore_n k_17_22 (Nat.le_of_ble_eq_true rfl) rfl
theorem e_17_23 {x : Option Nat} {a0 a1 a2 a4 a5 : Option AV} : X xs L d 17 (23, [a0, a1, a2, some (.inr x), a4, a5], sk, h) res ↔ X xs L d 17 (24, [a0, a1, a2, some (.inr x), a4, a5], .inr x :: sk, h) res := i_aload_n k_17_23 rfl
theorem e_17_24 {o : Nat} : X xs L d 17 (24, lo, .inr (some o) :: sk, h) res ↔ hK h o = 2 ∧ X xs L d 17 (27, lo, .inl (hI h o 2) :: sk, h) res := i_getI k_17_24
theorem e_17_27 : X xs L d 17 (27, lo, sk, h) res ↔ X xs L d 17 (28, lo, .inl 1 :: sk, h) res := i_iconst k_17_27
theorem e_17_28 {x y : Int32} : X xs L d 17 (28, lo, .inl y :: .inl x :: sk, h) res ↔ X xs L d 17 (29, lo, .inl (x - y) :: sk, h) res := i_isub k_17_28
theorem e_17_29 {x : Int32} {a0 a1 a2 a3 a4 a5 : Option AV} : X xs L d 17 (29, [a0, a1, a2, a3, a4, a5], .inl x :: sk, h) res ↔ X xs L d 17 (31, [a0, a1, a2, a3, some (.inl x), a5], sk, h) res := i_istore k_17_29 (Nat.le_of_ble_eq_true rfl) rfl
theorem e_17_31 {x : Int32} {a0 a1 a2 a3 a5 : Option AV} : X xs L d 17 (31, [a0, a1, a2, a3, some (.inl x), a5], sk, h) res ↔ X xs L d 17 (33, [a0, a1, a2, a3, some (.inl x), a5], .inl x :: sk, h) res := i_iload k_17_31 rfl
theorem e_17_33 {x : Int32} : X xs L d 17 (33, lo, .inl x :: sk, h) res ↔ (if x < 0 then X xs L d 17 (61, lo, sk, h) res else X xs L d 17 (36, lo, sk, h) res) := i_if_lt k_17_33
theorem e_17_36 {x : Int32} {a0 a1 a2 a3 a5 : Option AV} : X xs L d 17 (36, [a0, a1, a2, a3, some (.inl x), a5], sk, h) res ↔ X xs L d 17 (38, [a0, a1, a2, a3, some (.inl x), a5], .inl x :: sk, h) res := i_iload k_17_36 rfl
theorem e_17_38 {x : Option Nat} {a0 a1 a2 a4 a5 : Option AV} : X xs L d 17 (38, [a0, a1, a2, some (.inr x), a4, a5], sk, h) res ↔ X xs L d 17 (39, [a0, a1, a2, some (.inr x), a4, a5], .inr x :: sk, h) res := i_aload_n k_17_38 rfl
theorem e_17_39 {o : Nat} : X xs L d 17 (39, lo, .inr (some o) :: sk, h) res ↔ hK h o = 2 ∧ X xs L d 17 (42, lo, .inr (hR h o 1) :: sk, h) res := i_getR k_17_39
theorem e_17_42 {o : Nat} : X xs L d 17 (42, lo, .inr (some o) :: sk, h) res ↔ hK h o = 1 ∧ X xs L d 17 (45, lo, .inl (hI h o 2) :: sk, h) res := i_getI k_17_42
theorem e_17_45 {x y : Int32} : X xs L d 17 (45, lo, .inl y :: .inl x :: sk, h) res ↔ (if y ≤ x then X xs L d 17 (61, lo, sk, h) res else X xs L d 17 (48, lo, sk, h) res) := i_icmp_ge k_17_45
theorem e_17_48 {x : Option Nat} {a0 a1 a2 a4 a5 : Option AV} : X xs L d 17 (48, [a0, a1, a2, some (.inr x), a4, a5], sk, h) res ↔ X xs L d 17 (49, [a0, a1, a2, some (.inr x), a4, a5], .inr x :: sk, h) res := i_aload_n k_17_48 rfl
theorem e_17_49 {o : Nat} : X xs L d 17 (49, lo, .inr (some o) :: sk, h) res ↔ hK h o = 2 ∧ X xs L d 17 (52, lo, .inr (hR h o 1) :: sk, h) res := i_getR k_17_49
theorem e_17_52 {o : Nat} : X xs L d 17 (52, lo, .inr (some o) :: sk, h) res ↔ hK h o = 1 ∧ X xs L d 17 (55, lo, .inr (hR h o 1) :: sk, h) res := i_getR k_17_52
theorem e_17_55 {x : Int32} {a0 a1 a2 a3 a5 : Option AV} : X xs L d 17 (55, [a0, a1, a2, a3, some (.inl x), a5], sk, h) res ↔ X xs L d 17 (57, [a0, a1, a2, a3, some (.inl x), a5], .inl x :: sk, h) res := i_iload k_17_55 rfl
theorem e_17_57 {o : Nat} {i : Int32} : X xs L d 17 (57, lo, .inl i :: .inr (some o) :: sk, h) res ↔ (hK h o = 20 ∧ vp_in i (hL h o)) ∧ X xs L d 17 (58, lo, .inl (hI h o i.toNatClampNeg) :: sk, h) res := i_iaload k_17_57
theorem e_17_58 : X xs L d 17 (58, lo, sk, h) res ↔ X xs L d 17 (62, lo, sk, h) res := i_goto k_17_58
theorem e_17_61 : X xs L d 17 (61, lo, sk, h) res ↔ X xs L d 17 (62, lo, .inl (-1) :: sk, h) res := i_iconst k_17_61
theorem e_17_62 {x : Int32} {a0 a1 a2 a3 a4 a5 : Option AV} : X xs L d 17 (62, [a0, a1, a2, a3, a4, a5], .inl x :: sk, h) res ↔ X xs L d 17 (64, [a0, a1, a2, a3, a4, some (.inl x)], sk, h) res := i_istore k_17_62 (Nat.le_of_ble_eq_true rfl) rfl
theorem e_17_64 {x : Int32} {a0 a1 a2 a3 a4 : Option AV} : X xs L d 17 (64, [a0, a1, a2, a3, a4, some (.inl x)], sk, h) res ↔ X xs L d 17 (66, [a0, a1, a2, a3, a4, some (.inl x)], .inl x :: sk, h) res := i_iload k_17_64 rfl
theorem e_17_66 : X xs L d 17 (66, lo, sk, h) res ↔ X xs L d 17 (67, lo, .inl (-1) :: sk, h) res := i_iconst k_17_66
theorem e_17_67 {x y : Int32} : X xs L d 17 (67, lo, .inl y :: .inl x :: sk, h) res ↔ (if x = y then X xs L d 17 (100, lo, sk, h) res else X xs L d 17 (70, lo, sk, h) res) := i_icmp_eq k_17_67
theorem e_17_70 {x : Option Nat} {a1 a2 a3 a4 a5 : Option AV} : X xs L d 17 (70, [some (.inr x), a1, a2, a3, a4, a5], sk, h) res ↔ X xs L d 17 (71, [some (.inr x), a1, a2, a3, a4, a5], .inr x :: sk, h) res := i_aload_n k_17_70 rfl
theorem e_17_71 {x : Int32} {a0 a1 a3 a4 a5 : Option AV} : X xs L d 17 (71, [a0, a1, some (.inl x), a3, a4, a5], sk, h) res ↔ X xs L d 17 (72, [a0, a1, some (.inl x), a3, a4, a5], .inl x :: sk, h) res := i_iload_n k_17_71 rfl
theorem e_17_72 : X xs L d 17 (72, lo, sk, h) res ↔ X xs L d 17 (73, lo, .inl 1 :: sk, h) res := i_iconst k_17_72
theorem e_17_73 {x y : Int32} : X xs L d 17 (73, lo, .inl y :: .inl x :: sk, h) res ↔ X xs L d 17 (74, lo, .inl (x + y) :: sk, h) res := i_iadd k_17_73
theorem e_17_74 {o : Nat} {v : Int32} : X xs L d 17 (74, lo, .inl v :: .inr (some o) :: sk, h) res ↔ hK h o = 3 ∧ X xs L d 17 (77, lo, sk, sI h o 6 v) res := i_putI k_17_74
theorem e_17_77 {x : Option Nat} {a1 a2 a3 a4 a5 : Option AV} : X xs L d 17 (77, [some (.inr x), a1, a2, a3, a4, a5], sk, h) res ↔ X xs L d 17 (78, [some (.inr x), a1, a2, a3, a4, a5], .inr x :: sk, h) res := i_aload_n k_17_77 rfl
theorem e_17_78 {x : Option Nat} {a0 a1 a2 a4 a5 : Option AV} : X xs L d 17 (78, [a0, a1, a2, some (.inr x), a4, a5], sk, h) res ↔ X xs L d 17 (79, [a0, a1, a2, some (.inr x), a4, a5], .inr x :: sk, h) res := i_aload_n k_17_78 rfl
theorem e_17_79 {o : Nat} : X xs L d 17 (79, lo, .inr (some o) :: sk, h) res ↔ hK h o = 2 ∧ X xs L d 17 (82, lo, .inl (hI h o 3) :: sk, h) res := i_getI k_17_79
theorem e_17_82 {o : Nat} {v : Int32} : X xs L d 17 (82, lo, .inl v :: .inr (some o) :: sk, h) res ↔ hK h o = 3 ∧ X xs L d 17 (85, lo, sk, sI h o 7 v) res := i_putI k_17_82
theorem e_17_85 {x : Option Nat} {a0 a1 a2 a4 a5 : Option AV} : X xs L d 17 (85, [a0, a1, a2, some (.inr x), a4, a5], sk, h) res ↔ X xs L d 17 (86, [a0, a1, a2, some (.inr x), a4, a5], .inr x :: sk, h) res := i_aload_n k_17_85 rfl
theorem e_17_86 {o : Nat} : X xs L d 17 (86, lo, .inr (some o) :: sk, h) res ↔ hK h o = 2 ∧ X xs L d 17 (89, lo, .inr (hR h o 0) :: sk, h) res := i_getR k_17_86
theorem e_17_89 : X xs L d 17 (89, lo, sk, h) res ↔ X xs L d 17 (90, lo, .inl 4 :: sk, h) res := i_iconst k_17_89
theorem e_17_90 {x : Int32} {a0 a2 a3 a4 a5 : Option AV} : X xs L d 17 (90, [a0, some (.inl x), a2, a3, a4, a5], sk, h) res ↔ X xs L d 17 (91, [a0, some (.inl x), a2, a3, a4, a5], .inl x :: sk, h) res := i_iload_n k_17_90 rfl
theorem e_17_91 {o : Nat} {i v : Int32} : X xs L d 17 (91, lo, .inl v :: .inl i :: .inr (some o) :: sk, h) res ↔ (hK h o = 20 ∧ vp_in i (hL h o)) ∧ X xs L d 17 (92, lo, sk, sI h o i.toNatClampNeg (v)) res := i_iastore k_17_91
theorem e_17_92 {x : Option Nat} {a0 a1 a2 a4 a5 : Option AV} : X xs L d 17 (92, [a0, a1, a2, some (.inr x), a4, a5], sk, h) res ↔ X xs L d 17 (93, [a0, a1, a2, some (.inr x), a4, a5], .inr x :: sk, h) res := i_aload_n k_17_92 rfl
theorem e_17_93 {x : Int32} {a0 a1 a2 a3 a4 : Option AV} : X xs L d 17 (93, [a0, a1, a2, a3, a4, some (.inl x)], sk, h) res ↔ X xs L d 17 (95, [a0, a1, a2, a3, a4, some (.inl x)], .inl x :: sk, h) res := i_iload k_17_93 rfl
theorem e_17_95 {o : Nat} {v : Int32} : X xs L d 17 (95, lo, .inl v :: .inr (some o) :: sk, h) res ↔ hK h o = 2 ∧ X xs L d 17 (98, lo, sk, sI h o 2 v) res := i_putI k_17_95
theorem e_17_98 : X xs L d 17 (98, lo, sk, h) res ↔ X xs L d 17 (99, lo, .inl 1 :: sk, h) res := i_iconst k_17_98
theorem e_17_99 {v : Int32} : X xs L d 17 (99, lo, [.inl v], h) res ↔ (v = 0 ∨ v = 1) ∧ res = (some (.inl v), h) := i_zret k_17_99 rfl
theorem e_17_100 {x : Int32} {a0 a1 a3 a4 a5 : Option AV} : X xs L d 17 (100, [a0, a1, some (.inl x), a3, a4, a5], sk, h) res ↔ X xs L d 17 (103, [a0, a1, some (.inl (x + (-1))), a3, a4, a5], sk, h) res := i_iinc k_17_100 rfl rfl
theorem e_17_103 : X xs L d 17 (103, lo, sk, h) res ↔ X xs L d 17 (12, lo, sk, h) res := i_goto k_17_103
theorem e_17_106 {x : Option Nat} {a1 a2 a3 a4 a5 : Option AV} : X xs L d 17 (106, [some (.inr x), a1, a2, a3, a4, a5], sk, h) res ↔ X xs L d 17 (107, [some (.inr x), a1, a2, a3, a4, a5], .inr x :: sk, h) res := i_aload_n k_17_106 rfl
theorem e_17_107 : X xs L d 17 (107, lo, sk, h) res ↔ X xs L d 17 (108, lo, .inl 0 :: sk, h) res := i_iconst k_17_107
theorem e_17_108 {o : Nat} {v : Int32} : X xs L d 17 (108, lo, .inl v :: .inr (some o) :: sk, h) res ↔ hK h o = 3 ∧ X xs L d 17 (111, lo, sk, sI h o 6 v) res := i_putI k_17_108
theorem e_17_111 {x : Option Nat} {a1 a2 a3 a4 a5 : Option AV} : X xs L d 17 (111, [some (.inr x), a1, a2, a3, a4, a5], sk, h) res ↔ X xs L d 17 (112, [some (.inr x), a1, a2, a3, a4, a5], .inr x :: sk, h) res := i_aload_n k_17_111 rfl
theorem e_17_112 : X xs L d 17 (112, lo, sk, h) res ↔ X xs L d 17 (113, lo, .inl 3 :: sk, h) res := i_iconst k_17_112
theorem e_17_113 {o : Nat} {v : Int32} : X xs L d 17 (113, lo, .inl v :: .inr (some o) :: sk, h) res ↔ hK h o = 3 ∧ X xs L d 17 (116, lo, sk, sI h o 4 v) res := i_putI k_17_113
theorem e_17_116 {x : Option Nat} {a1 a2 a3 a4 a5 : Option AV} : X xs L d 17 (116, [some (.inr x), a1, a2, a3, a4, a5], sk, h) res ↔ X xs L d 17 (117, [some (.inr x), a1, a2, a3, a4, a5], .inr x :: sk, h) res := i_aload_n k_17_116 rfl
theorem e_17_117 {x : Int32} {a0 a2 a3 a4 a5 : Option AV} : X xs L d 17 (117, [a0, some (.inl x), a2, a3, a4, a5], sk, h) res ↔ X xs L d 17 (118, [a0, some (.inl x), a2, a3, a4, a5], .inl x :: sk, h) res := i_iload_n k_17_117 rfl
theorem e_17_118 {o : Nat} {v : Int32} : X xs L d 17 (118, lo, .inl v :: .inr (some o) :: sk, h) res ↔ hK h o = 3 ∧ X xs L d 17 (121, lo, sk, sI h o 5 v) res := i_putI k_17_118
theorem e_17_121 : X xs L d 17 (121, lo, sk, h) res ↔ X xs L d 17 (122, lo, .inl 0 :: sk, h) res := i_iconst k_17_121
theorem e_17_122 {v : Int32} : X xs L d 17 (122, lo, [.inl v], h) res ↔ (v = 0 ∨ v = 1) ∧ res = (some (.inl v), h) := i_zret k_17_122 rfl
theorem k_18_0 : am_cd 18 0 = some (.aload_n 0, 1, [], [])   := rfl
theorem k_18_1 : am_cd 18 1 = some (.getfield 39, 3, [3, 7, 0], [(0, 198)])   := rfl
theorem k_18_4 : am_cd 18 4 = some (.bipush 120, 2, [], [(120, 0)])   := rfl
theorem k_18_6 : am_cd 18 6 = some (.if_icmp .ge 23, 3, [29], [])   := rfl
theorem k_18_9 : am_cd 18 9 = some (.aload_n 0, 1, [], [])   := rfl
theorem k_18_10 : am_cd 18 10 = some (.getfield 18, 3, [3, 1, 2], [(0, 188)])   := rfl
theorem k_18_13 : am_cd 18 13 = some (.aload_n 0, 1, [], [])   := rfl
theorem k_18_14 : am_cd 18 14 = some (.getfield 39, 3, [3, 7, 0], [(0, 198)])   := rfl
theorem k_18_17 : am_cd 18 17 = some (.iload_n 1, 1, [], [])   := rfl
theorem k_18_18 : am_cd 18 18 = some (.iastore, 1, [], [])   := rfl
theorem k_18_19 : am_cd 18 19 = some (.aload_n 0, 1, [], [])   := rfl
theorem k_18_20 : am_cd 18 20 = some (.dup, 1, [], [])   := rfl
theorem k_18_21 : am_cd 18 21 = some (.getfield 39, 3, [3, 7, 0], [(0, 198)])   := rfl
theorem k_18_24 : am_cd 18 24 = some (.iconst 1, 1, [], [(1, 0)])   := rfl
theorem k_18_25 : am_cd 18 25 = some (.iadd, 1, [], [])   := rfl
theorem k_18_26 : am_cd 18 26 = some (.putfield 39, 3, [3, 7, 0], [(0, 198)])   := rfl
theorem k_18_29 : am_cd 18 29 = some (.return_, 1, [], [])   := rfl
theorem e_18_0 {x : Option Nat} {a1 : Option AV} : X xs L d 18 (0, [some (.inr x), a1], sk, h) res ↔ X xs L d 18 (1, [some (.inr x), a1], .inr x :: sk, h) res := i_aload_n k_18_0 rfl
theorem e_18_1 {o : Nat} : X xs L d 18 (1, lo, .inr (some o) :: sk, h) res ↔ hK h o = 3 ∧ X xs L d 18 (4, lo, .inl (hI h o 7) :: sk, h) res := i_getI k_18_1
theorem e_18_4 : X xs L d 18 (4, lo, sk, h) res ↔ X xs L d 18 (6, lo, .inl 120 :: sk, h) res := i_bipush k_18_4
theorem e_18_6 {x y : Int32} : X xs L d 18 (6, lo, .inl y :: .inl x :: sk, h) res ↔ (if y ≤ x then X xs L d 18 (29, lo, sk, h) res else X xs L d 18 (9, lo, sk, h) res) := i_icmp_ge k_18_6
theorem e_18_9 {x : Option Nat} {a1 : Option AV} : X xs L d 18 (9, [some (.inr x), a1], sk, h) res ↔ X xs L d 18 (10, [some (.inr x), a1], .inr x :: sk, h) res := i_aload_n k_18_9 rfl
theorem e_18_10 {o : Nat} : X xs L d 18 (10, lo, .inr (some o) :: sk, h) res ↔ hK h o = 3 ∧ X xs L d 18 (13, lo, .inr (hR h o 1) :: sk, h) res := i_getR k_18_10
theorem e_18_13 {x : Option Nat} {a1 : Option AV} : X xs L d 18 (13, [some (.inr x), a1], sk, h) res ↔ X xs L d 18 (14, [some (.inr x), a1], .inr x :: sk, h) res := i_aload_n k_18_13 rfl
theorem e_18_14 {o : Nat} : X xs L d 18 (14, lo, .inr (some o) :: sk, h) res ↔ hK h o = 3 ∧ X xs L d 18 (17, lo, .inl (hI h o 7) :: sk, h) res := i_getI k_18_14
theorem e_18_17 {x : Int32} {a0 : Option AV} : X xs L d 18 (17, [a0, some (.inl x)], sk, h) res ↔ X xs L d 18 (18, [a0, some (.inl x)], .inl x :: sk, h) res := i_iload_n k_18_17 rfl
theorem e_18_18 {o : Nat} {i v : Int32} : X xs L d 18 (18, lo, .inl v :: .inl i :: .inr (some o) :: sk, h) res ↔ (hK h o = 20 ∧ vp_in i (hL h o)) ∧ X xs L d 18 (19, lo, sk, sI h o i.toNatClampNeg (v)) res := i_iastore k_18_18
theorem e_18_19 {x : Option Nat} {a1 : Option AV} : X xs L d 18 (19, [some (.inr x), a1], sk, h) res ↔ X xs L d 18 (20, [some (.inr x), a1], .inr x :: sk, h) res := i_aload_n k_18_19 rfl
theorem e_18_20 {v : AV} : X xs L d 18 (20, lo, v :: sk, h) res ↔ X xs L d 18 (21, lo, v :: v :: sk, h) res := i_dup k_18_20
theorem e_18_21 {o : Nat} : X xs L d 18 (21, lo, .inr (some o) :: sk, h) res ↔ hK h o = 3 ∧ X xs L d 18 (24, lo, .inl (hI h o 7) :: sk, h) res := i_getI k_18_21
theorem e_18_24 : X xs L d 18 (24, lo, sk, h) res ↔ X xs L d 18 (25, lo, .inl 1 :: sk, h) res := i_iconst k_18_24
theorem e_18_25 {x y : Int32} : X xs L d 18 (25, lo, .inl y :: .inl x :: sk, h) res ↔ X xs L d 18 (26, lo, .inl (x + y) :: sk, h) res := i_iadd k_18_25
theorem e_18_26 {o : Nat} {v : Int32} : X xs L d 18 (26, lo, .inl v :: .inr (some o) :: sk, h) res ↔ hK h o = 3 ∧ X xs L d 18 (29, lo, sk, sI h o 7 v) res := i_putI k_18_26
theorem e_18_29 : X xs L d 18 (29, lo, [], h) res ↔ res = (none, h) := i_vret k_18_29 rfl
theorem k_19_0 : am_cd 19 0 = some (.aload_n 0, 1, [], [])   := rfl
theorem k_19_1 : am_cd 19 1 = some (.getfield 39, 3, [3, 7, 0], [(0, 198)])   := rfl
theorem k_19_4 : am_cd 19 4 = some (.ifCond .gt 5, 3, [9], [])   := rfl
theorem k_19_7 : am_cd 19 7 = some (.iconst 0, 1, [], [(0, 0)])   := rfl
theorem k_19_8 : am_cd 19 8 = some (.ireturn, 1, [], [])   := rfl
theorem k_19_9 : am_cd 19 9 = some (.aload_n 0, 1, [], [])   := rfl
theorem k_19_10 : am_cd 19 10 = some (.dup, 1, [], [])   := rfl
theorem k_19_11 : am_cd 19 11 = some (.getfield 39, 3, [3, 7, 0], [(0, 198)])   := rfl
theorem k_19_14 : am_cd 19 14 = some (.iconst 1, 1, [], [(1, 0)])   := rfl
theorem k_19_15 : am_cd 19 15 = some (.isub, 1, [], [])   := rfl
theorem k_19_16 : am_cd 19 16 = some (.putfield 39, 3, [3, 7, 0], [(0, 198)])   := rfl
theorem k_19_19 : am_cd 19 19 = some (.aload_n 0, 1, [], [])   := rfl
theorem k_19_20 : am_cd 19 20 = some (.getfield 18, 3, [3, 1, 2], [(0, 188)])   := rfl
theorem k_19_23 : am_cd 19 23 = some (.aload_n 0, 1, [], [])   := rfl
theorem k_19_24 : am_cd 19 24 = some (.getfield 39, 3, [3, 7, 0], [(0, 198)])   := rfl
theorem k_19_27 : am_cd 19 27 = some (.iaload, 1, [], [])   := rfl
theorem k_19_28 : am_cd 19 28 = some (.ireturn, 1, [], [])   := rfl
theorem e_19_0 {x : Option Nat} : X xs L d 19 (0, [some (.inr x)], sk, h) res ↔ X xs L d 19 (1, [some (.inr x)], .inr x :: sk, h) res := i_aload_n k_19_0 rfl
theorem e_19_1 {o : Nat} : X xs L d 19 (1, lo, .inr (some o) :: sk, h) res ↔ hK h o = 3 ∧ X xs L d 19 (4, lo, .inl (hI h o 7) :: sk, h) res := i_getI k_19_1
theorem e_19_4 {x : Int32} : X xs L d 19 (4, lo, .inl x :: sk, h) res ↔ (if 0 < x then X xs L d 19 (9, lo, sk, h) res else X xs L d 19 (7, lo, sk, h) res) := i_if_gt k_19_4
theorem e_19_7 : X xs L d 19 (7, lo, sk, h) res ↔ X xs L d 19 (8, lo, .inl 0 :: sk, h) res := i_iconst k_19_7
theorem e_19_8 {v : Int32} : X xs L d 19 (8, lo, [.inl v], h) res ↔ res = (some (.inl v), h) := i_iret k_19_8 rfl
theorem e_19_9 {x : Option Nat} : X xs L d 19 (9, [some (.inr x)], sk, h) res ↔ X xs L d 19 (10, [some (.inr x)], .inr x :: sk, h) res := i_aload_n k_19_9 rfl
theorem e_19_10 {v : AV} : X xs L d 19 (10, lo, v :: sk, h) res ↔ X xs L d 19 (11, lo, v :: v :: sk, h) res := i_dup k_19_10
theorem e_19_11 {o : Nat} : X xs L d 19 (11, lo, .inr (some o) :: sk, h) res ↔ hK h o = 3 ∧ X xs L d 19 (14, lo, .inl (hI h o 7) :: sk, h) res := i_getI k_19_11
theorem e_19_14 : X xs L d 19 (14, lo, sk, h) res ↔ X xs L d 19 (15, lo, .inl 1 :: sk, h) res := i_iconst k_19_14
theorem e_19_15 {x y : Int32} : X xs L d 19 (15, lo, .inl y :: .inl x :: sk, h) res ↔ X xs L d 19 (16, lo, .inl (x - y) :: sk, h) res := i_isub k_19_15
theorem e_19_16 {o : Nat} {v : Int32} : X xs L d 19 (16, lo, .inl v :: .inr (some o) :: sk, h) res ↔ hK h o = 3 ∧ X xs L d 19 (19, lo, sk, sI h o 7 v) res := i_putI k_19_16
theorem e_19_19 {x : Option Nat} : X xs L d 19 (19, [some (.inr x)], sk, h) res ↔ X xs L d 19 (20, [some (.inr x)], .inr x :: sk, h) res := i_aload_n k_19_19 rfl
theorem e_19_20 {o : Nat} : X xs L d 19 (20, lo, .inr (some o) :: sk, h) res ↔ hK h o = 3 ∧ X xs L d 19 (23, lo, .inr (hR h o 1) :: sk, h) res := i_getR k_19_20
theorem e_19_23 {x : Option Nat} : X xs L d 19 (23, [some (.inr x)], sk, h) res ↔ X xs L d 19 (24, [some (.inr x)], .inr x :: sk, h) res := i_aload_n k_19_23 rfl
theorem e_19_24 {o : Nat} : X xs L d 19 (24, lo, .inr (some o) :: sk, h) res ↔ hK h o = 3 ∧ X xs L d 19 (27, lo, .inl (hI h o 7) :: sk, h) res := i_getI k_19_24
theorem e_19_27 {o : Nat} {i : Int32} : X xs L d 19 (27, lo, .inl i :: .inr (some o) :: sk, h) res ↔ (hK h o = 20 ∧ vp_in i (hL h o)) ∧ X xs L d 19 (28, lo, .inl (hI h o i.toNatClampNeg) :: sk, h) res := i_iaload k_19_27
theorem e_19_28 {v : Int32} : X xs L d 19 (28, lo, [.inl v], h) res ↔ res = (some (.inl v), h) := i_iret k_19_28 rfl
theorem k_20_0 : am_cd 20 0 = some (.aload_n 0, 1, [], [])   := rfl
theorem k_20_1 : am_cd 20 1 = some (.invokespecial 3, 3, [], [(0, 477), (0, 80)])   := rfl
theorem k_20_4 : am_cd 20 4 = some (.aload_n 0, 1, [], [])   := rfl
theorem k_20_5 : am_cd 20 5 = some (.aload_n 1, 1, [], [])   := rfl
theorem k_20_6 : am_cd 20 6 = some (.putfield 9, 3, [4, 0, 2], [(0, 479)])   := rfl
theorem k_20_9 : am_cd 20 9 = some (.aload_n 0, 1, [], [])   := rfl
theorem k_20_10 : am_cd 20 10 = some (.aload_n 2, 1, [], [])   := rfl
theorem k_20_11 : am_cd 20 11 = some (.iconst 4, 1, [], [(4, 0)])   := rfl
theorem k_20_12 : am_cd 20 12 = some (.invokestatic 15, 3, [128, 2], [(0, 478), (0, 446)])   := rfl
theorem k_20_15 : am_cd 20 15 = some (.putfield 21, 3, [4, 1, 2], [(0, 481)])   := rfl
theorem k_20_18 : am_cd 20 18 = some (.aload_n 0, 1, [], [])   := rfl
theorem k_20_19 : am_cd 20 19 = some (.aload_n 3, 1, [], [])   := rfl
theorem k_20_20 : am_cd 20 20 = some (.iconst 4, 1, [], [(4, 0)])   := rfl
theorem k_20_21 : am_cd 20 21 = some (.invokestatic 15, 3, [128, 2], [(0, 478), (0, 446)])   := rfl
theorem k_20_24 : am_cd 20 24 = some (.putfield 25, 3, [4, 2, 2], [(0, 483)])   := rfl
theorem k_20_27 : am_cd 20 27 = some (.aload_n 0, 1, [], [])   := rfl
theorem k_20_28 : am_cd 20 28 = some (.iload 4, 2, [], [])   := rfl
theorem k_20_30 : am_cd 20 30 = some (.putfield 28, 3, [4, 3, 0], [(0, 486)])   := rfl
theorem k_20_33 : am_cd 20 33 = some (.return_, 1, [], [])   := rfl
theorem e_20_0 {x : Option Nat} {a1 a2 a3 a4 : Option AV} : X xs L d 20 (0, [some (.inr x), a1, a2, a3, a4], sk, h) res ↔ X xs L d 20 (1, [some (.inr x), a1, a2, a3, a4], .inr x :: sk, h) res := i_aload_n k_20_0 rfl
theorem e_20_1 {o : Nat} : X xs L d 20 (1, lo, .inr (some o) :: sk, h) res ↔ sk.length ≤ 8 ∧ X xs L d 20 (4, lo, sk, h) res := i_obj k_20_1
theorem e_20_4 {x : Option Nat} {a1 a2 a3 a4 : Option AV} : X xs L d 20 (4, [some (.inr x), a1, a2, a3, a4], sk, h) res ↔ X xs L d 20 (5, [some (.inr x), a1, a2, a3, a4], .inr x :: sk, h) res := i_aload_n k_20_4 rfl
theorem e_20_5 {x : Option Nat} {a0 a2 a3 a4 : Option AV} : X xs L d 20 (5, [a0, some (.inr x), a2, a3, a4], sk, h) res ↔ X xs L d 20 (6, [a0, some (.inr x), a2, a3, a4], .inr x :: sk, h) res := i_aload_n k_20_5 rfl
theorem e_20_6 {o : Nat} {v : Option Nat} : X xs L d 20 (6, lo, .inr v :: .inr (some o) :: sk, h) res ↔ hK h o = 4 ∧ X xs L d 20 (9, lo, sk, sR h o 0 v) res := i_putR k_20_6
theorem e_20_9 {x : Option Nat} {a1 a2 a3 a4 : Option AV} : X xs L d 20 (9, [some (.inr x), a1, a2, a3, a4], sk, h) res ↔ X xs L d 20 (10, [some (.inr x), a1, a2, a3, a4], .inr x :: sk, h) res := i_aload_n k_20_9 rfl
theorem e_20_10 {x : Option Nat} {a0 a1 a3 a4 : Option AV} : X xs L d 20 (10, [a0, a1, some (.inr x), a3, a4], sk, h) res ↔ X xs L d 20 (11, [a0, a1, some (.inr x), a3, a4], .inr x :: sk, h) res := i_aload_n k_20_10 rfl
theorem e_20_11 : X xs L d 20 (11, lo, sk, h) res ↔ X xs L d 20 (12, lo, .inl 4 :: sk, h) res := i_iconst k_20_11
theorem e_20_12 {v0 : Option Nat} {v1 : Int32} (hs : sk.length ≤ 8) : X xs L d 20 (12, lo, .inl v1 :: .inr v0 :: sk, h) res ↔ ∃ q : Res, Rn xs L d 128 [.inr v0, .inl v1] h q ∧ X xs L d 20 (15, lo, q.1.toList ++ sk, q.2) res := i_callS k_20_12 ⟨Nat.le_add_left 2 sk.length, Nat.le_trans (Nat.add_le_add_right hs 2) (Nat.le_of_eq (Nat.add_comm 8 2))⟩
theorem e_20_15 {o : Nat} {v : Option Nat} : X xs L d 20 (15, lo, .inr v :: .inr (some o) :: sk, h) res ↔ hK h o = 4 ∧ X xs L d 20 (18, lo, sk, sR h o 1 v) res := i_putR k_20_15
theorem e_20_18 {x : Option Nat} {a1 a2 a3 a4 : Option AV} : X xs L d 20 (18, [some (.inr x), a1, a2, a3, a4], sk, h) res ↔ X xs L d 20 (19, [some (.inr x), a1, a2, a3, a4], .inr x :: sk, h) res := i_aload_n k_20_18 rfl
theorem e_20_19 {x : Option Nat} {a0 a1 a2 a4 : Option AV} : X xs L d 20 (19, [a0, a1, a2, some (.inr x), a4], sk, h) res ↔ X xs L d 20 (20, [a0, a1, a2, some (.inr x), a4], .inr x :: sk, h) res := i_aload_n k_20_19 rfl
theorem e_20_20 : X xs L d 20 (20, lo, sk, h) res ↔ X xs L d 20 (21, lo, .inl 4 :: sk, h) res := i_iconst k_20_20
theorem e_20_21 {v0 : Option Nat} {v1 : Int32} (hs : sk.length ≤ 8) : X xs L d 20 (21, lo, .inl v1 :: .inr v0 :: sk, h) res ↔ ∃ q : Res, Rn xs L d 128 [.inr v0, .inl v1] h q ∧ X xs L d 20 (24, lo, q.1.toList ++ sk, q.2) res := i_callS k_20_21 ⟨Nat.le_add_left 2 sk.length, Nat.le_trans (Nat.add_le_add_right hs 2) (Nat.le_of_eq (Nat.add_comm 8 2))⟩
theorem e_20_24 {o : Nat} {v : Option Nat} : X xs L d 20 (24, lo, .inr v :: .inr (some o) :: sk, h) res ↔ hK h o = 4 ∧ X xs L d 20 (27, lo, sk, sR h o 2 v) res := i_putR k_20_24
theorem e_20_27 {x : Option Nat} {a1 a2 a3 a4 : Option AV} : X xs L d 20 (27, [some (.inr x), a1, a2, a3, a4], sk, h) res ↔ X xs L d 20 (28, [some (.inr x), a1, a2, a3, a4], .inr x :: sk, h) res := i_aload_n k_20_27 rfl
theorem e_20_28 {x : Int32} {a0 a1 a2 a3 : Option AV} : X xs L d 20 (28, [a0, a1, a2, a3, some (.inl x)], sk, h) res ↔ X xs L d 20 (30, [a0, a1, a2, a3, some (.inl x)], .inl x :: sk, h) res := i_iload k_20_28 rfl
theorem e_20_30 {o : Nat} {v : Int32} : X xs L d 20 (30, lo, .inl v :: .inr (some o) :: sk, h) res ↔ hK h o = 4 ∧ X xs L d 20 (33, lo, sk, sI h o 3 v) res := i_putI k_20_30
theorem e_20_33 : X xs L d 20 (33, lo, [], h) res ↔ res = (none, h) := i_vret k_20_33 rfl
theorem k_21_0 : am_cd 21 0 = some (.aload_n 0, 1, [], [])   := rfl
theorem k_21_1 : am_cd 21 1 = some (.invokespecial 3, 3, [], [(0, 179), (0, 80)])   := rfl
theorem k_21_4 : am_cd 21 4 = some (.aload_n 0, 1, [], [])   := rfl
theorem k_21_5 : am_cd 21 5 = some (.bipush 16, 2, [], [(16, 0)])   := rfl
theorem k_21_7 : am_cd 21 7 = some (.newarray .int, 2, [20], [(0, 136)])   := rfl
theorem k_21_9 : am_cd 21 9 = some (.putfield 9, 3, [5, 0, 2], [(0, 180)])   := rfl
theorem k_21_12 : am_cd 21 12 = some (.return_, 1, [], [])   := rfl
theorem e_21_0 {x : Option Nat} : X xs L d 21 (0, [some (.inr x)], sk, h) res ↔ X xs L d 21 (1, [some (.inr x)], .inr x :: sk, h) res := i_aload_n k_21_0 rfl
theorem e_21_1 {o : Nat} : X xs L d 21 (1, lo, .inr (some o) :: sk, h) res ↔ sk.length ≤ 8 ∧ X xs L d 21 (4, lo, sk, h) res := i_obj k_21_1
theorem e_21_4 {x : Option Nat} : X xs L d 21 (4, [some (.inr x)], sk, h) res ↔ X xs L d 21 (5, [some (.inr x)], .inr x :: sk, h) res := i_aload_n k_21_4 rfl
theorem e_21_5 : X xs L d 21 (5, lo, sk, h) res ↔ X xs L d 21 (7, lo, .inl 16 :: sk, h) res := i_bipush k_21_5
theorem e_21_7 {i : Int32} : X xs L d 21 (7, lo, .inl i :: sk, h) res ↔ (¬ i < 0 ∧ i.toNatClampNeg ≤ 100000) ∧ X xs L d 21 (9, lo, .inr (some (hN h)) :: sk, nw h 20 i.toNatClampNeg i.toNatClampNeg) res := i_newarray k_21_7
theorem e_21_9 {o : Nat} {v : Option Nat} : X xs L d 21 (9, lo, .inr v :: .inr (some o) :: sk, h) res ↔ hK h o = 5 ∧ X xs L d 21 (12, lo, sk, sR h o 0 v) res := i_putR k_21_9
theorem e_21_12 : X xs L d 21 (12, lo, [], h) res ↔ res = (none, h) := i_vret k_21_12 rfl
theorem k_22_0 : am_cd 22 0 = some (.aload_n 0, 1, [], [])   := rfl
theorem k_22_1 : am_cd 22 1 = some (.getfield 9, 3, [5, 0, 2], [(0, 180)])   := rfl
theorem k_22_4 : am_cd 22 4 = some (.aload_n 0, 1, [], [])   := rfl
theorem k_22_5 : am_cd 22 5 = some (.getfield 15, 3, [5, 1, 0], [(0, 181)])   := rfl
theorem k_22_8 : am_cd 22 8 = some (.bipush 15, 2, [], [(15, 0)])   := rfl
theorem k_22_10 : am_cd 22 10 = some (.iand, 1, [], [])   := rfl
theorem k_22_11 : am_cd 22 11 = some (.iload_n 1, 1, [], [])   := rfl
theorem k_22_12 : am_cd 22 12 = some (.iastore, 1, [], [])   := rfl
theorem k_22_13 : am_cd 22 13 = some (.aload_n 0, 1, [], [])   := rfl
theorem k_22_14 : am_cd 22 14 = some (.dup, 1, [], [])   := rfl
theorem k_22_15 : am_cd 22 15 = some (.getfield 15, 3, [5, 1, 0], [(0, 181)])   := rfl
theorem k_22_18 : am_cd 22 18 = some (.iconst 1, 1, [], [(1, 0)])   := rfl
theorem k_22_19 : am_cd 22 19 = some (.iadd, 1, [], [])   := rfl
theorem k_22_20 : am_cd 22 20 = some (.putfield 15, 3, [5, 1, 0], [(0, 181)])   := rfl
theorem k_22_23 : am_cd 22 23 = some (.return_, 1, [], [])   := rfl
theorem e_22_0 {x : Option Nat} {a1 : Option AV} : X xs L d 22 (0, [some (.inr x), a1], sk, h) res ↔ X xs L d 22 (1, [some (.inr x), a1], .inr x :: sk, h) res := i_aload_n k_22_0 rfl
theorem e_22_1 {o : Nat} : X xs L d 22 (1, lo, .inr (some o) :: sk, h) res ↔ hK h o = 5 ∧ X xs L d 22 (4, lo, .inr (hR h o 0) :: sk, h) res := i_getR k_22_1
theorem e_22_4 {x : Option Nat} {a1 : Option AV} : X xs L d 22 (4, [some (.inr x), a1], sk, h) res ↔ X xs L d 22 (5, [some (.inr x), a1], .inr x :: sk, h) res := i_aload_n k_22_4 rfl
theorem e_22_5 {o : Nat} : X xs L d 22 (5, lo, .inr (some o) :: sk, h) res ↔ hK h o = 5 ∧ X xs L d 22 (8, lo, .inl (hI h o 1) :: sk, h) res := i_getI k_22_5
theorem e_22_8 : X xs L d 22 (8, lo, sk, h) res ↔ X xs L d 22 (10, lo, .inl 15 :: sk, h) res := i_bipush k_22_8
theorem e_22_10 {x y : Int32} : X xs L d 22 (10, lo, .inl y :: .inl x :: sk, h) res ↔ X xs L d 22 (11, lo, .inl (x &&& y) :: sk, h) res := i_iand k_22_10
theorem e_22_11 {x : Int32} {a0 : Option AV} : X xs L d 22 (11, [a0, some (.inl x)], sk, h) res ↔ X xs L d 22 (12, [a0, some (.inl x)], .inl x :: sk, h) res := i_iload_n k_22_11 rfl
theorem e_22_12 {o : Nat} {i v : Int32} : X xs L d 22 (12, lo, .inl v :: .inl i :: .inr (some o) :: sk, h) res ↔ (hK h o = 20 ∧ vp_in i (hL h o)) ∧ X xs L d 22 (13, lo, sk, sI h o i.toNatClampNeg (v)) res := i_iastore k_22_12
theorem e_22_13 {x : Option Nat} {a1 : Option AV} : X xs L d 22 (13, [some (.inr x), a1], sk, h) res ↔ X xs L d 22 (14, [some (.inr x), a1], .inr x :: sk, h) res := i_aload_n k_22_13 rfl
theorem e_22_14 {v : AV} : X xs L d 22 (14, lo, v :: sk, h) res ↔ X xs L d 22 (15, lo, v :: v :: sk, h) res := i_dup k_22_14
theorem e_22_15 {o : Nat} : X xs L d 22 (15, lo, .inr (some o) :: sk, h) res ↔ hK h o = 5 ∧ X xs L d 22 (18, lo, .inl (hI h o 1) :: sk, h) res := i_getI k_22_15
theorem e_22_18 : X xs L d 22 (18, lo, sk, h) res ↔ X xs L d 22 (19, lo, .inl 1 :: sk, h) res := i_iconst k_22_18
theorem e_22_19 {x y : Int32} : X xs L d 22 (19, lo, .inl y :: .inl x :: sk, h) res ↔ X xs L d 22 (20, lo, .inl (x + y) :: sk, h) res := i_iadd k_22_19
theorem e_22_20 {o : Nat} {v : Int32} : X xs L d 22 (20, lo, .inl v :: .inr (some o) :: sk, h) res ↔ hK h o = 5 ∧ X xs L d 22 (23, lo, sk, sI h o 1 v) res := i_putI k_22_20
theorem e_22_23 : X xs L d 22 (23, lo, [], h) res ↔ res = (none, h) := i_vret k_22_23 rfl
theorem k_23_0 : am_cd 23 0 = some (.aload_n 0, 1, [], [])   := rfl
theorem k_23_1 : am_cd 23 1 = some (.iconst 0, 1, [], [(0, 0)])   := rfl
theorem k_23_2 : am_cd 23 2 = some (.putfield 15, 3, [5, 1, 0], [(0, 181)])   := rfl
theorem k_23_5 : am_cd 23 5 = some (.return_, 1, [], [])   := rfl
theorem e_23_0 {x : Option Nat} : X xs L d 23 (0, [some (.inr x)], sk, h) res ↔ X xs L d 23 (1, [some (.inr x)], .inr x :: sk, h) res := i_aload_n k_23_0 rfl
theorem e_23_1 : X xs L d 23 (1, lo, sk, h) res ↔ X xs L d 23 (2, lo, .inl 0 :: sk, h) res := i_iconst k_23_1
theorem e_23_2 {o : Nat} {v : Int32} : X xs L d 23 (2, lo, .inl v :: .inr (some o) :: sk, h) res ↔ hK h o = 5 ∧ X xs L d 23 (5, lo, sk, sI h o 1 v) res := i_putI k_23_2
theorem e_23_5 : X xs L d 23 (5, lo, [], h) res ↔ res = (none, h) := i_vret k_23_5 rfl
theorem k_24_0 : am_cd 24 0 = some (.iload_n 1, 1, [], [])   := rfl
theorem k_24_1 : am_cd 24 1 = some (.iconst (-1), 1, [], [(-1, 0)])   := rfl
theorem k_24_2 : am_cd 24 2 = some (.if_icmp .ne 8, 3, [10], [])   := rfl
theorem k_24_5 : am_cd 24 5 = some (.aload_n 0, 1, [], [])   := rfl
theorem k_24_6 : am_cd 24 6 = some (.getfield 15, 3, [5, 1, 0], [(0, 181)])   := rfl
theorem k_24_9 : am_cd 24 9 = some (.ireturn, 1, [], [])   := rfl
theorem k_24_10 : am_cd 24 10 = some (.iload_n 1, 1, [], [])   := rfl
theorem k_24_11 : am_cd 24 11 = some (.ifCond .lt 17, 3, [28], [])   := rfl
theorem k_24_14 : am_cd 24 14 = some (.iload_n 1, 1, [], [])   := rfl
theorem k_24_15 : am_cd 24 15 = some (.bipush 16, 2, [], [(16, 0)])   := rfl
theorem k_24_17 : am_cd 24 17 = some (.if_icmp .ge 11, 3, [28], [])   := rfl
theorem k_24_20 : am_cd 24 20 = some (.iload_n 1, 1, [], [])   := rfl
theorem k_24_21 : am_cd 24 21 = some (.aload_n 0, 1, [], [])   := rfl
theorem k_24_22 : am_cd 24 22 = some (.getfield 15, 3, [5, 1, 0], [(0, 181)])   := rfl
theorem k_24_25 : am_cd 24 25 = some (.if_icmp .lt 5, 3, [30], [])   := rfl
theorem k_24_28 : am_cd 24 28 = some (.iconst 0, 1, [], [(0, 0)])   := rfl
theorem k_24_29 : am_cd 24 29 = some (.ireturn, 1, [], [])   := rfl
theorem k_24_30 : am_cd 24 30 = some (.aload_n 0, 1, [], [])   := rfl
theorem k_24_31 : am_cd 24 31 = some (.getfield 9, 3, [5, 0, 2], [(0, 180)])   := rfl
theorem k_24_34 : am_cd 24 34 = some (.aload_n 0, 1, [], [])   := rfl
theorem k_24_35 : am_cd 24 35 = some (.getfield 15, 3, [5, 1, 0], [(0, 181)])   := rfl
theorem k_24_38 : am_cd 24 38 = some (.iconst 1, 1, [], [(1, 0)])   := rfl
theorem k_24_39 : am_cd 24 39 = some (.isub, 1, [], [])   := rfl
theorem k_24_40 : am_cd 24 40 = some (.iload_n 1, 1, [], [])   := rfl
theorem k_24_41 : am_cd 24 41 = some (.isub, 1, [], [])   := rfl
theorem k_24_42 : am_cd 24 42 = some (.bipush 15, 2, [], [(15, 0)])   := rfl
theorem k_24_44 : am_cd 24 44 = some (.iand, 1, [], [])   := rfl
theorem k_24_45 : am_cd 24 45 = some (.iaload, 1, [], [])   := rfl
theorem k_24_46 : am_cd 24 46 = some (.ireturn, 1, [], [])   := rfl
theorem e_24_0 {x : Int32} {a0 : Option AV} : X xs L d 24 (0, [a0, some (.inl x)], sk, h) res ↔ X xs L d 24 (1, [a0, some (.inl x)], .inl x :: sk, h) res := i_iload_n k_24_0 rfl
theorem e_24_1 : X xs L d 24 (1, lo, sk, h) res ↔ X xs L d 24 (2, lo, .inl (-1) :: sk, h) res := i_iconst k_24_1
theorem e_24_2 {x y : Int32} : X xs L d 24 (2, lo, .inl y :: .inl x :: sk, h) res ↔ (if x = y then X xs L d 24 (5, lo, sk, h) res else X xs L d 24 (10, lo, sk, h) res) := i_icmp_ne k_24_2
theorem e_24_5 {x : Option Nat} {a1 : Option AV} : X xs L d 24 (5, [some (.inr x), a1], sk, h) res ↔ X xs L d 24 (6, [some (.inr x), a1], .inr x :: sk, h) res := i_aload_n k_24_5 rfl
theorem e_24_6 {o : Nat} : X xs L d 24 (6, lo, .inr (some o) :: sk, h) res ↔ hK h o = 5 ∧ X xs L d 24 (9, lo, .inl (hI h o 1) :: sk, h) res := i_getI k_24_6
theorem e_24_9 {v : Int32} : X xs L d 24 (9, lo, [.inl v], h) res ↔ res = (some (.inl v), h) := i_iret k_24_9 rfl
theorem e_24_10 {x : Int32} {a0 : Option AV} : X xs L d 24 (10, [a0, some (.inl x)], sk, h) res ↔ X xs L d 24 (11, [a0, some (.inl x)], .inl x :: sk, h) res := i_iload_n k_24_10 rfl
theorem e_24_11 {x : Int32} : X xs L d 24 (11, lo, .inl x :: sk, h) res ↔ (if x < 0 then X xs L d 24 (28, lo, sk, h) res else X xs L d 24 (14, lo, sk, h) res) := i_if_lt k_24_11
theorem e_24_14 {x : Int32} {a0 : Option AV} : X xs L d 24 (14, [a0, some (.inl x)], sk, h) res ↔ X xs L d 24 (15, [a0, some (.inl x)], .inl x :: sk, h) res := i_iload_n k_24_14 rfl
theorem e_24_15 : X xs L d 24 (15, lo, sk, h) res ↔ X xs L d 24 (17, lo, .inl 16 :: sk, h) res := i_bipush k_24_15
theorem e_24_17 {x y : Int32} : X xs L d 24 (17, lo, .inl y :: .inl x :: sk, h) res ↔ (if y ≤ x then X xs L d 24 (28, lo, sk, h) res else X xs L d 24 (20, lo, sk, h) res) := i_icmp_ge k_24_17
theorem e_24_20 {x : Int32} {a0 : Option AV} : X xs L d 24 (20, [a0, some (.inl x)], sk, h) res ↔ X xs L d 24 (21, [a0, some (.inl x)], .inl x :: sk, h) res := i_iload_n k_24_20 rfl
theorem e_24_21 {x : Option Nat} {a1 : Option AV} : X xs L d 24 (21, [some (.inr x), a1], sk, h) res ↔ X xs L d 24 (22, [some (.inr x), a1], .inr x :: sk, h) res := i_aload_n k_24_21 rfl
theorem e_24_22 {o : Nat} : X xs L d 24 (22, lo, .inr (some o) :: sk, h) res ↔ hK h o = 5 ∧ X xs L d 24 (25, lo, .inl (hI h o 1) :: sk, h) res := i_getI k_24_22
theorem e_24_25 {x y : Int32} : X xs L d 24 (25, lo, .inl y :: .inl x :: sk, h) res ↔ (if x < y then X xs L d 24 (30, lo, sk, h) res else X xs L d 24 (28, lo, sk, h) res) := i_icmp_lt k_24_25
theorem e_24_28 : X xs L d 24 (28, lo, sk, h) res ↔ X xs L d 24 (29, lo, .inl 0 :: sk, h) res := i_iconst k_24_28
theorem e_24_29 {v : Int32} : X xs L d 24 (29, lo, [.inl v], h) res ↔ res = (some (.inl v), h) := i_iret k_24_29 rfl
theorem e_24_30 {x : Option Nat} {a1 : Option AV} : X xs L d 24 (30, [some (.inr x), a1], sk, h) res ↔ X xs L d 24 (31, [some (.inr x), a1], .inr x :: sk, h) res := i_aload_n k_24_30 rfl
theorem e_24_31 {o : Nat} : X xs L d 24 (31, lo, .inr (some o) :: sk, h) res ↔ hK h o = 5 ∧ X xs L d 24 (34, lo, .inr (hR h o 0) :: sk, h) res := i_getR k_24_31
theorem e_24_34 {x : Option Nat} {a1 : Option AV} : X xs L d 24 (34, [some (.inr x), a1], sk, h) res ↔ X xs L d 24 (35, [some (.inr x), a1], .inr x :: sk, h) res := i_aload_n k_24_34 rfl
theorem e_24_35 {o : Nat} : X xs L d 24 (35, lo, .inr (some o) :: sk, h) res ↔ hK h o = 5 ∧ X xs L d 24 (38, lo, .inl (hI h o 1) :: sk, h) res := i_getI k_24_35
theorem e_24_38 : X xs L d 24 (38, lo, sk, h) res ↔ X xs L d 24 (39, lo, .inl 1 :: sk, h) res := i_iconst k_24_38
theorem e_24_39 {x y : Int32} : X xs L d 24 (39, lo, .inl y :: .inl x :: sk, h) res ↔ X xs L d 24 (40, lo, .inl (x - y) :: sk, h) res := i_isub k_24_39
theorem e_24_40 {x : Int32} {a0 : Option AV} : X xs L d 24 (40, [a0, some (.inl x)], sk, h) res ↔ X xs L d 24 (41, [a0, some (.inl x)], .inl x :: sk, h) res := i_iload_n k_24_40 rfl
theorem e_24_41 {x y : Int32} : X xs L d 24 (41, lo, .inl y :: .inl x :: sk, h) res ↔ X xs L d 24 (42, lo, .inl (x - y) :: sk, h) res := i_isub k_24_41
theorem e_24_42 : X xs L d 24 (42, lo, sk, h) res ↔ X xs L d 24 (44, lo, .inl 15 :: sk, h) res := i_bipush k_24_42
theorem e_24_44 {x y : Int32} : X xs L d 24 (44, lo, .inl y :: .inl x :: sk, h) res ↔ X xs L d 24 (45, lo, .inl (x &&& y) :: sk, h) res := i_iand k_24_44
theorem e_24_45 {o : Nat} {i : Int32} : X xs L d 24 (45, lo, .inl i :: .inr (some o) :: sk, h) res ↔ (hK h o = 20 ∧ vp_in i (hL h o)) ∧ X xs L d 24 (46, lo, .inl (hI h o i.toNatClampNeg) :: sk, h) res := i_iaload k_24_45
theorem e_24_46 {v : Int32} : X xs L d 24 (46, lo, [.inl v], h) res ↔ res = (some (.inl v), h) := i_iret k_24_46 rfl
theorem k_25_0 : am_cd 25 0 = some (.aload_n 0, 1, [], [])   := rfl
theorem k_25_1 : am_cd 25 1 = some (.invokespecial 3, 3, [], [(0, 87), (0, 80)])   := rfl
theorem k_25_4 : am_cd 25 4 = some (.aload_n 0, 1, [], [])   := rfl
theorem k_25_5 : am_cd 25 5 = some (.sipush 150, 3, [], [(150, 0)])   := rfl
theorem k_25_8 : am_cd 25 8 = some (.newarray .char, 2, [21], [(0, 98)])   := rfl
theorem k_25_10 : am_cd 25 10 = some (.putfield 9, 3, [6, 0, 2], [(0, 88)])   := rfl
theorem k_25_13 : am_cd 25 13 = some (.return_, 1, [], [])   := rfl
theorem e_25_0 {x : Option Nat} : X xs L d 25 (0, [some (.inr x)], sk, h) res ↔ X xs L d 25 (1, [some (.inr x)], .inr x :: sk, h) res := i_aload_n k_25_0 rfl
theorem e_25_1 {o : Nat} : X xs L d 25 (1, lo, .inr (some o) :: sk, h) res ↔ sk.length ≤ 8 ∧ X xs L d 25 (4, lo, sk, h) res := i_obj k_25_1
theorem e_25_4 {x : Option Nat} : X xs L d 25 (4, [some (.inr x)], sk, h) res ↔ X xs L d 25 (5, [some (.inr x)], .inr x :: sk, h) res := i_aload_n k_25_4 rfl
theorem e_25_5 : X xs L d 25 (5, lo, sk, h) res ↔ X xs L d 25 (8, lo, .inl 150 :: sk, h) res := i_sipush k_25_5
theorem e_25_8 {i : Int32} : X xs L d 25 (8, lo, .inl i :: sk, h) res ↔ (¬ i < 0 ∧ i.toNatClampNeg ≤ 100000) ∧ X xs L d 25 (10, lo, .inr (some (hN h)) :: sk, nw h 21 i.toNatClampNeg i.toNatClampNeg) res := i_newarray k_25_8
theorem e_25_10 {o : Nat} {v : Option Nat} : X xs L d 25 (10, lo, .inr v :: .inr (some o) :: sk, h) res ↔ hK h o = 6 ∧ X xs L d 25 (13, lo, sk, sR h o 0 v) res := i_putR k_25_10
theorem e_25_13 : X xs L d 25 (13, lo, [], h) res ↔ res = (none, h) := i_vret k_25_13 rfl
theorem k_26_0 : am_cd 26 0 = some (.aload_n 0, 1, [], [])   := rfl
theorem k_26_1 : am_cd 26 1 = some (.getfield 15, 3, [6, 1, 0], [(0, 90)])   := rfl
theorem k_26_4 : am_cd 26 4 = some (.sipush 150, 3, [], [(150, 0)])   := rfl
theorem k_26_7 : am_cd 26 7 = some (.if_icmp .ge 15, 3, [22], [])   := rfl
theorem k_26_10 : am_cd 26 10 = some (.iload_n 1, 1, [], [])   := rfl
theorem k_26_11 : am_cd 26 11 = some (.bipush 32, 2, [], [(32, 0)])   := rfl
theorem k_26_13 : am_cd 26 13 = some (.if_icmp .lt 9, 3, [22], [])   := rfl
theorem k_26_16 : am_cd 26 16 = some (.iload_n 1, 1, [], [])   := rfl
theorem k_26_17 : am_cd 26 17 = some (.bipush 126, 2, [], [(126, 0)])   := rfl
theorem k_26_19 : am_cd 26 19 = some (.if_icmp .le 5, 3, [24], [])   := rfl
theorem k_26_22 : am_cd 26 22 = some (.iconst 0, 1, [], [(0, 0)])   := rfl
theorem k_26_23 : am_cd 26 23 = some (.ireturn, 1, [], [])   := rfl
theorem k_26_24 : am_cd 26 24 = some (.aload_n 0, 1, [], [])   := rfl
theorem k_26_25 : am_cd 26 25 = some (.getfield 9, 3, [6, 0, 2], [(0, 88)])   := rfl
theorem k_26_28 : am_cd 26 28 = some (.aload_n 0, 1, [], [])   := rfl
theorem k_26_29 : am_cd 26 29 = some (.getfield 15, 3, [6, 1, 0], [(0, 90)])   := rfl
theorem k_26_32 : am_cd 26 32 = some (.iload_n 1, 1, [], [])   := rfl
theorem k_26_33 : am_cd 26 33 = some (.castore, 1, [], [])   := rfl
theorem k_26_34 : am_cd 26 34 = some (.aload_n 0, 1, [], [])   := rfl
theorem k_26_35 : am_cd 26 35 = some (.dup, 1, [], [])   := rfl
theorem k_26_36 : am_cd 26 36 = some (.getfield 15, 3, [6, 1, 0], [(0, 90)])   := rfl
theorem k_26_39 : am_cd 26 39 = some (.iconst 1, 1, [], [(1, 0)])   := rfl
theorem k_26_40 : am_cd 26 40 = some (.iadd, 1, [], [])   := rfl
theorem k_26_41 : am_cd 26 41 = some (.putfield 15, 3, [6, 1, 0], [(0, 90)])   := rfl
theorem k_26_44 : am_cd 26 44 = some (.iconst 1, 1, [], [(1, 0)])   := rfl
theorem k_26_45 : am_cd 26 45 = some (.ireturn, 1, [], [])   := rfl
theorem e_26_0 {x : Option Nat} {a1 : Option AV} : X xs L d 26 (0, [some (.inr x), a1], sk, h) res ↔ X xs L d 26 (1, [some (.inr x), a1], .inr x :: sk, h) res := i_aload_n k_26_0 rfl
theorem e_26_1 {o : Nat} : X xs L d 26 (1, lo, .inr (some o) :: sk, h) res ↔ hK h o = 6 ∧ X xs L d 26 (4, lo, .inl (hI h o 1) :: sk, h) res := i_getI k_26_1
theorem e_26_4 : X xs L d 26 (4, lo, sk, h) res ↔ X xs L d 26 (7, lo, .inl 150 :: sk, h) res := i_sipush k_26_4
theorem e_26_7 {x y : Int32} : X xs L d 26 (7, lo, .inl y :: .inl x :: sk, h) res ↔ (if y ≤ x then X xs L d 26 (22, lo, sk, h) res else X xs L d 26 (10, lo, sk, h) res) := i_icmp_ge k_26_7
theorem e_26_10 {x : Int32} {a0 : Option AV} : X xs L d 26 (10, [a0, some (.inl x)], sk, h) res ↔ X xs L d 26 (11, [a0, some (.inl x)], .inl x :: sk, h) res := i_iload_n k_26_10 rfl
theorem e_26_11 : X xs L d 26 (11, lo, sk, h) res ↔ X xs L d 26 (13, lo, .inl 32 :: sk, h) res := i_bipush k_26_11
theorem e_26_13 {x y : Int32} : X xs L d 26 (13, lo, .inl y :: .inl x :: sk, h) res ↔ (if x < y then X xs L d 26 (22, lo, sk, h) res else X xs L d 26 (16, lo, sk, h) res) := i_icmp_lt k_26_13
theorem e_26_16 {x : Int32} {a0 : Option AV} : X xs L d 26 (16, [a0, some (.inl x)], sk, h) res ↔ X xs L d 26 (17, [a0, some (.inl x)], .inl x :: sk, h) res := i_iload_n k_26_16 rfl
theorem e_26_17 : X xs L d 26 (17, lo, sk, h) res ↔ X xs L d 26 (19, lo, .inl 126 :: sk, h) res := i_bipush k_26_17
theorem e_26_19 {x y : Int32} : X xs L d 26 (19, lo, .inl y :: .inl x :: sk, h) res ↔ (if x ≤ y then X xs L d 26 (24, lo, sk, h) res else X xs L d 26 (22, lo, sk, h) res) := i_icmp_le k_26_19
theorem e_26_22 : X xs L d 26 (22, lo, sk, h) res ↔ X xs L d 26 (23, lo, .inl 0 :: sk, h) res := i_iconst k_26_22
theorem e_26_23 {v : Int32} : X xs L d 26 (23, lo, [.inl v], h) res ↔ (v = 0 ∨ v = 1) ∧ res = (some (.inl v), h) := i_zret k_26_23 rfl
theorem e_26_24 {x : Option Nat} {a1 : Option AV} : X xs L d 26 (24, [some (.inr x), a1], sk, h) res ↔ X xs L d 26 (25, [some (.inr x), a1], .inr x :: sk, h) res := i_aload_n k_26_24 rfl
theorem e_26_25 {o : Nat} : X xs L d 26 (25, lo, .inr (some o) :: sk, h) res ↔ hK h o = 6 ∧ X xs L d 26 (28, lo, .inr (hR h o 0) :: sk, h) res := i_getR k_26_25
theorem e_26_28 {x : Option Nat} {a1 : Option AV} : X xs L d 26 (28, [some (.inr x), a1], sk, h) res ↔ X xs L d 26 (29, [some (.inr x), a1], .inr x :: sk, h) res := i_aload_n k_26_28 rfl
theorem e_26_29 {o : Nat} : X xs L d 26 (29, lo, .inr (some o) :: sk, h) res ↔ hK h o = 6 ∧ X xs L d 26 (32, lo, .inl (hI h o 1) :: sk, h) res := i_getI k_26_29
theorem e_26_32 {x : Int32} {a0 : Option AV} : X xs L d 26 (32, [a0, some (.inl x)], sk, h) res ↔ X xs L d 26 (33, [a0, some (.inl x)], .inl x :: sk, h) res := i_iload_n k_26_32 rfl
theorem e_26_33 {o : Nat} {i v : Int32} : X xs L d 26 (33, lo, .inl v :: .inl i :: .inr (some o) :: sk, h) res ↔ (hK h o = 21 ∧ vp_in i (hL h o)) ∧ X xs L d 26 (34, lo, sk, sI h o i.toNatClampNeg (vp_nar .char v)) res := i_castore k_26_33
theorem e_26_34 {x : Option Nat} {a1 : Option AV} : X xs L d 26 (34, [some (.inr x), a1], sk, h) res ↔ X xs L d 26 (35, [some (.inr x), a1], .inr x :: sk, h) res := i_aload_n k_26_34 rfl
theorem e_26_35 {v : AV} : X xs L d 26 (35, lo, v :: sk, h) res ↔ X xs L d 26 (36, lo, v :: v :: sk, h) res := i_dup k_26_35
theorem e_26_36 {o : Nat} : X xs L d 26 (36, lo, .inr (some o) :: sk, h) res ↔ hK h o = 6 ∧ X xs L d 26 (39, lo, .inl (hI h o 1) :: sk, h) res := i_getI k_26_36
theorem e_26_39 : X xs L d 26 (39, lo, sk, h) res ↔ X xs L d 26 (40, lo, .inl 1 :: sk, h) res := i_iconst k_26_39
theorem e_26_40 {x y : Int32} : X xs L d 26 (40, lo, .inl y :: .inl x :: sk, h) res ↔ X xs L d 26 (41, lo, .inl (x + y) :: sk, h) res := i_iadd k_26_40
theorem e_26_41 {o : Nat} {v : Int32} : X xs L d 26 (41, lo, .inl v :: .inr (some o) :: sk, h) res ↔ hK h o = 6 ∧ X xs L d 26 (44, lo, sk, sI h o 1 v) res := i_putI k_26_41
theorem e_26_44 : X xs L d 26 (44, lo, sk, h) res ↔ X xs L d 26 (45, lo, .inl 1 :: sk, h) res := i_iconst k_26_44
theorem e_26_45 {v : Int32} : X xs L d 26 (45, lo, [.inl v], h) res ↔ (v = 0 ∨ v = 1) ∧ res = (some (.inl v), h) := i_zret k_26_45 rfl
theorem k_27_0 : am_cd 27 0 = some (.aload_n 0, 1, [], [])   := rfl
theorem k_27_1 : am_cd 27 1 = some (.iconst 0, 1, [], [(0, 0)])   := rfl
theorem k_27_2 : am_cd 27 2 = some (.putfield 15, 3, [6, 1, 0], [(0, 90)])   := rfl
theorem k_27_5 : am_cd 27 5 = some (.return_, 1, [], [])   := rfl
theorem e_27_0 {x : Option Nat} : X xs L d 27 (0, [some (.inr x)], sk, h) res ↔ X xs L d 27 (1, [some (.inr x)], .inr x :: sk, h) res := i_aload_n k_27_0 rfl
theorem e_27_1 : X xs L d 27 (1, lo, sk, h) res ↔ X xs L d 27 (2, lo, .inl 0 :: sk, h) res := i_iconst k_27_1
theorem e_27_2 {o : Nat} {v : Int32} : X xs L d 27 (2, lo, .inl v :: .inr (some o) :: sk, h) res ↔ hK h o = 6 ∧ X xs L d 27 (5, lo, sk, sI h o 1 v) res := i_putI k_27_2
theorem e_27_5 : X xs L d 27 (5, lo, [], h) res ↔ res = (none, h) := i_vret k_27_5 rfl
theorem k_28_0 : am_cd 28 0 = some (.aload_n 0, 1, [], [])   := rfl
theorem k_28_1 : am_cd 28 1 = some (.invokespecial 3, 3, [], [(0, 104), (0, 80)])   := rfl
theorem k_28_4 : am_cd 28 4 = some (.aload_n 0, 1, [], [])   := rfl
theorem k_28_5 : am_cd 28 5 = some (.sipush 151, 3, [], [(151, 0)])   := rfl
theorem k_28_8 : am_cd 28 8 = some (.newarray .int, 2, [20], [(0, 136)])   := rfl
theorem k_28_10 : am_cd 28 10 = some (.putfield 9, 3, [7, 0, 2], [(0, 105)])   := rfl
theorem k_28_13 : am_cd 28 13 = some (.aload_n 0, 1, [], [])   := rfl
theorem k_28_14 : am_cd 28 14 = some (.sipush 151, 3, [], [(151, 0)])   := rfl
theorem k_28_17 : am_cd 28 17 = some (.newarray .int, 2, [20], [(0, 136)])   := rfl
theorem k_28_19 : am_cd 28 19 = some (.putfield 15, 3, [7, 1, 2], [(0, 106)])   := rfl
theorem k_28_22 : am_cd 28 22 = some (.aload_n 0, 1, [], [])   := rfl
theorem k_28_23 : am_cd 28 23 = some (.iconst 4, 1, [], [(4, 0)])   := rfl
theorem k_28_24 : am_cd 28 24 = some (.newarray .int, 2, [20], [(0, 136)])   := rfl
theorem k_28_26 : am_cd 28 26 = some (.putfield 18, 3, [7, 2, 2], [(0, 107)])   := rfl
theorem k_28_29 : am_cd 28 29 = some (.aload_n 0, 1, [], [])   := rfl
theorem k_28_30 : am_cd 28 30 = some (.iconst 4, 1, [], [(4, 0)])   := rfl
theorem k_28_31 : am_cd 28 31 = some (.newarray .int, 2, [20], [(0, 136)])   := rfl
theorem k_28_33 : am_cd 28 33 = some (.putfield 21, 3, [7, 3, 2], [(0, 108)])   := rfl
theorem k_28_36 : am_cd 28 36 = some (.aload_n 0, 1, [], [])   := rfl
theorem k_28_37 : am_cd 28 37 = some (.iconst 4, 1, [], [(4, 0)])   := rfl
theorem k_28_38 : am_cd 28 38 = some (.newarray .int, 2, [20], [(0, 136)])   := rfl
theorem k_28_40 : am_cd 28 40 = some (.putfield 24, 3, [7, 4, 2], [(0, 109)])   := rfl
theorem k_28_43 : am_cd 28 43 = some (.return_, 1, [], [])   := rfl
theorem e_28_0 {x : Option Nat} : X xs L d 28 (0, [some (.inr x)], sk, h) res ↔ X xs L d 28 (1, [some (.inr x)], .inr x :: sk, h) res := i_aload_n k_28_0 rfl
theorem e_28_1 {o : Nat} : X xs L d 28 (1, lo, .inr (some o) :: sk, h) res ↔ sk.length ≤ 8 ∧ X xs L d 28 (4, lo, sk, h) res := i_obj k_28_1
theorem e_28_4 {x : Option Nat} : X xs L d 28 (4, [some (.inr x)], sk, h) res ↔ X xs L d 28 (5, [some (.inr x)], .inr x :: sk, h) res := i_aload_n k_28_4 rfl
theorem e_28_5 : X xs L d 28 (5, lo, sk, h) res ↔ X xs L d 28 (8, lo, .inl 151 :: sk, h) res := i_sipush k_28_5
theorem e_28_8 {i : Int32} : X xs L d 28 (8, lo, .inl i :: sk, h) res ↔ (¬ i < 0 ∧ i.toNatClampNeg ≤ 100000) ∧ X xs L d 28 (10, lo, .inr (some (hN h)) :: sk, nw h 20 i.toNatClampNeg i.toNatClampNeg) res := i_newarray k_28_8
theorem e_28_10 {o : Nat} {v : Option Nat} : X xs L d 28 (10, lo, .inr v :: .inr (some o) :: sk, h) res ↔ hK h o = 7 ∧ X xs L d 28 (13, lo, sk, sR h o 0 v) res := i_putR k_28_10
theorem e_28_13 {x : Option Nat} : X xs L d 28 (13, [some (.inr x)], sk, h) res ↔ X xs L d 28 (14, [some (.inr x)], .inr x :: sk, h) res := i_aload_n k_28_13 rfl
theorem e_28_14 : X xs L d 28 (14, lo, sk, h) res ↔ X xs L d 28 (17, lo, .inl 151 :: sk, h) res := i_sipush k_28_14
theorem e_28_17 {i : Int32} : X xs L d 28 (17, lo, .inl i :: sk, h) res ↔ (¬ i < 0 ∧ i.toNatClampNeg ≤ 100000) ∧ X xs L d 28 (19, lo, .inr (some (hN h)) :: sk, nw h 20 i.toNatClampNeg i.toNatClampNeg) res := i_newarray k_28_17
theorem e_28_19 {o : Nat} {v : Option Nat} : X xs L d 28 (19, lo, .inr v :: .inr (some o) :: sk, h) res ↔ hK h o = 7 ∧ X xs L d 28 (22, lo, sk, sR h o 1 v) res := i_putR k_28_19
theorem e_28_22 {x : Option Nat} : X xs L d 28 (22, [some (.inr x)], sk, h) res ↔ X xs L d 28 (23, [some (.inr x)], .inr x :: sk, h) res := i_aload_n k_28_22 rfl
theorem e_28_23 : X xs L d 28 (23, lo, sk, h) res ↔ X xs L d 28 (24, lo, .inl 4 :: sk, h) res := i_iconst k_28_23
theorem e_28_24 {i : Int32} : X xs L d 28 (24, lo, .inl i :: sk, h) res ↔ (¬ i < 0 ∧ i.toNatClampNeg ≤ 100000) ∧ X xs L d 28 (26, lo, .inr (some (hN h)) :: sk, nw h 20 i.toNatClampNeg i.toNatClampNeg) res := i_newarray k_28_24
theorem e_28_26 {o : Nat} {v : Option Nat} : X xs L d 28 (26, lo, .inr v :: .inr (some o) :: sk, h) res ↔ hK h o = 7 ∧ X xs L d 28 (29, lo, sk, sR h o 2 v) res := i_putR k_28_26
theorem e_28_29 {x : Option Nat} : X xs L d 28 (29, [some (.inr x)], sk, h) res ↔ X xs L d 28 (30, [some (.inr x)], .inr x :: sk, h) res := i_aload_n k_28_29 rfl
theorem e_28_30 : X xs L d 28 (30, lo, sk, h) res ↔ X xs L d 28 (31, lo, .inl 4 :: sk, h) res := i_iconst k_28_30
theorem e_28_31 {i : Int32} : X xs L d 28 (31, lo, .inl i :: sk, h) res ↔ (¬ i < 0 ∧ i.toNatClampNeg ≤ 100000) ∧ X xs L d 28 (33, lo, .inr (some (hN h)) :: sk, nw h 20 i.toNatClampNeg i.toNatClampNeg) res := i_newarray k_28_31
theorem e_28_33 {o : Nat} {v : Option Nat} : X xs L d 28 (33, lo, .inr v :: .inr (some o) :: sk, h) res ↔ hK h o = 7 ∧ X xs L d 28 (36, lo, sk, sR h o 3 v) res := i_putR k_28_33
theorem e_28_36 {x : Option Nat} : X xs L d 28 (36, [some (.inr x)], sk, h) res ↔ X xs L d 28 (37, [some (.inr x)], .inr x :: sk, h) res := i_aload_n k_28_36 rfl
theorem e_28_37 : X xs L d 28 (37, lo, sk, h) res ↔ X xs L d 28 (38, lo, .inl 4 :: sk, h) res := i_iconst k_28_37
theorem e_28_38 {i : Int32} : X xs L d 28 (38, lo, .inl i :: sk, h) res ↔ (¬ i < 0 ∧ i.toNatClampNeg ≤ 100000) ∧ X xs L d 28 (40, lo, .inr (some (hN h)) :: sk, nw h 20 i.toNatClampNeg i.toNatClampNeg) res := i_newarray k_28_38
theorem e_28_40 {o : Nat} {v : Option Nat} : X xs L d 28 (40, lo, .inr v :: .inr (some o) :: sk, h) res ↔ hK h o = 7 ∧ X xs L d 28 (43, lo, sk, sR h o 4 v) res := i_putR k_28_40
theorem e_28_43 : X xs L d 28 (43, lo, [], h) res ↔ res = (none, h) := i_vret k_28_43 rfl
theorem k_29_0 : am_cd 29 0 = some (.aload_n 0, 1, [], [])   := rfl
theorem k_29_1 : am_cd 29 1 = some (.aload_n 1, 1, [], [])   := rfl
theorem k_29_2 : am_cd 29 2 = some (.invokevirtual 27, 3, [31, 2, 7], [(0, 272), (0, 274), (0, 0)])   := rfl
theorem k_29_5 : am_cd 29 5 = some (.aload_n 0, 1, [], [])   := rfl
theorem k_29_6 : am_cd 29 6 = some (.getfield 21, 3, [7, 3, 2], [(0, 108)])   := rfl
theorem k_29_9 : am_cd 29 9 = some (.iconst (-1), 1, [], [(-1, 0)])   := rfl
theorem k_29_10 : am_cd 29 10 = some (.invokestatic 31, 3, [127, 2], [(0, 276), (0, 277)])   := rfl
theorem k_29_13 : am_cd 29 13 = some (.iconst 0, 1, [], [(0, 0)])   := rfl
theorem k_29_14 : am_cd 29 14 = some (.istore_n 2, 1, [], [])   := rfl
theorem k_29_15 : am_cd 29 15 = some (.iload_n 2, 1, [], [])   := rfl
theorem k_29_16 : am_cd 29 16 = some (.iconst 4, 1, [], [(4, 0)])   := rfl
theorem k_29_17 : am_cd 29 17 = some (.if_icmp .ge 29, 3, [46], [])   := rfl
theorem k_29_20 : am_cd 29 20 = some (.aload_n 0, 1, [], [])   := rfl
theorem k_29_21 : am_cd 29 21 = some (.getfield 37, 3, [7, 7, 0], [(0, 112)])   := rfl
theorem k_29_24 : am_cd 29 24 = some (.aload_n 0, 1, [], [])   := rfl
theorem k_29_25 : am_cd 29 25 = some (.getfield 41, 3, [7, 6, 0], [(0, 111)])   := rfl
theorem k_29_28 : am_cd 29 28 = some (.if_icmp .ge 18, 3, [46], [])   := rfl
theorem k_29_31 : am_cd 29 31 = some (.aload_n 0, 1, [], [])   := rfl
theorem k_29_32 : am_cd 29 32 = some (.invokevirtual 44, 3, [33, 1, 7], [(0, 279), (0, 281), (0, 1)])   := rfl
theorem k_29_35 : am_cd 29 35 = some (.ifCond .ne 5, 3, [40], [])   := rfl
theorem k_29_38 : am_cd 29 38 = some (.aconst_null, 1, [], [])   := rfl
theorem k_29_39 : am_cd 29 39 = some (.areturn, 1, [], [])   := rfl
theorem k_29_40 : am_cd 29 40 = some (.iinc 2 1, 3, [], [(1, 0)])   := rfl
theorem k_29_43 : am_cd 29 43 = some (.goto (-28), 3, [15], [])   := rfl
theorem k_29_46 : am_cd 29 46 = some (.aload_n 0, 1, [], [])   := rfl
theorem k_29_47 : am_cd 29 47 = some (.getfield 37, 3, [7, 7, 0], [(0, 112)])   := rfl
theorem k_29_50 : am_cd 29 50 = some (.aload_n 0, 1, [], [])   := rfl
theorem k_29_51 : am_cd 29 51 = some (.getfield 41, 3, [7, 6, 0], [(0, 111)])   := rfl
theorem k_29_54 : am_cd 29 54 = some (.if_icmp .ne 23, 3, [77], [])   := rfl
theorem k_29_57 : am_cd 29 57 = some (.aload_n 0, 1, [], [])   := rfl
theorem k_29_58 : am_cd 29 58 = some (.getfield 21, 3, [7, 3, 2], [(0, 108)])   := rfl
theorem k_29_61 : am_cd 29 61 = some (.iconst 0, 1, [], [(0, 0)])   := rfl
theorem k_29_62 : am_cd 29 62 = some (.iaload, 1, [], [])   := rfl
theorem k_29_63 : am_cd 29 63 = some (.ifCond .ne 14, 3, [77], [])   := rfl
theorem k_29_66 : am_cd 29 66 = some (.aload_n 0, 1, [], [])   := rfl
theorem k_29_67 : am_cd 29 67 = some (.aload_n 0, 1, [], [])   := rfl
theorem k_29_68 : am_cd 29 68 = some (.getfield 21, 3, [7, 3, 2], [(0, 108)])   := rfl
theorem k_29_71 : am_cd 29 71 = some (.invokevirtual 48, 3, [32, 2, 7], [(0, 433), (0, 435), (0, 16)])   := rfl
theorem k_29_74 : am_cd 29 74 = some (.ifCond .ne 5, 3, [79], [])   := rfl
theorem k_29_77 : am_cd 29 77 = some (.aconst_null, 1, [], [])   := rfl
theorem k_29_78 : am_cd 29 78 = some (.areturn, 1, [], [])   := rfl
theorem k_29_79 : am_cd 29 79 = some (.new 52, 3, [4, 4], [(0, 437), (0, 438), (0, 70)])   := rfl
theorem k_29_82 : am_cd 29 82 = some (.dup, 1, [], [])   := rfl
theorem k_29_83 : am_cd 29 83 = some (.new 54, 3, [1, 3], [(0, 439), (0, 440), (0, 71)])   := rfl
theorem k_29_86 : am_cd 29 86 = some (.dup, 1, [], [])   := rfl
theorem k_29_87 : am_cd 29 87 = some (.aload_n 0, 1, [], [])   := rfl
theorem k_29_88 : am_cd 29 88 = some (.getfield 9, 3, [7, 0, 2], [(0, 105)])   := rfl
theorem k_29_91 : am_cd 29 91 = some (.aload_n 0, 1, [], [])   := rfl
theorem k_29_92 : am_cd 29 92 = some (.getfield 15, 3, [7, 1, 2], [(0, 106)])   := rfl
theorem k_29_95 : am_cd 29 95 = some (.aload_n 0, 1, [], [])   := rfl
theorem k_29_96 : am_cd 29 96 = some (.getfield 56, 3, [7, 8, 0], [(0, 113)])   := rfl
theorem k_29_99 : am_cd 29 99 = some (.invokespecial 59, 3, [1, 4, 1], [(0, 441), (0, 442)])   := rfl
theorem k_29_102 : am_cd 29 102 = some (.aload_n 0, 1, [], [])   := rfl
theorem k_29_103 : am_cd 29 103 = some (.getfield 18, 3, [7, 2, 2], [(0, 107)])   := rfl
theorem k_29_106 : am_cd 29 106 = some (.aload_n 0, 1, [], [])   := rfl
theorem k_29_107 : am_cd 29 107 = some (.getfield 21, 3, [7, 3, 2], [(0, 108)])   := rfl
theorem k_29_110 : am_cd 29 110 = some (.aload_n 0, 1, [], [])   := rfl
theorem k_29_111 : am_cd 29 111 = some (.getfield 62, 3, [7, 9, 0], [(0, 114)])   := rfl
theorem k_29_114 : am_cd 29 114 = some (.invokespecial 65, 3, [20, 5, 4], [(0, 474), (0, 475)])   := rfl
theorem k_29_117 : am_cd 29 117 = some (.areturn, 1, [], [])   := rfl
theorem e_29_0 {x : Option Nat} {a1 a2 : Option AV} : X xs L d 29 (0, [some (.inr x), a1, a2], sk, h) res ↔ X xs L d 29 (1, [some (.inr x), a1, a2], .inr x :: sk, h) res := i_aload_n k_29_0 rfl
theorem e_29_1 {x : Option Nat} {a0 a2 : Option AV} : X xs L d 29 (1, [a0, some (.inr x), a2], sk, h) res ↔ X xs L d 29 (2, [a0, some (.inr x), a2], .inr x :: sk, h) res := i_aload_n k_29_1 rfl
theorem e_29_2 {o : Nat} {v0 : Option Nat} (hs : sk.length ≤ 8) : X xs L d 29 (2, lo, .inr v0 :: .inr (some o) :: sk, h) res ↔ hK h o = 7 ∧ ∃ q : Res, Rn xs L d 31 [.inr (some o), .inr v0] h q ∧ X xs L d 29 (5, lo, q.1.toList ++ sk, q.2) res := i_callV k_29_2 rfl ⟨Nat.le_add_left 2 sk.length, Nat.le_trans (Nat.add_le_add_right hs 2) (Nat.le_of_eq (Nat.add_comm 8 2))⟩
theorem e_29_5 {x : Option Nat} {a1 a2 : Option AV} : X xs L d 29 (5, [some (.inr x), a1, a2], sk, h) res ↔ X xs L d 29 (6, [some (.inr x), a1, a2], .inr x :: sk, h) res := i_aload_n k_29_5 rfl
theorem e_29_6 {o : Nat} : X xs L d 29 (6, lo, .inr (some o) :: sk, h) res ↔ hK h o = 7 ∧ X xs L d 29 (9, lo, .inr (hR h o 3) :: sk, h) res := i_getR k_29_6
theorem e_29_9 : X xs L d 29 (9, lo, sk, h) res ↔ X xs L d 29 (10, lo, .inl (-1) :: sk, h) res := i_iconst k_29_9
theorem e_29_10 {v0 : Option Nat} {v1 : Int32} (hs : sk.length ≤ 8) : X xs L d 29 (10, lo, .inl v1 :: .inr v0 :: sk, h) res ↔ ∃ q : Res, Rn xs L d 127 [.inr v0, .inl v1] h q ∧ X xs L d 29 (13, lo, q.1.toList ++ sk, q.2) res := i_callS k_29_10 ⟨Nat.le_add_left 2 sk.length, Nat.le_trans (Nat.add_le_add_right hs 2) (Nat.le_of_eq (Nat.add_comm 8 2))⟩
theorem e_29_13 : X xs L d 29 (13, lo, sk, h) res ↔ X xs L d 29 (14, lo, .inl 0 :: sk, h) res := i_iconst k_29_13
theorem e_29_14 {x : Int32} {a0 a1 a2 : Option AV} : X xs L d 29 (14, [a0, a1, a2], .inl x :: sk, h) res ↔ X xs L d 29 (15, [a0, a1, some (.inl x)], sk, h) res := i_istore_n k_29_14 (Nat.le_of_ble_eq_true rfl) rfl
theorem e_29_15 {x : Int32} {a0 a1 : Option AV} : X xs L d 29 (15, [a0, a1, some (.inl x)], sk, h) res ↔ X xs L d 29 (16, [a0, a1, some (.inl x)], .inl x :: sk, h) res := i_iload_n k_29_15 rfl
theorem e_29_16 : X xs L d 29 (16, lo, sk, h) res ↔ X xs L d 29 (17, lo, .inl 4 :: sk, h) res := i_iconst k_29_16
theorem e_29_17 {x y : Int32} : X xs L d 29 (17, lo, .inl y :: .inl x :: sk, h) res ↔ (if y ≤ x then X xs L d 29 (46, lo, sk, h) res else X xs L d 29 (20, lo, sk, h) res) := i_icmp_ge k_29_17
theorem e_29_20 {x : Option Nat} {a1 a2 : Option AV} : X xs L d 29 (20, [some (.inr x), a1, a2], sk, h) res ↔ X xs L d 29 (21, [some (.inr x), a1, a2], .inr x :: sk, h) res := i_aload_n k_29_20 rfl
theorem e_29_21 {o : Nat} : X xs L d 29 (21, lo, .inr (some o) :: sk, h) res ↔ hK h o = 7 ∧ X xs L d 29 (24, lo, .inl (hI h o 7) :: sk, h) res := i_getI k_29_21
theorem e_29_24 {x : Option Nat} {a1 a2 : Option AV} : X xs L d 29 (24, [some (.inr x), a1, a2], sk, h) res ↔ X xs L d 29 (25, [some (.inr x), a1, a2], .inr x :: sk, h) res := i_aload_n k_29_24 rfl
theorem e_29_25 {o : Nat} : X xs L d 29 (25, lo, .inr (some o) :: sk, h) res ↔ hK h o = 7 ∧ X xs L d 29 (28, lo, .inl (hI h o 6) :: sk, h) res := i_getI k_29_25
theorem e_29_28 {x y : Int32} : X xs L d 29 (28, lo, .inl y :: .inl x :: sk, h) res ↔ (if y ≤ x then X xs L d 29 (46, lo, sk, h) res else X xs L d 29 (31, lo, sk, h) res) := i_icmp_ge k_29_28
theorem e_29_31 {x : Option Nat} {a1 a2 : Option AV} : X xs L d 29 (31, [some (.inr x), a1, a2], sk, h) res ↔ X xs L d 29 (32, [some (.inr x), a1, a2], .inr x :: sk, h) res := i_aload_n k_29_31 rfl
theorem e_29_32 {o : Nat} (hs : sk.length ≤ 8) : X xs L d 29 (32, lo, .inr (some o) :: sk, h) res ↔ hK h o = 7 ∧ ∃ q : Res, Rn xs L d 33 [.inr (some o)] h q ∧ X xs L d 29 (35, lo, q.1.toList ++ sk, q.2) res := i_callV k_29_32 rfl ⟨Nat.le_add_left 1 sk.length, Nat.le_trans (Nat.add_le_add_right hs 1) (Nat.le_of_eq (Nat.add_comm 8 1))⟩
theorem e_29_35 {x : Int32} : X xs L d 29 (35, lo, .inl x :: sk, h) res ↔ (if x = 0 then X xs L d 29 (38, lo, sk, h) res else X xs L d 29 (40, lo, sk, h) res) := i_if_ne k_29_35
theorem e_29_38 : X xs L d 29 (38, lo, sk, h) res ↔ X xs L d 29 (39, lo, .inr none :: sk, h) res := i_null k_29_38
theorem e_29_39 {v : Option Nat} : X xs L d 29 (39, lo, [.inr v], h) res ↔ res = (some (.inr v), h) := i_aret k_29_39 rfl
theorem e_29_40 {x : Int32} {a0 a1 : Option AV} : X xs L d 29 (40, [a0, a1, some (.inl x)], sk, h) res ↔ X xs L d 29 (43, [a0, a1, some (.inl (x + 1))], sk, h) res := i_iinc k_29_40 rfl rfl
theorem e_29_43 : X xs L d 29 (43, lo, sk, h) res ↔ X xs L d 29 (15, lo, sk, h) res := i_goto k_29_43
theorem e_29_46 {x : Option Nat} {a1 a2 : Option AV} : X xs L d 29 (46, [some (.inr x), a1, a2], sk, h) res ↔ X xs L d 29 (47, [some (.inr x), a1, a2], .inr x :: sk, h) res := i_aload_n k_29_46 rfl
theorem e_29_47 {o : Nat} : X xs L d 29 (47, lo, .inr (some o) :: sk, h) res ↔ hK h o = 7 ∧ X xs L d 29 (50, lo, .inl (hI h o 7) :: sk, h) res := i_getI k_29_47
theorem e_29_50 {x : Option Nat} {a1 a2 : Option AV} : X xs L d 29 (50, [some (.inr x), a1, a2], sk, h) res ↔ X xs L d 29 (51, [some (.inr x), a1, a2], .inr x :: sk, h) res := i_aload_n k_29_50 rfl
theorem e_29_51 {o : Nat} : X xs L d 29 (51, lo, .inr (some o) :: sk, h) res ↔ hK h o = 7 ∧ X xs L d 29 (54, lo, .inl (hI h o 6) :: sk, h) res := i_getI k_29_51
theorem e_29_54 {x y : Int32} : X xs L d 29 (54, lo, .inl y :: .inl x :: sk, h) res ↔ (if x = y then X xs L d 29 (57, lo, sk, h) res else X xs L d 29 (77, lo, sk, h) res) := i_icmp_ne k_29_54
theorem e_29_57 {x : Option Nat} {a1 a2 : Option AV} : X xs L d 29 (57, [some (.inr x), a1, a2], sk, h) res ↔ X xs L d 29 (58, [some (.inr x), a1, a2], .inr x :: sk, h) res := i_aload_n k_29_57 rfl
theorem e_29_58 {o : Nat} : X xs L d 29 (58, lo, .inr (some o) :: sk, h) res ↔ hK h o = 7 ∧ X xs L d 29 (61, lo, .inr (hR h o 3) :: sk, h) res := i_getR k_29_58
theorem e_29_61 : X xs L d 29 (61, lo, sk, h) res ↔ X xs L d 29 (62, lo, .inl 0 :: sk, h) res := i_iconst k_29_61
theorem e_29_62 {o : Nat} {i : Int32} : X xs L d 29 (62, lo, .inl i :: .inr (some o) :: sk, h) res ↔ (hK h o = 20 ∧ vp_in i (hL h o)) ∧ X xs L d 29 (63, lo, .inl (hI h o i.toNatClampNeg) :: sk, h) res := i_iaload k_29_62
theorem e_29_63 {x : Int32} : X xs L d 29 (63, lo, .inl x :: sk, h) res ↔ (if x = 0 then X xs L d 29 (66, lo, sk, h) res else X xs L d 29 (77, lo, sk, h) res) := i_if_ne k_29_63
theorem e_29_66 {x : Option Nat} {a1 a2 : Option AV} : X xs L d 29 (66, [some (.inr x), a1, a2], sk, h) res ↔ X xs L d 29 (67, [some (.inr x), a1, a2], .inr x :: sk, h) res := i_aload_n k_29_66 rfl
theorem e_29_67 {x : Option Nat} {a1 a2 : Option AV} : X xs L d 29 (67, [some (.inr x), a1, a2], sk, h) res ↔ X xs L d 29 (68, [some (.inr x), a1, a2], .inr x :: sk, h) res := i_aload_n k_29_67 rfl
theorem e_29_68 {o : Nat} : X xs L d 29 (68, lo, .inr (some o) :: sk, h) res ↔ hK h o = 7 ∧ X xs L d 29 (71, lo, .inr (hR h o 3) :: sk, h) res := i_getR k_29_68
theorem e_29_71 {o : Nat} {v0 : Option Nat} (hs : sk.length ≤ 8) : X xs L d 29 (71, lo, .inr v0 :: .inr (some o) :: sk, h) res ↔ hK h o = 7 ∧ ∃ q : Res, Rn xs L d 32 [.inr (some o), .inr v0] h q ∧ X xs L d 29 (74, lo, q.1.toList ++ sk, q.2) res := i_callV k_29_71 rfl ⟨Nat.le_add_left 2 sk.length, Nat.le_trans (Nat.add_le_add_right hs 2) (Nat.le_of_eq (Nat.add_comm 8 2))⟩
theorem e_29_74 {x : Int32} : X xs L d 29 (74, lo, .inl x :: sk, h) res ↔ (if x = 0 then X xs L d 29 (77, lo, sk, h) res else X xs L d 29 (79, lo, sk, h) res) := i_if_ne k_29_74
theorem e_29_77 : X xs L d 29 (77, lo, sk, h) res ↔ X xs L d 29 (78, lo, .inr none :: sk, h) res := i_null k_29_77
theorem e_29_78 {v : Option Nat} : X xs L d 29 (78, lo, [.inr v], h) res ↔ res = (some (.inr v), h) := i_aret k_29_78 rfl
theorem e_29_79 : X xs L d 29 (79, lo, sk, h) res ↔ X xs L d 29 (82, lo, .inr (some (hN h)) :: sk, nw h 4 0 4) res := i_new k_29_79
theorem e_29_82 {v : AV} : X xs L d 29 (82, lo, v :: sk, h) res ↔ X xs L d 29 (83, lo, v :: v :: sk, h) res := i_dup k_29_82
theorem e_29_83 : X xs L d 29 (83, lo, sk, h) res ↔ X xs L d 29 (86, lo, .inr (some (hN h)) :: sk, nw h 1 0 3) res := i_new k_29_83
theorem e_29_86 {v : AV} : X xs L d 29 (86, lo, v :: sk, h) res ↔ X xs L d 29 (87, lo, v :: v :: sk, h) res := i_dup k_29_86
theorem e_29_87 {x : Option Nat} {a1 a2 : Option AV} : X xs L d 29 (87, [some (.inr x), a1, a2], sk, h) res ↔ X xs L d 29 (88, [some (.inr x), a1, a2], .inr x :: sk, h) res := i_aload_n k_29_87 rfl
theorem e_29_88 {o : Nat} : X xs L d 29 (88, lo, .inr (some o) :: sk, h) res ↔ hK h o = 7 ∧ X xs L d 29 (91, lo, .inr (hR h o 0) :: sk, h) res := i_getR k_29_88
theorem e_29_91 {x : Option Nat} {a1 a2 : Option AV} : X xs L d 29 (91, [some (.inr x), a1, a2], sk, h) res ↔ X xs L d 29 (92, [some (.inr x), a1, a2], .inr x :: sk, h) res := i_aload_n k_29_91 rfl
theorem e_29_92 {o : Nat} : X xs L d 29 (92, lo, .inr (some o) :: sk, h) res ↔ hK h o = 7 ∧ X xs L d 29 (95, lo, .inr (hR h o 1) :: sk, h) res := i_getR k_29_92
theorem e_29_95 {x : Option Nat} {a1 a2 : Option AV} : X xs L d 29 (95, [some (.inr x), a1, a2], sk, h) res ↔ X xs L d 29 (96, [some (.inr x), a1, a2], .inr x :: sk, h) res := i_aload_n k_29_95 rfl
theorem e_29_96 {o : Nat} : X xs L d 29 (96, lo, .inr (some o) :: sk, h) res ↔ hK h o = 7 ∧ X xs L d 29 (99, lo, .inl (hI h o 8) :: sk, h) res := i_getI k_29_96
theorem e_29_99 {o : Nat} {v0 : Option Nat} {v1 : Option Nat} {v2 : Int32} (hs : sk.length ≤ 8) : X xs L d 29 (99, lo, .inl v2 :: .inr v1 :: .inr v0 :: .inr (some o) :: sk, h) res ↔ hK h o = 1 ∧ ∃ q : Res, Rn xs L d 1 [.inr (some o), .inr v0, .inr v1, .inl v2] h q ∧ X xs L d 29 (102, lo, q.1.toList ++ sk, q.2) res := i_callI k_29_99 rfl ⟨Nat.le_add_left 4 sk.length, Nat.le_trans (Nat.add_le_add_right hs 4) (Nat.le_of_eq (Nat.add_comm 8 4))⟩
theorem e_29_102 {x : Option Nat} {a1 a2 : Option AV} : X xs L d 29 (102, [some (.inr x), a1, a2], sk, h) res ↔ X xs L d 29 (103, [some (.inr x), a1, a2], .inr x :: sk, h) res := i_aload_n k_29_102 rfl
theorem e_29_103 {o : Nat} : X xs L d 29 (103, lo, .inr (some o) :: sk, h) res ↔ hK h o = 7 ∧ X xs L d 29 (106, lo, .inr (hR h o 2) :: sk, h) res := i_getR k_29_103
theorem e_29_106 {x : Option Nat} {a1 a2 : Option AV} : X xs L d 29 (106, [some (.inr x), a1, a2], sk, h) res ↔ X xs L d 29 (107, [some (.inr x), a1, a2], .inr x :: sk, h) res := i_aload_n k_29_106 rfl
theorem e_29_107 {o : Nat} : X xs L d 29 (107, lo, .inr (some o) :: sk, h) res ↔ hK h o = 7 ∧ X xs L d 29 (110, lo, .inr (hR h o 3) :: sk, h) res := i_getR k_29_107
theorem e_29_110 {x : Option Nat} {a1 a2 : Option AV} : X xs L d 29 (110, [some (.inr x), a1, a2], sk, h) res ↔ X xs L d 29 (111, [some (.inr x), a1, a2], .inr x :: sk, h) res := i_aload_n k_29_110 rfl
theorem e_29_111 {o : Nat} : X xs L d 29 (111, lo, .inr (some o) :: sk, h) res ↔ hK h o = 7 ∧ X xs L d 29 (114, lo, .inl (hI h o 9) :: sk, h) res := i_getI k_29_111
theorem e_29_114 {o : Nat} {v0 : Option Nat} {v1 : Option Nat} {v2 : Option Nat} {v3 : Int32} (hs : sk.length ≤ 8) : X xs L d 29 (114, lo, .inl v3 :: .inr v2 :: .inr v1 :: .inr v0 :: .inr (some o) :: sk, h) res ↔ hK h o = 4 ∧ ∃ q : Res, Rn xs L d 20 [.inr (some o), .inr v0, .inr v1, .inr v2, .inl v3] h q ∧ X xs L d 29 (117, lo, q.1.toList ++ sk, q.2) res := i_callI k_29_114 rfl ⟨Nat.le_add_left 5 sk.length, Nat.le_trans (Nat.add_le_add_right hs 5) (Nat.le_of_eq (Nat.add_comm 8 5))⟩
theorem e_29_117 {v : Option Nat} : X xs L d 29 (117, lo, [.inr v], h) res ↔ res = (some (.inr v), h) := i_aret k_29_117 rfl
theorem k_30_0 : am_cd 30 0 = some (.aload_n 2, 1, [], [])   := rfl
theorem k_30_1 : am_cd 30 1 = some (.ifnonnull 5, 3, [6], [])   := rfl
theorem k_30_4 : am_cd 30 4 = some (.aconst_null, 1, [], [])   := rfl
theorem k_30_5 : am_cd 30 5 = some (.areturn, 1, [], [])   := rfl
theorem k_30_6 : am_cd 30 6 = some (.aload_n 0, 1, [], [])   := rfl
theorem k_30_7 : am_cd 30 7 = some (.aload_n 1, 1, [], [])   := rfl
theorem k_30_8 : am_cd 30 8 = some (.invokevirtual 27, 3, [31, 2, 7], [(0, 272), (0, 274), (0, 0)])   := rfl
theorem k_30_11 : am_cd 30 11 = some (.aload_n 0, 1, [], [])   := rfl
theorem k_30_12 : am_cd 30 12 = some (.iconst 0, 1, [], [(0, 0)])   := rfl
theorem k_30_13 : am_cd 30 13 = some (.invokevirtual 68, 3, [41, 2, 7], [(0, 405), (0, 407), (0, 10)])   := rfl
theorem k_30_16 : am_cd 30 16 = some (.ifCond .eq 25, 3, [41], [])   := rfl
theorem k_30_19 : am_cd 30 19 = some (.aload_n 0, 1, [], [])   := rfl
theorem k_30_20 : am_cd 30 20 = some (.getfield 37, 3, [7, 7, 0], [(0, 112)])   := rfl
theorem k_30_23 : am_cd 30 23 = some (.aload_n 0, 1, [], [])   := rfl
theorem k_30_24 : am_cd 30 24 = some (.getfield 41, 3, [7, 6, 0], [(0, 111)])   := rfl
theorem k_30_27 : am_cd 30 27 = some (.if_icmp .ne 14, 3, [41], [])   := rfl
theorem k_30_30 : am_cd 30 30 = some (.aload_n 0, 1, [], [])   := rfl
theorem k_30_31 : am_cd 30 31 = some (.aload_n 2, 1, [], [])   := rfl
theorem k_30_32 : am_cd 30 32 = some (.getfield 72, 3, [4, 2, 2], [(0, 484)])   := rfl
theorem k_30_35 : am_cd 30 35 = some (.invokevirtual 48, 3, [32, 2, 7], [(0, 433), (0, 435), (0, 16)])   := rfl
theorem k_30_38 : am_cd 30 38 = some (.ifCond .ne 5, 3, [43], [])   := rfl
theorem k_30_41 : am_cd 30 41 = some (.aconst_null, 1, [], [])   := rfl
theorem k_30_42 : am_cd 30 42 = some (.areturn, 1, [], [])   := rfl
theorem k_30_43 : am_cd 30 43 = some (.aload_n 0, 1, [], [])   := rfl
theorem k_30_44 : am_cd 30 44 = some (.iconst 0, 1, [], [(0, 0)])   := rfl
theorem k_30_45 : am_cd 30 45 = some (.iconst 0, 1, [], [(0, 0)])   := rfl
theorem k_30_46 : am_cd 30 46 = some (.invokevirtual 73, 3, [45, 3, 7], [(0, 299), (0, 301), (0, 6)])   := rfl
theorem k_30_49 : am_cd 30 49 = some (.new 54, 3, [1, 3], [(0, 439), (0, 440), (0, 71)])   := rfl
theorem k_30_52 : am_cd 30 52 = some (.dup, 1, [], [])   := rfl
theorem k_30_53 : am_cd 30 53 = some (.aload_n 0, 1, [], [])   := rfl
theorem k_30_54 : am_cd 30 54 = some (.getfield 9, 3, [7, 0, 2], [(0, 105)])   := rfl
theorem k_30_57 : am_cd 30 57 = some (.aload_n 0, 1, [], [])   := rfl
theorem k_30_58 : am_cd 30 58 = some (.getfield 15, 3, [7, 1, 2], [(0, 106)])   := rfl
theorem k_30_61 : am_cd 30 61 = some (.aload_n 0, 1, [], [])   := rfl
theorem k_30_62 : am_cd 30 62 = some (.getfield 56, 3, [7, 8, 0], [(0, 113)])   := rfl
theorem k_30_65 : am_cd 30 65 = some (.invokespecial 59, 3, [1, 4, 1], [(0, 441), (0, 442)])   := rfl
theorem k_30_68 : am_cd 30 68 = some (.areturn, 1, [], [])   := rfl
theorem e_30_0 {x : Option Nat} {a0 a1 : Option AV} : X xs L d 30 (0, [a0, a1, some (.inr x)], sk, h) res ↔ X xs L d 30 (1, [a0, a1, some (.inr x)], .inr x :: sk, h) res := i_aload_n k_30_0 rfl
theorem e_30_1 {v : Option Nat} : X xs L d 30 (1, lo, .inr v :: sk, h) res ↔ X xs L d 30 (if v = none then 4 else 6, lo, sk, h) res := i_ifnonnull k_30_1
theorem e_30_4 : X xs L d 30 (4, lo, sk, h) res ↔ X xs L d 30 (5, lo, .inr none :: sk, h) res := i_null k_30_4
theorem e_30_5 {v : Option Nat} : X xs L d 30 (5, lo, [.inr v], h) res ↔ res = (some (.inr v), h) := i_aret k_30_5 rfl
theorem e_30_6 {x : Option Nat} {a1 a2 : Option AV} : X xs L d 30 (6, [some (.inr x), a1, a2], sk, h) res ↔ X xs L d 30 (7, [some (.inr x), a1, a2], .inr x :: sk, h) res := i_aload_n k_30_6 rfl
theorem e_30_7 {x : Option Nat} {a0 a2 : Option AV} : X xs L d 30 (7, [a0, some (.inr x), a2], sk, h) res ↔ X xs L d 30 (8, [a0, some (.inr x), a2], .inr x :: sk, h) res := i_aload_n k_30_7 rfl
theorem e_30_8 {o : Nat} {v0 : Option Nat} (hs : sk.length ≤ 8) : X xs L d 30 (8, lo, .inr v0 :: .inr (some o) :: sk, h) res ↔ hK h o = 7 ∧ ∃ q : Res, Rn xs L d 31 [.inr (some o), .inr v0] h q ∧ X xs L d 30 (11, lo, q.1.toList ++ sk, q.2) res := i_callV k_30_8 rfl ⟨Nat.le_add_left 2 sk.length, Nat.le_trans (Nat.add_le_add_right hs 2) (Nat.le_of_eq (Nat.add_comm 8 2))⟩
theorem e_30_11 {x : Option Nat} {a1 a2 : Option AV} : X xs L d 30 (11, [some (.inr x), a1, a2], sk, h) res ↔ X xs L d 30 (12, [some (.inr x), a1, a2], .inr x :: sk, h) res := i_aload_n k_30_11 rfl
theorem e_30_12 : X xs L d 30 (12, lo, sk, h) res ↔ X xs L d 30 (13, lo, .inl 0 :: sk, h) res := i_iconst k_30_12
theorem e_30_13 {o : Nat} {v0 : Int32} (hs : sk.length ≤ 8) : X xs L d 30 (13, lo, .inl v0 :: .inr (some o) :: sk, h) res ↔ hK h o = 7 ∧ ∃ q : Res, Rn xs L d 41 [.inr (some o), .inl v0] h q ∧ X xs L d 30 (16, lo, q.1.toList ++ sk, q.2) res := i_callV k_30_13 rfl ⟨Nat.le_add_left 2 sk.length, Nat.le_trans (Nat.add_le_add_right hs 2) (Nat.le_of_eq (Nat.add_comm 8 2))⟩
theorem e_30_16 {x : Int32} : X xs L d 30 (16, lo, .inl x :: sk, h) res ↔ (if x = 0 then X xs L d 30 (41, lo, sk, h) res else X xs L d 30 (19, lo, sk, h) res) := i_if_eq k_30_16
theorem e_30_19 {x : Option Nat} {a1 a2 : Option AV} : X xs L d 30 (19, [some (.inr x), a1, a2], sk, h) res ↔ X xs L d 30 (20, [some (.inr x), a1, a2], .inr x :: sk, h) res := i_aload_n k_30_19 rfl
theorem e_30_20 {o : Nat} : X xs L d 30 (20, lo, .inr (some o) :: sk, h) res ↔ hK h o = 7 ∧ X xs L d 30 (23, lo, .inl (hI h o 7) :: sk, h) res := i_getI k_30_20
theorem e_30_23 {x : Option Nat} {a1 a2 : Option AV} : X xs L d 30 (23, [some (.inr x), a1, a2], sk, h) res ↔ X xs L d 30 (24, [some (.inr x), a1, a2], .inr x :: sk, h) res := i_aload_n k_30_23 rfl
theorem e_30_24 {o : Nat} : X xs L d 30 (24, lo, .inr (some o) :: sk, h) res ↔ hK h o = 7 ∧ X xs L d 30 (27, lo, .inl (hI h o 6) :: sk, h) res := i_getI k_30_24
theorem e_30_27 {x y : Int32} : X xs L d 30 (27, lo, .inl y :: .inl x :: sk, h) res ↔ (if x = y then X xs L d 30 (30, lo, sk, h) res else X xs L d 30 (41, lo, sk, h) res) := i_icmp_ne k_30_27
theorem e_30_30 {x : Option Nat} {a1 a2 : Option AV} : X xs L d 30 (30, [some (.inr x), a1, a2], sk, h) res ↔ X xs L d 30 (31, [some (.inr x), a1, a2], .inr x :: sk, h) res := i_aload_n k_30_30 rfl
theorem e_30_31 {x : Option Nat} {a0 a1 : Option AV} : X xs L d 30 (31, [a0, a1, some (.inr x)], sk, h) res ↔ X xs L d 30 (32, [a0, a1, some (.inr x)], .inr x :: sk, h) res := i_aload_n k_30_31 rfl
theorem e_30_32 {o : Nat} : X xs L d 30 (32, lo, .inr (some o) :: sk, h) res ↔ hK h o = 4 ∧ X xs L d 30 (35, lo, .inr (hR h o 2) :: sk, h) res := i_getR k_30_32
theorem e_30_35 {o : Nat} {v0 : Option Nat} (hs : sk.length ≤ 8) : X xs L d 30 (35, lo, .inr v0 :: .inr (some o) :: sk, h) res ↔ hK h o = 7 ∧ ∃ q : Res, Rn xs L d 32 [.inr (some o), .inr v0] h q ∧ X xs L d 30 (38, lo, q.1.toList ++ sk, q.2) res := i_callV k_30_35 rfl ⟨Nat.le_add_left 2 sk.length, Nat.le_trans (Nat.add_le_add_right hs 2) (Nat.le_of_eq (Nat.add_comm 8 2))⟩
theorem e_30_38 {x : Int32} : X xs L d 30 (38, lo, .inl x :: sk, h) res ↔ (if x = 0 then X xs L d 30 (41, lo, sk, h) res else X xs L d 30 (43, lo, sk, h) res) := i_if_ne k_30_38
theorem e_30_41 : X xs L d 30 (41, lo, sk, h) res ↔ X xs L d 30 (42, lo, .inr none :: sk, h) res := i_null k_30_41
theorem e_30_42 {v : Option Nat} : X xs L d 30 (42, lo, [.inr v], h) res ↔ res = (some (.inr v), h) := i_aret k_30_42 rfl
theorem e_30_43 {x : Option Nat} {a1 a2 : Option AV} : X xs L d 30 (43, [some (.inr x), a1, a2], sk, h) res ↔ X xs L d 30 (44, [some (.inr x), a1, a2], .inr x :: sk, h) res := i_aload_n k_30_43 rfl
theorem e_30_44 : X xs L d 30 (44, lo, sk, h) res ↔ X xs L d 30 (45, lo, .inl 0 :: sk, h) res := i_iconst k_30_44
theorem e_30_45 : X xs L d 30 (45, lo, sk, h) res ↔ X xs L d 30 (46, lo, .inl 0 :: sk, h) res := i_iconst k_30_45
theorem e_30_46 {o : Nat} {v0 : Int32} {v1 : Int32} (hs : sk.length ≤ 8) : X xs L d 30 (46, lo, .inl v1 :: .inl v0 :: .inr (some o) :: sk, h) res ↔ hK h o = 7 ∧ ∃ q : Res, Rn xs L d 45 [.inr (some o), .inl v0, .inl v1] h q ∧ X xs L d 30 (49, lo, q.1.toList ++ sk, q.2) res := i_callV k_30_46 rfl ⟨Nat.le_add_left 3 sk.length, Nat.le_trans (Nat.add_le_add_right hs 3) (Nat.le_of_eq (Nat.add_comm 8 3))⟩
theorem e_30_49 : X xs L d 30 (49, lo, sk, h) res ↔ X xs L d 30 (52, lo, .inr (some (hN h)) :: sk, nw h 1 0 3) res := i_new k_30_49
theorem e_30_52 {v : AV} : X xs L d 30 (52, lo, v :: sk, h) res ↔ X xs L d 30 (53, lo, v :: v :: sk, h) res := i_dup k_30_52
theorem e_30_53 {x : Option Nat} {a1 a2 : Option AV} : X xs L d 30 (53, [some (.inr x), a1, a2], sk, h) res ↔ X xs L d 30 (54, [some (.inr x), a1, a2], .inr x :: sk, h) res := i_aload_n k_30_53 rfl
theorem e_30_54 {o : Nat} : X xs L d 30 (54, lo, .inr (some o) :: sk, h) res ↔ hK h o = 7 ∧ X xs L d 30 (57, lo, .inr (hR h o 0) :: sk, h) res := i_getR k_30_54
theorem e_30_57 {x : Option Nat} {a1 a2 : Option AV} : X xs L d 30 (57, [some (.inr x), a1, a2], sk, h) res ↔ X xs L d 30 (58, [some (.inr x), a1, a2], .inr x :: sk, h) res := i_aload_n k_30_57 rfl
theorem e_30_58 {o : Nat} : X xs L d 30 (58, lo, .inr (some o) :: sk, h) res ↔ hK h o = 7 ∧ X xs L d 30 (61, lo, .inr (hR h o 1) :: sk, h) res := i_getR k_30_58
theorem e_30_61 {x : Option Nat} {a1 a2 : Option AV} : X xs L d 30 (61, [some (.inr x), a1, a2], sk, h) res ↔ X xs L d 30 (62, [some (.inr x), a1, a2], .inr x :: sk, h) res := i_aload_n k_30_61 rfl
theorem e_30_62 {o : Nat} : X xs L d 30 (62, lo, .inr (some o) :: sk, h) res ↔ hK h o = 7 ∧ X xs L d 30 (65, lo, .inl (hI h o 8) :: sk, h) res := i_getI k_30_62
theorem e_30_65 {o : Nat} {v0 : Option Nat} {v1 : Option Nat} {v2 : Int32} (hs : sk.length ≤ 8) : X xs L d 30 (65, lo, .inl v2 :: .inr v1 :: .inr v0 :: .inr (some o) :: sk, h) res ↔ hK h o = 1 ∧ ∃ q : Res, Rn xs L d 1 [.inr (some o), .inr v0, .inr v1, .inl v2] h q ∧ X xs L d 30 (68, lo, q.1.toList ++ sk, q.2) res := i_callI k_30_65 rfl ⟨Nat.le_add_left 4 sk.length, Nat.le_trans (Nat.add_le_add_right hs 4) (Nat.le_of_eq (Nat.add_comm 8 4))⟩
theorem e_30_68 {v : Option Nat} : X xs L d 30 (68, lo, [.inr v], h) res ↔ res = (some (.inr v), h) := i_aret k_30_68 rfl
theorem k_31_0 : am_cd 31 0 = some (.aload_n 0, 1, [], [])   := rfl
theorem k_31_1 : am_cd 31 1 = some (.aload_n 1, 1, [], [])   := rfl
theorem k_31_2 : am_cd 31 2 = some (.getfield 77, 3, [6, 0, 2], [(0, 89)])   := rfl
theorem k_31_5 : am_cd 31 5 = some (.putfield 83, 3, [7, 5, 2], [(0, 110)])   := rfl
theorem k_31_8 : am_cd 31 8 = some (.aload_n 0, 1, [], [])   := rfl
theorem k_31_9 : am_cd 31 9 = some (.aload_n 1, 1, [], [])   := rfl
theorem k_31_10 : am_cd 31 10 = some (.getfield 84, 3, [6, 1, 0], [(0, 91)])   := rfl
theorem k_31_13 : am_cd 31 13 = some (.putfield 41, 3, [7, 6, 0], [(0, 111)])   := rfl
theorem k_31_16 : am_cd 31 16 = some (.aload_n 0, 1, [], [])   := rfl
theorem k_31_17 : am_cd 31 17 = some (.iconst 0, 1, [], [(0, 0)])   := rfl
theorem k_31_18 : am_cd 31 18 = some (.putfield 37, 3, [7, 7, 0], [(0, 112)])   := rfl
theorem k_31_21 : am_cd 31 21 = some (.aload_n 0, 1, [], [])   := rfl
theorem k_31_22 : am_cd 31 22 = some (.iconst 0, 1, [], [(0, 0)])   := rfl
theorem k_31_23 : am_cd 31 23 = some (.putfield 56, 3, [7, 8, 0], [(0, 113)])   := rfl
theorem k_31_26 : am_cd 31 26 = some (.aload_n 0, 1, [], [])   := rfl
theorem k_31_27 : am_cd 31 27 = some (.iconst 0, 1, [], [(0, 0)])   := rfl
theorem k_31_28 : am_cd 31 28 = some (.putfield 62, 3, [7, 9, 0], [(0, 114)])   := rfl
theorem k_31_31 : am_cd 31 31 = some (.aload_n 0, 1, [], [])   := rfl
theorem k_31_32 : am_cd 31 32 = some (.getfield 24, 3, [7, 4, 2], [(0, 109)])   := rfl
theorem k_31_35 : am_cd 31 35 = some (.iconst (-1), 1, [], [(-1, 0)])   := rfl
theorem k_31_36 : am_cd 31 36 = some (.invokestatic 31, 3, [127, 2], [(0, 276), (0, 277)])   := rfl
theorem k_31_39 : am_cd 31 39 = some (.return_, 1, [], [])   := rfl
theorem e_31_0 {x : Option Nat} {a1 : Option AV} : X xs L d 31 (0, [some (.inr x), a1], sk, h) res ↔ X xs L d 31 (1, [some (.inr x), a1], .inr x :: sk, h) res := i_aload_n k_31_0 rfl
theorem e_31_1 {x : Option Nat} {a0 : Option AV} : X xs L d 31 (1, [a0, some (.inr x)], sk, h) res ↔ X xs L d 31 (2, [a0, some (.inr x)], .inr x :: sk, h) res := i_aload_n k_31_1 rfl
theorem e_31_2 {o : Nat} : X xs L d 31 (2, lo, .inr (some o) :: sk, h) res ↔ hK h o = 6 ∧ X xs L d 31 (5, lo, .inr (hR h o 0) :: sk, h) res := i_getR k_31_2
theorem e_31_5 {o : Nat} {v : Option Nat} : X xs L d 31 (5, lo, .inr v :: .inr (some o) :: sk, h) res ↔ hK h o = 7 ∧ X xs L d 31 (8, lo, sk, sR h o 5 v) res := i_putR k_31_5
theorem e_31_8 {x : Option Nat} {a1 : Option AV} : X xs L d 31 (8, [some (.inr x), a1], sk, h) res ↔ X xs L d 31 (9, [some (.inr x), a1], .inr x :: sk, h) res := i_aload_n k_31_8 rfl
theorem e_31_9 {x : Option Nat} {a0 : Option AV} : X xs L d 31 (9, [a0, some (.inr x)], sk, h) res ↔ X xs L d 31 (10, [a0, some (.inr x)], .inr x :: sk, h) res := i_aload_n k_31_9 rfl
theorem e_31_10 {o : Nat} : X xs L d 31 (10, lo, .inr (some o) :: sk, h) res ↔ hK h o = 6 ∧ X xs L d 31 (13, lo, .inl (hI h o 1) :: sk, h) res := i_getI k_31_10
theorem e_31_13 {o : Nat} {v : Int32} : X xs L d 31 (13, lo, .inl v :: .inr (some o) :: sk, h) res ↔ hK h o = 7 ∧ X xs L d 31 (16, lo, sk, sI h o 6 v) res := i_putI k_31_13
theorem e_31_16 {x : Option Nat} {a1 : Option AV} : X xs L d 31 (16, [some (.inr x), a1], sk, h) res ↔ X xs L d 31 (17, [some (.inr x), a1], .inr x :: sk, h) res := i_aload_n k_31_16 rfl
theorem e_31_17 : X xs L d 31 (17, lo, sk, h) res ↔ X xs L d 31 (18, lo, .inl 0 :: sk, h) res := i_iconst k_31_17
theorem e_31_18 {o : Nat} {v : Int32} : X xs L d 31 (18, lo, .inl v :: .inr (some o) :: sk, h) res ↔ hK h o = 7 ∧ X xs L d 31 (21, lo, sk, sI h o 7 v) res := i_putI k_31_18
theorem e_31_21 {x : Option Nat} {a1 : Option AV} : X xs L d 31 (21, [some (.inr x), a1], sk, h) res ↔ X xs L d 31 (22, [some (.inr x), a1], .inr x :: sk, h) res := i_aload_n k_31_21 rfl
theorem e_31_22 : X xs L d 31 (22, lo, sk, h) res ↔ X xs L d 31 (23, lo, .inl 0 :: sk, h) res := i_iconst k_31_22
theorem e_31_23 {o : Nat} {v : Int32} : X xs L d 31 (23, lo, .inl v :: .inr (some o) :: sk, h) res ↔ hK h o = 7 ∧ X xs L d 31 (26, lo, sk, sI h o 8 v) res := i_putI k_31_23
theorem e_31_26 {x : Option Nat} {a1 : Option AV} : X xs L d 31 (26, [some (.inr x), a1], sk, h) res ↔ X xs L d 31 (27, [some (.inr x), a1], .inr x :: sk, h) res := i_aload_n k_31_26 rfl
theorem e_31_27 : X xs L d 31 (27, lo, sk, h) res ↔ X xs L d 31 (28, lo, .inl 0 :: sk, h) res := i_iconst k_31_27
theorem e_31_28 {o : Nat} {v : Int32} : X xs L d 31 (28, lo, .inl v :: .inr (some o) :: sk, h) res ↔ hK h o = 7 ∧ X xs L d 31 (31, lo, sk, sI h o 9 v) res := i_putI k_31_28
theorem e_31_31 {x : Option Nat} {a1 : Option AV} : X xs L d 31 (31, [some (.inr x), a1], sk, h) res ↔ X xs L d 31 (32, [some (.inr x), a1], .inr x :: sk, h) res := i_aload_n k_31_31 rfl
theorem e_31_32 {o : Nat} : X xs L d 31 (32, lo, .inr (some o) :: sk, h) res ↔ hK h o = 7 ∧ X xs L d 31 (35, lo, .inr (hR h o 4) :: sk, h) res := i_getR k_31_32
theorem e_31_35 : X xs L d 31 (35, lo, sk, h) res ↔ X xs L d 31 (36, lo, .inl (-1) :: sk, h) res := i_iconst k_31_35
theorem e_31_36 {v0 : Option Nat} {v1 : Int32} (hs : sk.length ≤ 8) : X xs L d 31 (36, lo, .inl v1 :: .inr v0 :: sk, h) res ↔ ∃ q : Res, Rn xs L d 127 [.inr v0, .inl v1] h q ∧ X xs L d 31 (39, lo, q.1.toList ++ sk, q.2) res := i_callS k_31_36 ⟨Nat.le_add_left 2 sk.length, Nat.le_trans (Nat.add_le_add_right hs 2) (Nat.le_of_eq (Nat.add_comm 8 2))⟩
theorem e_31_39 : X xs L d 31 (39, lo, [], h) res ↔ res = (none, h) := i_vret k_31_39 rfl
theorem k_32_0 : am_cd 32 0 = some (.iconst 0, 1, [], [(0, 0)])   := rfl
theorem k_32_1 : am_cd 32 1 = some (.istore_n 2, 1, [], [])   := rfl
theorem k_32_2 : am_cd 32 2 = some (.iload_n 2, 1, [], [])   := rfl
theorem k_32_3 : am_cd 32 3 = some (.iconst 4, 1, [], [(4, 0)])   := rfl
theorem k_32_4 : am_cd 32 4 = some (.if_icmp .ge 33, 3, [37], [])   := rfl
theorem k_32_7 : am_cd 32 7 = some (.aload_n 0, 1, [], [])   := rfl
theorem k_32_8 : am_cd 32 8 = some (.getfield 24, 3, [7, 4, 2], [(0, 109)])   := rfl
theorem k_32_11 : am_cd 32 11 = some (.iload_n 2, 1, [], [])   := rfl
theorem k_32_12 : am_cd 32 12 = some (.iaload, 1, [], [])   := rfl
theorem k_32_13 : am_cd 32 13 = some (.iconst (-1), 1, [], [(-1, 0)])   := rfl
theorem k_32_14 : am_cd 32 14 = some (.if_icmp .eq 17, 3, [31], [])   := rfl
theorem k_32_17 : am_cd 32 17 = some (.aload_n 0, 1, [], [])   := rfl
theorem k_32_18 : am_cd 32 18 = some (.getfield 24, 3, [7, 4, 2], [(0, 109)])   := rfl
theorem k_32_21 : am_cd 32 21 = some (.iload_n 2, 1, [], [])   := rfl
theorem k_32_22 : am_cd 32 22 = some (.iaload, 1, [], [])   := rfl
theorem k_32_23 : am_cd 32 23 = some (.aload_n 1, 1, [], [])   := rfl
theorem k_32_24 : am_cd 32 24 = some (.iload_n 2, 1, [], [])   := rfl
theorem k_32_25 : am_cd 32 25 = some (.iaload, 1, [], [])   := rfl
theorem k_32_26 : am_cd 32 26 = some (.if_icmp .eq 5, 3, [31], [])   := rfl
theorem k_32_29 : am_cd 32 29 = some (.iconst 0, 1, [], [(0, 0)])   := rfl
theorem k_32_30 : am_cd 32 30 = some (.ireturn, 1, [], [])   := rfl
theorem k_32_31 : am_cd 32 31 = some (.iinc 2 1, 3, [], [(1, 0)])   := rfl
theorem k_32_34 : am_cd 32 34 = some (.goto (-32), 3, [2], [])   := rfl
theorem k_32_37 : am_cd 32 37 = some (.iconst 1, 1, [], [(1, 0)])   := rfl
theorem k_32_38 : am_cd 32 38 = some (.ireturn, 1, [], [])   := rfl
theorem e_32_0 : X xs L d 32 (0, lo, sk, h) res ↔ X xs L d 32 (1, lo, .inl 0 :: sk, h) res := i_iconst k_32_0
theorem e_32_1 {x : Int32} {a0 a1 a2 : Option AV} : X xs L d 32 (1, [a0, a1, a2], .inl x :: sk, h) res ↔ X xs L d 32 (2, [a0, a1, some (.inl x)], sk, h) res := i_istore_n k_32_1 (Nat.le_of_ble_eq_true rfl) rfl
theorem e_32_2 {x : Int32} {a0 a1 : Option AV} : X xs L d 32 (2, [a0, a1, some (.inl x)], sk, h) res ↔ X xs L d 32 (3, [a0, a1, some (.inl x)], .inl x :: sk, h) res := i_iload_n k_32_2 rfl
theorem e_32_3 : X xs L d 32 (3, lo, sk, h) res ↔ X xs L d 32 (4, lo, .inl 4 :: sk, h) res := i_iconst k_32_3
theorem e_32_4 {x y : Int32} : X xs L d 32 (4, lo, .inl y :: .inl x :: sk, h) res ↔ (if y ≤ x then X xs L d 32 (37, lo, sk, h) res else X xs L d 32 (7, lo, sk, h) res) := i_icmp_ge k_32_4
theorem e_32_7 {x : Option Nat} {a1 a2 : Option AV} : X xs L d 32 (7, [some (.inr x), a1, a2], sk, h) res ↔ X xs L d 32 (8, [some (.inr x), a1, a2], .inr x :: sk, h) res := i_aload_n k_32_7 rfl
theorem e_32_8 {o : Nat} : X xs L d 32 (8, lo, .inr (some o) :: sk, h) res ↔ hK h o = 7 ∧ X xs L d 32 (11, lo, .inr (hR h o 4) :: sk, h) res := i_getR k_32_8
theorem e_32_11 {x : Int32} {a0 a1 : Option AV} : X xs L d 32 (11, [a0, a1, some (.inl x)], sk, h) res ↔ X xs L d 32 (12, [a0, a1, some (.inl x)], .inl x :: sk, h) res := i_iload_n k_32_11 rfl
theorem e_32_12 {o : Nat} {i : Int32} : X xs L d 32 (12, lo, .inl i :: .inr (some o) :: sk, h) res ↔ (hK h o = 20 ∧ vp_in i (hL h o)) ∧ X xs L d 32 (13, lo, .inl (hI h o i.toNatClampNeg) :: sk, h) res := i_iaload k_32_12
theorem e_32_13 : X xs L d 32 (13, lo, sk, h) res ↔ X xs L d 32 (14, lo, .inl (-1) :: sk, h) res := i_iconst k_32_13
theorem e_32_14 {x y : Int32} : X xs L d 32 (14, lo, .inl y :: .inl x :: sk, h) res ↔ (if x = y then X xs L d 32 (31, lo, sk, h) res else X xs L d 32 (17, lo, sk, h) res) := i_icmp_eq k_32_14
theorem e_32_17 {x : Option Nat} {a1 a2 : Option AV} : X xs L d 32 (17, [some (.inr x), a1, a2], sk, h) res ↔ X xs L d 32 (18, [some (.inr x), a1, a2], .inr x :: sk, h) res := i_aload_n k_32_17 rfl
theorem e_32_18 {o : Nat} : X xs L d 32 (18, lo, .inr (some o) :: sk, h) res ↔ hK h o = 7 ∧ X xs L d 32 (21, lo, .inr (hR h o 4) :: sk, h) res := i_getR k_32_18
theorem e_32_21 {x : Int32} {a0 a1 : Option AV} : X xs L d 32 (21, [a0, a1, some (.inl x)], sk, h) res ↔ X xs L d 32 (22, [a0, a1, some (.inl x)], .inl x :: sk, h) res := i_iload_n k_32_21 rfl
theorem e_32_22 {o : Nat} {i : Int32} : X xs L d 32 (22, lo, .inl i :: .inr (some o) :: sk, h) res ↔ (hK h o = 20 ∧ vp_in i (hL h o)) ∧ X xs L d 32 (23, lo, .inl (hI h o i.toNatClampNeg) :: sk, h) res := i_iaload k_32_22
theorem e_32_23 {x : Option Nat} {a0 a2 : Option AV} : X xs L d 32 (23, [a0, some (.inr x), a2], sk, h) res ↔ X xs L d 32 (24, [a0, some (.inr x), a2], .inr x :: sk, h) res := i_aload_n k_32_23 rfl
theorem e_32_24 {x : Int32} {a0 a1 : Option AV} : X xs L d 32 (24, [a0, a1, some (.inl x)], sk, h) res ↔ X xs L d 32 (25, [a0, a1, some (.inl x)], .inl x :: sk, h) res := i_iload_n k_32_24 rfl
theorem e_32_25 {o : Nat} {i : Int32} : X xs L d 32 (25, lo, .inl i :: .inr (some o) :: sk, h) res ↔ (hK h o = 20 ∧ vp_in i (hL h o)) ∧ X xs L d 32 (26, lo, .inl (hI h o i.toNatClampNeg) :: sk, h) res := i_iaload k_32_25
theorem e_32_26 {x y : Int32} : X xs L d 32 (26, lo, .inl y :: .inl x :: sk, h) res ↔ (if x = y then X xs L d 32 (31, lo, sk, h) res else X xs L d 32 (29, lo, sk, h) res) := i_icmp_eq k_32_26
theorem e_32_29 : X xs L d 32 (29, lo, sk, h) res ↔ X xs L d 32 (30, lo, .inl 0 :: sk, h) res := i_iconst k_32_29
theorem e_32_30 {v : Int32} : X xs L d 32 (30, lo, [.inl v], h) res ↔ (v = 0 ∨ v = 1) ∧ res = (some (.inl v), h) := i_zret k_32_30 rfl
theorem e_32_31 {x : Int32} {a0 a1 : Option AV} : X xs L d 32 (31, [a0, a1, some (.inl x)], sk, h) res ↔ X xs L d 32 (34, [a0, a1, some (.inl (x + 1))], sk, h) res := i_iinc k_32_31 rfl rfl
theorem e_32_34 : X xs L d 32 (34, lo, sk, h) res ↔ X xs L d 32 (2, lo, sk, h) res := i_goto k_32_34
theorem e_32_37 : X xs L d 32 (37, lo, sk, h) res ↔ X xs L d 32 (38, lo, .inl 1 :: sk, h) res := i_iconst k_32_37
theorem e_32_38 {v : Int32} : X xs L d 32 (38, lo, [.inl v], h) res ↔ (v = 0 ∨ v = 1) ∧ res = (some (.inl v), h) := i_zret k_32_38 rfl
theorem k_33_0 : am_cd 33 0 = some (.aload_n 0, 1, [], [])   := rfl
theorem k_33_1 : am_cd 33 1 = some (.invokevirtual 85, 3, [46, 1, 7], [(0, 283), (0, 285), (0, 2)])   := rfl
theorem k_33_4 : am_cd 33 4 = some (.bipush 65, 2, [], [(65, 0)])   := rfl
theorem k_33_6 : am_cd 33 6 = some (.isub, 1, [], [])   := rfl
theorem k_33_7 : am_cd 33 7 = some (.istore_n 1, 1, [], [])   := rfl
theorem k_33_8 : am_cd 33 8 = some (.aload_n 0, 1, [], [])   := rfl
theorem k_33_9 : am_cd 33 9 = some (.dup, 1, [], [])   := rfl
theorem k_33_10 : am_cd 33 10 = some (.getfield 37, 3, [7, 7, 0], [(0, 112)])   := rfl
theorem k_33_13 : am_cd 33 13 = some (.iconst 1, 1, [], [(1, 0)])   := rfl
theorem k_33_14 : am_cd 33 14 = some (.iadd, 1, [], [])   := rfl
theorem k_33_15 : am_cd 33 15 = some (.putfield 37, 3, [7, 7, 0], [(0, 112)])   := rfl
theorem k_33_18 : am_cd 33 18 = some (.aload_n 0, 1, [], [])   := rfl
theorem k_33_19 : am_cd 33 19 = some (.invokevirtual 85, 3, [46, 1, 7], [(0, 283), (0, 285), (0, 2)])   := rfl
theorem k_33_22 : am_cd 33 22 = some (.bipush 48, 2, [], [(48, 0)])   := rfl
theorem k_33_24 : am_cd 33 24 = some (.isub, 1, [], [])   := rfl
theorem k_33_25 : am_cd 33 25 = some (.istore_n 2, 1, [], [])   := rfl
theorem k_33_26 : am_cd 33 26 = some (.aload_n 0, 1, [], [])   := rfl
theorem k_33_27 : am_cd 33 27 = some (.dup, 1, [], [])   := rfl
theorem k_33_28 : am_cd 33 28 = some (.getfield 37, 3, [7, 7, 0], [(0, 112)])   := rfl
theorem k_33_31 : am_cd 33 31 = some (.iconst 1, 1, [], [(1, 0)])   := rfl
theorem k_33_32 : am_cd 33 32 = some (.iadd, 1, [], [])   := rfl
theorem k_33_33 : am_cd 33 33 = some (.putfield 37, 3, [7, 7, 0], [(0, 112)])   := rfl
theorem k_33_36 : am_cd 33 36 = some (.iload_n 1, 1, [], [])   := rfl
theorem k_33_37 : am_cd 33 37 = some (.ifCond .lt 18, 3, [55], [])   := rfl
theorem k_33_40 : am_cd 33 40 = some (.iload_n 1, 1, [], [])   := rfl
theorem k_33_41 : am_cd 33 41 = some (.iconst 4, 1, [], [(4, 0)])   := rfl
theorem k_33_42 : am_cd 33 42 = some (.if_icmp .ge 13, 3, [55], [])   := rfl
theorem k_33_45 : am_cd 33 45 = some (.aload_n 0, 1, [], [])   := rfl
theorem k_33_46 : am_cd 33 46 = some (.getfield 21, 3, [7, 3, 2], [(0, 108)])   := rfl
theorem k_33_49 : am_cd 33 49 = some (.iload_n 1, 1, [], [])   := rfl
theorem k_33_50 : am_cd 33 50 = some (.iaload, 1, [], [])   := rfl
theorem k_33_51 : am_cd 33 51 = some (.iconst (-1), 1, [], [(-1, 0)])   := rfl
theorem k_33_52 : am_cd 33 52 = some (.if_icmp .eq 5, 3, [57], [])   := rfl
theorem k_33_55 : am_cd 33 55 = some (.iconst 0, 1, [], [(0, 0)])   := rfl
theorem k_33_56 : am_cd 33 56 = some (.ireturn, 1, [], [])   := rfl
theorem k_33_57 : am_cd 33 57 = some (.iload_n 2, 1, [], [])   := rfl
theorem k_33_58 : am_cd 33 58 = some (.ifCond .lt 8, 3, [66], [])   := rfl
theorem k_33_61 : am_cd 33 61 = some (.iload_n 2, 1, [], [])   := rfl
theorem k_33_62 : am_cd 33 62 = some (.iconst 3, 1, [], [(3, 0)])   := rfl
theorem k_33_63 : am_cd 33 63 = some (.if_icmp .le 5, 3, [68], [])   := rfl
theorem k_33_66 : am_cd 33 66 = some (.iconst 0, 1, [], [(0, 0)])   := rfl
theorem k_33_67 : am_cd 33 67 = some (.ireturn, 1, [], [])   := rfl
theorem k_33_68 : am_cd 33 68 = some (.aload_n 0, 1, [], [])   := rfl
theorem k_33_69 : am_cd 33 69 = some (.getfield 21, 3, [7, 3, 2], [(0, 108)])   := rfl
theorem k_33_72 : am_cd 33 72 = some (.iload_n 1, 1, [], [])   := rfl
theorem k_33_73 : am_cd 33 73 = some (.iload_n 2, 1, [], [])   := rfl
theorem k_33_74 : am_cd 33 74 = some (.iastore, 1, [], [])   := rfl
theorem k_33_75 : am_cd 33 75 = some (.aload_n 0, 1, [], [])   := rfl
theorem k_33_76 : am_cd 33 76 = some (.getfield 18, 3, [7, 2, 2], [(0, 107)])   := rfl
theorem k_33_79 : am_cd 33 79 = some (.iload_n 1, 1, [], [])   := rfl
theorem k_33_80 : am_cd 33 80 = some (.aload_n 0, 1, [], [])   := rfl
theorem k_33_81 : am_cd 33 81 = some (.getfield 56, 3, [7, 8, 0], [(0, 113)])   := rfl
theorem k_33_84 : am_cd 33 84 = some (.iastore, 1, [], [])   := rfl
theorem k_33_85 : am_cd 33 85 = some (.aload_n 0, 1, [], [])   := rfl
theorem k_33_86 : am_cd 33 86 = some (.iconst 1, 1, [], [(1, 0)])   := rfl
theorem k_33_87 : am_cd 33 87 = some (.invokevirtual 89, 3, [34, 2, 7], [(0, 287), (0, 289), (0, 3)])   := rfl
theorem k_33_90 : am_cd 33 90 = some (.ifCond .ne 5, 3, [95], [])   := rfl
theorem k_33_93 : am_cd 33 93 = some (.iconst 0, 1, [], [(0, 0)])   := rfl
theorem k_33_94 : am_cd 33 94 = some (.ireturn, 1, [], [])   := rfl
theorem k_33_95 : am_cd 33 95 = some (.aload_n 0, 1, [], [])   := rfl
theorem k_33_96 : am_cd 33 96 = some (.iconst 1, 1, [], [(1, 0)])   := rfl
theorem k_33_97 : am_cd 33 97 = some (.iconst 0, 1, [], [(0, 0)])   := rfl
theorem k_33_98 : am_cd 33 98 = some (.invokevirtual 73, 3, [45, 3, 7], [(0, 299), (0, 301), (0, 6)])   := rfl
theorem k_33_101 : am_cd 33 101 = some (.aload_n 0, 1, [], [])   := rfl
theorem k_33_102 : am_cd 33 102 = some (.iconst 0, 1, [], [(0, 0)])   := rfl
theorem k_33_103 : am_cd 33 103 = some (.iconst 0, 1, [], [(0, 0)])   := rfl
theorem k_33_104 : am_cd 33 104 = some (.invokevirtual 73, 3, [45, 3, 7], [(0, 299), (0, 301), (0, 6)])   := rfl
theorem k_33_107 : am_cd 33 107 = some (.iconst 1, 1, [], [(1, 0)])   := rfl
theorem k_33_108 : am_cd 33 108 = some (.ireturn, 1, [], [])   := rfl
theorem e_33_0 {x : Option Nat} {a1 a2 : Option AV} : X xs L d 33 (0, [some (.inr x), a1, a2], sk, h) res ↔ X xs L d 33 (1, [some (.inr x), a1, a2], .inr x :: sk, h) res := i_aload_n k_33_0 rfl
theorem e_33_1 {o : Nat} (hs : sk.length ≤ 8) : X xs L d 33 (1, lo, .inr (some o) :: sk, h) res ↔ hK h o = 7 ∧ ∃ q : Res, Rn xs L d 46 [.inr (some o)] h q ∧ X xs L d 33 (4, lo, q.1.toList ++ sk, q.2) res := i_callV k_33_1 rfl ⟨Nat.le_add_left 1 sk.length, Nat.le_trans (Nat.add_le_add_right hs 1) (Nat.le_of_eq (Nat.add_comm 8 1))⟩
theorem e_33_4 : X xs L d 33 (4, lo, sk, h) res ↔ X xs L d 33 (6, lo, .inl 65 :: sk, h) res := i_bipush k_33_4
theorem e_33_6 {x y : Int32} : X xs L d 33 (6, lo, .inl y :: .inl x :: sk, h) res ↔ X xs L d 33 (7, lo, .inl (x - y) :: sk, h) res := i_isub k_33_6
theorem e_33_7 {x : Int32} {a0 a1 a2 : Option AV} : X xs L d 33 (7, [a0, a1, a2], .inl x :: sk, h) res ↔ X xs L d 33 (8, [a0, some (.inl x), a2], sk, h) res := i_istore_n k_33_7 (Nat.le_of_ble_eq_true rfl) rfl
theorem e_33_8 {x : Option Nat} {a1 a2 : Option AV} : X xs L d 33 (8, [some (.inr x), a1, a2], sk, h) res ↔ X xs L d 33 (9, [some (.inr x), a1, a2], .inr x :: sk, h) res := i_aload_n k_33_8 rfl
theorem e_33_9 {v : AV} : X xs L d 33 (9, lo, v :: sk, h) res ↔ X xs L d 33 (10, lo, v :: v :: sk, h) res := i_dup k_33_9
theorem e_33_10 {o : Nat} : X xs L d 33 (10, lo, .inr (some o) :: sk, h) res ↔ hK h o = 7 ∧ X xs L d 33 (13, lo, .inl (hI h o 7) :: sk, h) res := i_getI k_33_10
theorem e_33_13 : X xs L d 33 (13, lo, sk, h) res ↔ X xs L d 33 (14, lo, .inl 1 :: sk, h) res := i_iconst k_33_13
theorem e_33_14 {x y : Int32} : X xs L d 33 (14, lo, .inl y :: .inl x :: sk, h) res ↔ X xs L d 33 (15, lo, .inl (x + y) :: sk, h) res := i_iadd k_33_14
theorem e_33_15 {o : Nat} {v : Int32} : X xs L d 33 (15, lo, .inl v :: .inr (some o) :: sk, h) res ↔ hK h o = 7 ∧ X xs L d 33 (18, lo, sk, sI h o 7 v) res := i_putI k_33_15
theorem e_33_18 {x : Option Nat} {a1 a2 : Option AV} : X xs L d 33 (18, [some (.inr x), a1, a2], sk, h) res ↔ X xs L d 33 (19, [some (.inr x), a1, a2], .inr x :: sk, h) res := i_aload_n k_33_18 rfl
theorem e_33_19 {o : Nat} (hs : sk.length ≤ 8) : X xs L d 33 (19, lo, .inr (some o) :: sk, h) res ↔ hK h o = 7 ∧ ∃ q : Res, Rn xs L d 46 [.inr (some o)] h q ∧ X xs L d 33 (22, lo, q.1.toList ++ sk, q.2) res := i_callV k_33_19 rfl ⟨Nat.le_add_left 1 sk.length, Nat.le_trans (Nat.add_le_add_right hs 1) (Nat.le_of_eq (Nat.add_comm 8 1))⟩
theorem e_33_22 : X xs L d 33 (22, lo, sk, h) res ↔ X xs L d 33 (24, lo, .inl 48 :: sk, h) res := i_bipush k_33_22
theorem e_33_24 {x y : Int32} : X xs L d 33 (24, lo, .inl y :: .inl x :: sk, h) res ↔ X xs L d 33 (25, lo, .inl (x - y) :: sk, h) res := i_isub k_33_24
theorem e_33_25 {x : Int32} {a0 a1 a2 : Option AV} : X xs L d 33 (25, [a0, a1, a2], .inl x :: sk, h) res ↔ X xs L d 33 (26, [a0, a1, some (.inl x)], sk, h) res := i_istore_n k_33_25 (Nat.le_of_ble_eq_true rfl) rfl
theorem e_33_26 {x : Option Nat} {a1 a2 : Option AV} : X xs L d 33 (26, [some (.inr x), a1, a2], sk, h) res ↔ X xs L d 33 (27, [some (.inr x), a1, a2], .inr x :: sk, h) res := i_aload_n k_33_26 rfl
theorem e_33_27 {v : AV} : X xs L d 33 (27, lo, v :: sk, h) res ↔ X xs L d 33 (28, lo, v :: v :: sk, h) res := i_dup k_33_27
theorem e_33_28 {o : Nat} : X xs L d 33 (28, lo, .inr (some o) :: sk, h) res ↔ hK h o = 7 ∧ X xs L d 33 (31, lo, .inl (hI h o 7) :: sk, h) res := i_getI k_33_28
theorem e_33_31 : X xs L d 33 (31, lo, sk, h) res ↔ X xs L d 33 (32, lo, .inl 1 :: sk, h) res := i_iconst k_33_31
theorem e_33_32 {x y : Int32} : X xs L d 33 (32, lo, .inl y :: .inl x :: sk, h) res ↔ X xs L d 33 (33, lo, .inl (x + y) :: sk, h) res := i_iadd k_33_32
theorem e_33_33 {o : Nat} {v : Int32} : X xs L d 33 (33, lo, .inl v :: .inr (some o) :: sk, h) res ↔ hK h o = 7 ∧ X xs L d 33 (36, lo, sk, sI h o 7 v) res := i_putI k_33_33
theorem e_33_36 {x : Int32} {a0 a2 : Option AV} : X xs L d 33 (36, [a0, some (.inl x), a2], sk, h) res ↔ X xs L d 33 (37, [a0, some (.inl x), a2], .inl x :: sk, h) res := i_iload_n k_33_36 rfl
theorem e_33_37 {x : Int32} : X xs L d 33 (37, lo, .inl x :: sk, h) res ↔ (if x < 0 then X xs L d 33 (55, lo, sk, h) res else X xs L d 33 (40, lo, sk, h) res) := i_if_lt k_33_37
theorem e_33_40 {x : Int32} {a0 a2 : Option AV} : X xs L d 33 (40, [a0, some (.inl x), a2], sk, h) res ↔ X xs L d 33 (41, [a0, some (.inl x), a2], .inl x :: sk, h) res := i_iload_n k_33_40 rfl
theorem e_33_41 : X xs L d 33 (41, lo, sk, h) res ↔ X xs L d 33 (42, lo, .inl 4 :: sk, h) res := i_iconst k_33_41
theorem e_33_42 {x y : Int32} : X xs L d 33 (42, lo, .inl y :: .inl x :: sk, h) res ↔ (if y ≤ x then X xs L d 33 (55, lo, sk, h) res else X xs L d 33 (45, lo, sk, h) res) := i_icmp_ge k_33_42
theorem e_33_45 {x : Option Nat} {a1 a2 : Option AV} : X xs L d 33 (45, [some (.inr x), a1, a2], sk, h) res ↔ X xs L d 33 (46, [some (.inr x), a1, a2], .inr x :: sk, h) res := i_aload_n k_33_45 rfl
theorem e_33_46 {o : Nat} : X xs L d 33 (46, lo, .inr (some o) :: sk, h) res ↔ hK h o = 7 ∧ X xs L d 33 (49, lo, .inr (hR h o 3) :: sk, h) res := i_getR k_33_46
theorem e_33_49 {x : Int32} {a0 a2 : Option AV} : X xs L d 33 (49, [a0, some (.inl x), a2], sk, h) res ↔ X xs L d 33 (50, [a0, some (.inl x), a2], .inl x :: sk, h) res := i_iload_n k_33_49 rfl
theorem e_33_50 {o : Nat} {i : Int32} : X xs L d 33 (50, lo, .inl i :: .inr (some o) :: sk, h) res ↔ (hK h o = 20 ∧ vp_in i (hL h o)) ∧ X xs L d 33 (51, lo, .inl (hI h o i.toNatClampNeg) :: sk, h) res := i_iaload k_33_50
theorem e_33_51 : X xs L d 33 (51, lo, sk, h) res ↔ X xs L d 33 (52, lo, .inl (-1) :: sk, h) res := i_iconst k_33_51
theorem e_33_52 {x y : Int32} : X xs L d 33 (52, lo, .inl y :: .inl x :: sk, h) res ↔ (if x = y then X xs L d 33 (57, lo, sk, h) res else X xs L d 33 (55, lo, sk, h) res) := i_icmp_eq k_33_52
theorem e_33_55 : X xs L d 33 (55, lo, sk, h) res ↔ X xs L d 33 (56, lo, .inl 0 :: sk, h) res := i_iconst k_33_55
theorem e_33_56 {v : Int32} : X xs L d 33 (56, lo, [.inl v], h) res ↔ (v = 0 ∨ v = 1) ∧ res = (some (.inl v), h) := i_zret k_33_56 rfl
theorem e_33_57 {x : Int32} {a0 a1 : Option AV} : X xs L d 33 (57, [a0, a1, some (.inl x)], sk, h) res ↔ X xs L d 33 (58, [a0, a1, some (.inl x)], .inl x :: sk, h) res := i_iload_n k_33_57 rfl
theorem e_33_58 {x : Int32} : X xs L d 33 (58, lo, .inl x :: sk, h) res ↔ (if x < 0 then X xs L d 33 (66, lo, sk, h) res else X xs L d 33 (61, lo, sk, h) res) := i_if_lt k_33_58
theorem e_33_61 {x : Int32} {a0 a1 : Option AV} : X xs L d 33 (61, [a0, a1, some (.inl x)], sk, h) res ↔ X xs L d 33 (62, [a0, a1, some (.inl x)], .inl x :: sk, h) res := i_iload_n k_33_61 rfl
theorem e_33_62 : X xs L d 33 (62, lo, sk, h) res ↔ X xs L d 33 (63, lo, .inl 3 :: sk, h) res := i_iconst k_33_62
theorem e_33_63 {x y : Int32} : X xs L d 33 (63, lo, .inl y :: .inl x :: sk, h) res ↔ (if x ≤ y then X xs L d 33 (68, lo, sk, h) res else X xs L d 33 (66, lo, sk, h) res) := i_icmp_le k_33_63
theorem e_33_66 : X xs L d 33 (66, lo, sk, h) res ↔ X xs L d 33 (67, lo, .inl 0 :: sk, h) res := i_iconst k_33_66
theorem e_33_67 {v : Int32} : X xs L d 33 (67, lo, [.inl v], h) res ↔ (v = 0 ∨ v = 1) ∧ res = (some (.inl v), h) := i_zret k_33_67 rfl
theorem e_33_68 {x : Option Nat} {a1 a2 : Option AV} : X xs L d 33 (68, [some (.inr x), a1, a2], sk, h) res ↔ X xs L d 33 (69, [some (.inr x), a1, a2], .inr x :: sk, h) res := i_aload_n k_33_68 rfl
theorem e_33_69 {o : Nat} : X xs L d 33 (69, lo, .inr (some o) :: sk, h) res ↔ hK h o = 7 ∧ X xs L d 33 (72, lo, .inr (hR h o 3) :: sk, h) res := i_getR k_33_69
theorem e_33_72 {x : Int32} {a0 a2 : Option AV} : X xs L d 33 (72, [a0, some (.inl x), a2], sk, h) res ↔ X xs L d 33 (73, [a0, some (.inl x), a2], .inl x :: sk, h) res := i_iload_n k_33_72 rfl
theorem e_33_73 {x : Int32} {a0 a1 : Option AV} : X xs L d 33 (73, [a0, a1, some (.inl x)], sk, h) res ↔ X xs L d 33 (74, [a0, a1, some (.inl x)], .inl x :: sk, h) res := i_iload_n k_33_73 rfl
theorem e_33_74 {o : Nat} {i v : Int32} : X xs L d 33 (74, lo, .inl v :: .inl i :: .inr (some o) :: sk, h) res ↔ (hK h o = 20 ∧ vp_in i (hL h o)) ∧ X xs L d 33 (75, lo, sk, sI h o i.toNatClampNeg (v)) res := i_iastore k_33_74
theorem e_33_75 {x : Option Nat} {a1 a2 : Option AV} : X xs L d 33 (75, [some (.inr x), a1, a2], sk, h) res ↔ X xs L d 33 (76, [some (.inr x), a1, a2], .inr x :: sk, h) res := i_aload_n k_33_75 rfl
theorem e_33_76 {o : Nat} : X xs L d 33 (76, lo, .inr (some o) :: sk, h) res ↔ hK h o = 7 ∧ X xs L d 33 (79, lo, .inr (hR h o 2) :: sk, h) res := i_getR k_33_76
theorem e_33_79 {x : Int32} {a0 a2 : Option AV} : X xs L d 33 (79, [a0, some (.inl x), a2], sk, h) res ↔ X xs L d 33 (80, [a0, some (.inl x), a2], .inl x :: sk, h) res := i_iload_n k_33_79 rfl
theorem e_33_80 {x : Option Nat} {a1 a2 : Option AV} : X xs L d 33 (80, [some (.inr x), a1, a2], sk, h) res ↔ X xs L d 33 (81, [some (.inr x), a1, a2], .inr x :: sk, h) res := i_aload_n k_33_80 rfl
theorem e_33_81 {o : Nat} : X xs L d 33 (81, lo, .inr (some o) :: sk, h) res ↔ hK h o = 7 ∧ X xs L d 33 (84, lo, .inl (hI h o 8) :: sk, h) res := i_getI k_33_81
theorem e_33_84 {o : Nat} {i v : Int32} : X xs L d 33 (84, lo, .inl v :: .inl i :: .inr (some o) :: sk, h) res ↔ (hK h o = 20 ∧ vp_in i (hL h o)) ∧ X xs L d 33 (85, lo, sk, sI h o i.toNatClampNeg (v)) res := i_iastore k_33_84
theorem e_33_85 {x : Option Nat} {a1 a2 : Option AV} : X xs L d 33 (85, [some (.inr x), a1, a2], sk, h) res ↔ X xs L d 33 (86, [some (.inr x), a1, a2], .inr x :: sk, h) res := i_aload_n k_33_85 rfl
theorem e_33_86 : X xs L d 33 (86, lo, sk, h) res ↔ X xs L d 33 (87, lo, .inl 1 :: sk, h) res := i_iconst k_33_86
theorem e_33_87 {o : Nat} {v0 : Int32} (hs : sk.length ≤ 8) : X xs L d 33 (87, lo, .inl v0 :: .inr (some o) :: sk, h) res ↔ hK h o = 7 ∧ ∃ q : Res, Rn xs L d 34 [.inr (some o), .inl v0] h q ∧ X xs L d 33 (90, lo, q.1.toList ++ sk, q.2) res := i_callV k_33_87 rfl ⟨Nat.le_add_left 2 sk.length, Nat.le_trans (Nat.add_le_add_right hs 2) (Nat.le_of_eq (Nat.add_comm 8 2))⟩
theorem e_33_90 {x : Int32} : X xs L d 33 (90, lo, .inl x :: sk, h) res ↔ (if x = 0 then X xs L d 33 (93, lo, sk, h) res else X xs L d 33 (95, lo, sk, h) res) := i_if_ne k_33_90
theorem e_33_93 : X xs L d 33 (93, lo, sk, h) res ↔ X xs L d 33 (94, lo, .inl 0 :: sk, h) res := i_iconst k_33_93
theorem e_33_94 {v : Int32} : X xs L d 33 (94, lo, [.inl v], h) res ↔ (v = 0 ∨ v = 1) ∧ res = (some (.inl v), h) := i_zret k_33_94 rfl
theorem e_33_95 {x : Option Nat} {a1 a2 : Option AV} : X xs L d 33 (95, [some (.inr x), a1, a2], sk, h) res ↔ X xs L d 33 (96, [some (.inr x), a1, a2], .inr x :: sk, h) res := i_aload_n k_33_95 rfl
theorem e_33_96 : X xs L d 33 (96, lo, sk, h) res ↔ X xs L d 33 (97, lo, .inl 1 :: sk, h) res := i_iconst k_33_96
theorem e_33_97 : X xs L d 33 (97, lo, sk, h) res ↔ X xs L d 33 (98, lo, .inl 0 :: sk, h) res := i_iconst k_33_97
theorem e_33_98 {o : Nat} {v0 : Int32} {v1 : Int32} (hs : sk.length ≤ 8) : X xs L d 33 (98, lo, .inl v1 :: .inl v0 :: .inr (some o) :: sk, h) res ↔ hK h o = 7 ∧ ∃ q : Res, Rn xs L d 45 [.inr (some o), .inl v0, .inl v1] h q ∧ X xs L d 33 (101, lo, q.1.toList ++ sk, q.2) res := i_callV k_33_98 rfl ⟨Nat.le_add_left 3 sk.length, Nat.le_trans (Nat.add_le_add_right hs 3) (Nat.le_of_eq (Nat.add_comm 8 3))⟩
theorem e_33_101 {x : Option Nat} {a1 a2 : Option AV} : X xs L d 33 (101, [some (.inr x), a1, a2], sk, h) res ↔ X xs L d 33 (102, [some (.inr x), a1, a2], .inr x :: sk, h) res := i_aload_n k_33_101 rfl
theorem e_33_102 : X xs L d 33 (102, lo, sk, h) res ↔ X xs L d 33 (103, lo, .inl 0 :: sk, h) res := i_iconst k_33_102
theorem e_33_103 : X xs L d 33 (103, lo, sk, h) res ↔ X xs L d 33 (104, lo, .inl 0 :: sk, h) res := i_iconst k_33_103
theorem e_33_104 {o : Nat} {v0 : Int32} {v1 : Int32} (hs : sk.length ≤ 8) : X xs L d 33 (104, lo, .inl v1 :: .inl v0 :: .inr (some o) :: sk, h) res ↔ hK h o = 7 ∧ ∃ q : Res, Rn xs L d 45 [.inr (some o), .inl v0, .inl v1] h q ∧ X xs L d 33 (107, lo, q.1.toList ++ sk, q.2) res := i_callV k_33_104 rfl ⟨Nat.le_add_left 3 sk.length, Nat.le_trans (Nat.add_le_add_right hs 3) (Nat.le_of_eq (Nat.add_comm 8 3))⟩
theorem e_33_107 : X xs L d 33 (107, lo, sk, h) res ↔ X xs L d 33 (108, lo, .inl 1 :: sk, h) res := i_iconst k_33_107
theorem e_33_108 {v : Int32} : X xs L d 33 (108, lo, [.inl v], h) res ↔ (v = 0 ∨ v = 1) ∧ res = (some (.inl v), h) := i_zret k_33_108 rfl
theorem k_34_0 : am_cd 34 0 = some (.iload_n 1, 1, [], [])   := rfl
theorem k_34_1 : am_cd 34 1 = some (.bipush 6, 2, [], [(6, 0)])   := rfl
theorem k_34_3 : am_cd 34 3 = some (.if_icmp .gt 12, 3, [15], [])   := rfl
theorem k_34_6 : am_cd 34 6 = some (.aload_n 0, 1, [], [])   := rfl
theorem k_34_7 : am_cd 34 7 = some (.bipush 123, 2, [], [(123, 0)])   := rfl
theorem k_34_9 : am_cd 34 9 = some (.invokevirtual 92, 3, [47, 2, 7], [(0, 291), (0, 293), (0, 4)])   := rfl
theorem k_34_12 : am_cd 34 12 = some (.ifCond .ne 5, 3, [17], [])   := rfl
theorem k_34_15 : am_cd 34 15 = some (.iconst 0, 1, [], [(0, 0)])   := rfl
theorem k_34_16 : am_cd 34 16 = some (.ireturn, 1, [], [])   := rfl
theorem k_34_17 : am_cd 34 17 = some (.iconst 0, 1, [], [(0, 0)])   := rfl
theorem k_34_18 : am_cd 34 18 = some (.istore_n 2, 1, [], [])   := rfl
theorem k_34_19 : am_cd 34 19 = some (.iload_n 2, 1, [], [])   := rfl
theorem k_34_20 : am_cd 34 20 = some (.bipush 40, 2, [], [(40, 0)])   := rfl
theorem k_34_22 : am_cd 34 22 = some (.if_icmp .gt 30, 3, [52], [])   := rfl
theorem k_34_25 : am_cd 34 25 = some (.aload_n 0, 1, [], [])   := rfl
theorem k_34_26 : am_cd 34 26 = some (.bipush 125, 2, [], [(125, 0)])   := rfl
theorem k_34_28 : am_cd 34 28 = some (.invokevirtual 92, 3, [47, 2, 7], [(0, 291), (0, 293), (0, 4)])   := rfl
theorem k_34_31 : am_cd 34 31 = some (.ifCond .eq 5, 3, [36], [])   := rfl
theorem k_34_34 : am_cd 34 34 = some (.iconst 1, 1, [], [(1, 0)])   := rfl
theorem k_34_35 : am_cd 34 35 = some (.ireturn, 1, [], [])   := rfl
theorem k_34_36 : am_cd 34 36 = some (.aload_n 0, 1, [], [])   := rfl
theorem k_34_37 : am_cd 34 37 = some (.iload_n 1, 1, [], [])   := rfl
theorem k_34_38 : am_cd 34 38 = some (.invokevirtual 96, 3, [35, 2, 7], [(0, 295), (0, 297), (0, 5)])   := rfl
theorem k_34_41 : am_cd 34 41 = some (.ifCond .ne 5, 3, [46], [])   := rfl
theorem k_34_44 : am_cd 34 44 = some (.iconst 0, 1, [], [(0, 0)])   := rfl
theorem k_34_45 : am_cd 34 45 = some (.ireturn, 1, [], [])   := rfl
theorem k_34_46 : am_cd 34 46 = some (.iinc 2 1, 3, [], [(1, 0)])   := rfl
theorem k_34_49 : am_cd 34 49 = some (.goto (-30), 3, [19], [])   := rfl
theorem k_34_52 : am_cd 34 52 = some (.iconst 0, 1, [], [(0, 0)])   := rfl
theorem k_34_53 : am_cd 34 53 = some (.ireturn, 1, [], [])   := rfl
theorem e_34_0 {x : Int32} {a0 a2 : Option AV} : X xs L d 34 (0, [a0, some (.inl x), a2], sk, h) res ↔ X xs L d 34 (1, [a0, some (.inl x), a2], .inl x :: sk, h) res := i_iload_n k_34_0 rfl
theorem e_34_1 : X xs L d 34 (1, lo, sk, h) res ↔ X xs L d 34 (3, lo, .inl 6 :: sk, h) res := i_bipush k_34_1
theorem e_34_3 {x y : Int32} : X xs L d 34 (3, lo, .inl y :: .inl x :: sk, h) res ↔ (if y < x then X xs L d 34 (15, lo, sk, h) res else X xs L d 34 (6, lo, sk, h) res) := i_icmp_gt k_34_3
theorem e_34_6 {x : Option Nat} {a1 a2 : Option AV} : X xs L d 34 (6, [some (.inr x), a1, a2], sk, h) res ↔ X xs L d 34 (7, [some (.inr x), a1, a2], .inr x :: sk, h) res := i_aload_n k_34_6 rfl
theorem e_34_7 : X xs L d 34 (7, lo, sk, h) res ↔ X xs L d 34 (9, lo, .inl 123 :: sk, h) res := i_bipush k_34_7
theorem e_34_9 {o : Nat} {v0 : Int32} (hs : sk.length ≤ 8) : X xs L d 34 (9, lo, .inl v0 :: .inr (some o) :: sk, h) res ↔ hK h o = 7 ∧ ∃ q : Res, Rn xs L d 47 [.inr (some o), .inl v0] h q ∧ X xs L d 34 (12, lo, q.1.toList ++ sk, q.2) res := i_callV k_34_9 rfl ⟨Nat.le_add_left 2 sk.length, Nat.le_trans (Nat.add_le_add_right hs 2) (Nat.le_of_eq (Nat.add_comm 8 2))⟩
theorem e_34_12 {x : Int32} : X xs L d 34 (12, lo, .inl x :: sk, h) res ↔ (if x = 0 then X xs L d 34 (15, lo, sk, h) res else X xs L d 34 (17, lo, sk, h) res) := i_if_ne k_34_12
theorem e_34_15 : X xs L d 34 (15, lo, sk, h) res ↔ X xs L d 34 (16, lo, .inl 0 :: sk, h) res := i_iconst k_34_15
theorem e_34_16 {v : Int32} : X xs L d 34 (16, lo, [.inl v], h) res ↔ (v = 0 ∨ v = 1) ∧ res = (some (.inl v), h) := i_zret k_34_16 rfl
theorem e_34_17 : X xs L d 34 (17, lo, sk, h) res ↔ X xs L d 34 (18, lo, .inl 0 :: sk, h) res := i_iconst k_34_17
theorem e_34_18 {x : Int32} {a0 a1 a2 : Option AV} : X xs L d 34 (18, [a0, a1, a2], .inl x :: sk, h) res ↔ X xs L d 34 (19, [a0, a1, some (.inl x)], sk, h) res := i_istore_n k_34_18 (Nat.le_of_ble_eq_true rfl) rfl
theorem e_34_19 {x : Int32} {a0 a1 : Option AV} : X xs L d 34 (19, [a0, a1, some (.inl x)], sk, h) res ↔ X xs L d 34 (20, [a0, a1, some (.inl x)], .inl x :: sk, h) res := i_iload_n k_34_19 rfl
theorem e_34_20 : X xs L d 34 (20, lo, sk, h) res ↔ X xs L d 34 (22, lo, .inl 40 :: sk, h) res := i_bipush k_34_20
theorem e_34_22 {x y : Int32} : X xs L d 34 (22, lo, .inl y :: .inl x :: sk, h) res ↔ (if y < x then X xs L d 34 (52, lo, sk, h) res else X xs L d 34 (25, lo, sk, h) res) := i_icmp_gt k_34_22
theorem e_34_25 {x : Option Nat} {a1 a2 : Option AV} : X xs L d 34 (25, [some (.inr x), a1, a2], sk, h) res ↔ X xs L d 34 (26, [some (.inr x), a1, a2], .inr x :: sk, h) res := i_aload_n k_34_25 rfl
theorem e_34_26 : X xs L d 34 (26, lo, sk, h) res ↔ X xs L d 34 (28, lo, .inl 125 :: sk, h) res := i_bipush k_34_26
theorem e_34_28 {o : Nat} {v0 : Int32} (hs : sk.length ≤ 8) : X xs L d 34 (28, lo, .inl v0 :: .inr (some o) :: sk, h) res ↔ hK h o = 7 ∧ ∃ q : Res, Rn xs L d 47 [.inr (some o), .inl v0] h q ∧ X xs L d 34 (31, lo, q.1.toList ++ sk, q.2) res := i_callV k_34_28 rfl ⟨Nat.le_add_left 2 sk.length, Nat.le_trans (Nat.add_le_add_right hs 2) (Nat.le_of_eq (Nat.add_comm 8 2))⟩
theorem e_34_31 {x : Int32} : X xs L d 34 (31, lo, .inl x :: sk, h) res ↔ (if x = 0 then X xs L d 34 (36, lo, sk, h) res else X xs L d 34 (34, lo, sk, h) res) := i_if_eq k_34_31
theorem e_34_34 : X xs L d 34 (34, lo, sk, h) res ↔ X xs L d 34 (35, lo, .inl 1 :: sk, h) res := i_iconst k_34_34
theorem e_34_35 {v : Int32} : X xs L d 34 (35, lo, [.inl v], h) res ↔ (v = 0 ∨ v = 1) ∧ res = (some (.inl v), h) := i_zret k_34_35 rfl
theorem e_34_36 {x : Option Nat} {a1 a2 : Option AV} : X xs L d 34 (36, [some (.inr x), a1, a2], sk, h) res ↔ X xs L d 34 (37, [some (.inr x), a1, a2], .inr x :: sk, h) res := i_aload_n k_34_36 rfl
theorem e_34_37 {x : Int32} {a0 a2 : Option AV} : X xs L d 34 (37, [a0, some (.inl x), a2], sk, h) res ↔ X xs L d 34 (38, [a0, some (.inl x), a2], .inl x :: sk, h) res := i_iload_n k_34_37 rfl
theorem e_34_38 {o : Nat} {v0 : Int32} (hs : sk.length ≤ 8) : X xs L d 34 (38, lo, .inl v0 :: .inr (some o) :: sk, h) res ↔ hK h o = 7 ∧ ∃ q : Res, Rn xs L d 35 [.inr (some o), .inl v0] h q ∧ X xs L d 34 (41, lo, q.1.toList ++ sk, q.2) res := i_callV k_34_38 rfl ⟨Nat.le_add_left 2 sk.length, Nat.le_trans (Nat.add_le_add_right hs 2) (Nat.le_of_eq (Nat.add_comm 8 2))⟩
theorem e_34_41 {x : Int32} : X xs L d 34 (41, lo, .inl x :: sk, h) res ↔ (if x = 0 then X xs L d 34 (44, lo, sk, h) res else X xs L d 34 (46, lo, sk, h) res) := i_if_ne k_34_41
theorem e_34_44 : X xs L d 34 (44, lo, sk, h) res ↔ X xs L d 34 (45, lo, .inl 0 :: sk, h) res := i_iconst k_34_44
theorem e_34_45 {v : Int32} : X xs L d 34 (45, lo, [.inl v], h) res ↔ (v = 0 ∨ v = 1) ∧ res = (some (.inl v), h) := i_zret k_34_45 rfl
theorem e_34_46 {x : Int32} {a0 a1 : Option AV} : X xs L d 34 (46, [a0, a1, some (.inl x)], sk, h) res ↔ X xs L d 34 (49, [a0, a1, some (.inl (x + 1))], sk, h) res := i_iinc k_34_46 rfl rfl
theorem e_34_49 : X xs L d 34 (49, lo, sk, h) res ↔ X xs L d 34 (19, lo, sk, h) res := i_goto k_34_49
theorem e_34_52 : X xs L d 34 (52, lo, sk, h) res ↔ X xs L d 34 (53, lo, .inl 0 :: sk, h) res := i_iconst k_34_52
theorem e_34_53 {v : Int32} : X xs L d 34 (53, lo, [.inl v], h) res ↔ (v = 0 ∨ v = 1) ∧ res = (some (.inl v), h) := i_zret k_34_53 rfl
theorem k_35_0 : am_cd 35 0 = some (.aload_n 0, 1, [], [])   := rfl
theorem k_35_1 : am_cd 35 1 = some (.getfield 62, 3, [7, 9, 0], [(0, 114)])   := rfl
theorem k_35_4 : am_cd 35 4 = some (.bipush 40, 2, [], [(40, 0)])   := rfl
theorem k_35_6 : am_cd 35 6 = some (.if_icmp .lt 5, 3, [11], [])   := rfl
theorem k_35_9 : am_cd 35 9 = some (.iconst 0, 1, [], [(0, 0)])   := rfl
theorem k_35_10 : am_cd 35 10 = some (.ireturn, 1, [], [])   := rfl
theorem k_35_11 : am_cd 35 11 = some (.aload_n 0, 1, [], [])   := rfl
theorem k_35_12 : am_cd 35 12 = some (.invokevirtual 85, 3, [46, 1, 7], [(0, 283), (0, 285), (0, 2)])   := rfl
theorem k_35_15 : am_cd 35 15 = some (.istore_n 2, 1, [], [])   := rfl
theorem k_35_16 : am_cd 35 16 = some (.aload_n 0, 1, [], [])   := rfl
theorem k_35_17 : am_cd 35 17 = some (.dup, 1, [], [])   := rfl
theorem k_35_18 : am_cd 35 18 = some (.getfield 37, 3, [7, 7, 0], [(0, 112)])   := rfl
theorem k_35_21 : am_cd 35 21 = some (.iconst 1, 1, [], [(1, 0)])   := rfl
theorem k_35_22 : am_cd 35 22 = some (.iadd, 1, [], [])   := rfl
theorem k_35_23 : am_cd 35 23 = some (.putfield 37, 3, [7, 7, 0], [(0, 112)])   := rfl
theorem k_35_26 : am_cd 35 26 = some (.aload_n 0, 1, [], [])   := rfl
theorem k_35_27 : am_cd 35 27 = some (.getfield 56, 3, [7, 8, 0], [(0, 113)])   := rfl
theorem k_35_30 : am_cd 35 30 = some (.istore_n 3, 1, [], [])   := rfl
theorem k_35_31 : am_cd 35 31 = some (.aload_n 0, 1, [], [])   := rfl
theorem k_35_32 : am_cd 35 32 = some (.iconst 5, 1, [], [(5, 0)])   := rfl
theorem k_35_33 : am_cd 35 33 = some (.aload_n 0, 1, [], [])   := rfl
theorem k_35_34 : am_cd 35 34 = some (.getfield 62, 3, [7, 9, 0], [(0, 114)])   := rfl
theorem k_35_37 : am_cd 35 37 = some (.invokevirtual 73, 3, [45, 3, 7], [(0, 299), (0, 301), (0, 6)])   := rfl
theorem k_35_40 : am_cd 35 40 = some (.aload_n 0, 1, [], [])   := rfl
theorem k_35_41 : am_cd 35 41 = some (.dup, 1, [], [])   := rfl
theorem k_35_42 : am_cd 35 42 = some (.getfield 62, 3, [7, 9, 0], [(0, 114)])   := rfl
theorem k_35_45 : am_cd 35 45 = some (.iconst 1, 1, [], [(1, 0)])   := rfl
theorem k_35_46 : am_cd 35 46 = some (.iadd, 1, [], [])   := rfl
theorem k_35_47 : am_cd 35 47 = some (.putfield 62, 3, [7, 9, 0], [(0, 114)])   := rfl
theorem k_35_50 : am_cd 35 50 = some (.iload_n 2, 1, [], [])   := rfl
theorem k_35_51 : am_cd 35 51 = some (.bipush 126, 2, [], [(126, 0)])   := rfl
theorem k_35_53 : am_cd 35 53 = some (.if_icmp .ne 9, 3, [62], [])   := rfl
theorem k_35_56 : am_cd 35 56 = some (.aload_n 0, 1, [], [])   := rfl
theorem k_35_57 : am_cd 35 57 = some (.iload_n 1, 1, [], [])   := rfl
theorem k_35_58 : am_cd 35 58 = some (.invokevirtual 99, 3, [38, 2, 7], [(0, 303), (0, 305), (0, 7)])   := rfl
theorem k_35_61 : am_cd 35 61 = some (.ireturn, 1, [], [])   := rfl
theorem k_35_62 : am_cd 35 62 = some (.iload_n 2, 1, [], [])   := rfl
theorem k_35_63 : am_cd 35 63 = some (.invokestatic 102, 3, [49, 1], [(0, 315), (0, 316)])   := rfl
theorem k_35_66 : am_cd 35 66 = some (.ifCond .eq 12, 3, [78], [])   := rfl
theorem k_35_69 : am_cd 35 69 = some (.aload_n 0, 1, [], [])   := rfl
theorem k_35_70 : am_cd 35 70 = some (.bipush 61, 2, [], [(61, 0)])   := rfl
theorem k_35_72 : am_cd 35 72 = some (.invokevirtual 92, 3, [47, 2, 7], [(0, 291), (0, 293), (0, 4)])   := rfl
theorem k_35_75 : am_cd 35 75 = some (.goto 17, 3, [92], [])   := rfl
theorem k_35_78 : am_cd 35 78 = some (.ldc 105, 2, [2], [])   := rfl
theorem k_35_80 : am_cd 35 80 = some (.iload_n 2, 1, [], [])   := rfl
theorem k_35_81 : am_cd 35 81 = some (.invokevirtual 107, 3, [], [(0, 319)])   := rfl
theorem k_35_84 : am_cd 35 84 = some (.ifCond .lt 7, 3, [91], [])   := rfl
theorem k_35_87 : am_cd 35 87 = some (.iconst 1, 1, [], [(1, 0)])   := rfl
theorem k_35_88 : am_cd 35 88 = some (.goto 4, 3, [92], [])   := rfl
theorem k_35_91 : am_cd 35 91 = some (.iconst 0, 1, [], [(0, 0)])   := rfl
theorem k_35_92 : am_cd 35 92 = some (.istore 4, 2, [], [])   := rfl
theorem k_35_94 : am_cd 35 94 = some (.iload 4, 2, [], [])   := rfl
theorem k_35_96 : am_cd 35 96 = some (.ifCond .eq 11, 3, [107], [])   := rfl
theorem k_35_99 : am_cd 35 99 = some (.aload_n 0, 1, [], [])   := rfl
theorem k_35_100 : am_cd 35 100 = some (.iconst 0, 1, [], [(0, 0)])   := rfl
theorem k_35_101 : am_cd 35 101 = some (.invokevirtual 68, 3, [41, 2, 7], [(0, 405), (0, 407), (0, 10)])   := rfl
theorem k_35_104 : am_cd 35 104 = some (.ifCond .ne 5, 3, [109], [])   := rfl
theorem k_35_107 : am_cd 35 107 = some (.iconst 0, 1, [], [(0, 0)])   := rfl
theorem k_35_108 : am_cd 35 108 = some (.ireturn, 1, [], [])   := rfl
theorem k_35_109 : am_cd 35 109 = some (.iload_n 2, 1, [], [])   := rfl
theorem k_35_110 : am_cd 35 110 = some (.bipush 63, 2, [], [(63, 0)])   := rfl
theorem k_35_112 : am_cd 35 112 = some (.if_icmp .eq 9, 3, [121], [])   := rfl
theorem k_35_115 : am_cd 35 115 = some (.iload_n 2, 1, [], [])   := rfl
theorem k_35_116 : am_cd 35 116 = some (.bipush 64, 2, [], [(64, 0)])   := rfl
theorem k_35_118 : am_cd 35 118 = some (.if_icmp .ne 21, 3, [139], [])   := rfl
theorem k_35_121 : am_cd 35 121 = some (.aload_n 0, 1, [], [])   := rfl
theorem k_35_122 : am_cd 35 122 = some (.iload_n 1, 1, [], [])   := rfl
theorem k_35_123 : am_cd 35 123 = some (.iload_n 2, 1, [], [])   := rfl
theorem k_35_124 : am_cd 35 124 = some (.bipush 64, 2, [], [(64, 0)])   := rfl
theorem k_35_126 : am_cd 35 126 = some (.if_icmp .ne 7, 3, [133], [])   := rfl
theorem k_35_129 : am_cd 35 129 = some (.iconst 1, 1, [], [(1, 0)])   := rfl
theorem k_35_130 : am_cd 35 130 = some (.goto 4, 3, [134], [])   := rfl
theorem k_35_133 : am_cd 35 133 = some (.iconst 0, 1, [], [(0, 0)])   := rfl
theorem k_35_134 : am_cd 35 134 = some (.iload_n 3, 1, [], [])   := rfl
theorem k_35_135 : am_cd 35 135 = some (.invokevirtual 113, 3, [37, 4, 7], [(0, 425), (0, 427), (0, 14)])   := rfl
theorem k_35_138 : am_cd 35 138 = some (.ireturn, 1, [], [])   := rfl
theorem k_35_139 : am_cd 35 139 = some (.aload_n 0, 1, [], [])   := rfl
theorem k_35_140 : am_cd 35 140 = some (.iload_n 2, 1, [], [])   := rfl
theorem k_35_141 : am_cd 35 141 = some (.invokevirtual 117, 3, [36, 2, 7], [(0, 429), (0, 431), (0, 15)])   := rfl
theorem k_35_144 : am_cd 35 144 = some (.aload_n 0, 1, [], [])   := rfl
theorem k_35_145 : am_cd 35 145 = some (.bipush 59, 2, [], [(59, 0)])   := rfl
theorem k_35_147 : am_cd 35 147 = some (.invokevirtual 92, 3, [47, 2, 7], [(0, 291), (0, 293), (0, 4)])   := rfl
theorem k_35_150 : am_cd 35 150 = some (.ireturn, 1, [], [])   := rfl
theorem e_35_0 {x : Option Nat} {a1 a2 a3 a4 : Option AV} : X xs L d 35 (0, [some (.inr x), a1, a2, a3, a4], sk, h) res ↔ X xs L d 35 (1, [some (.inr x), a1, a2, a3, a4], .inr x :: sk, h) res := i_aload_n k_35_0 rfl
theorem e_35_1 {o : Nat} : X xs L d 35 (1, lo, .inr (some o) :: sk, h) res ↔ hK h o = 7 ∧ X xs L d 35 (4, lo, .inl (hI h o 9) :: sk, h) res := i_getI k_35_1
theorem e_35_4 : X xs L d 35 (4, lo, sk, h) res ↔ X xs L d 35 (6, lo, .inl 40 :: sk, h) res := i_bipush k_35_4
theorem e_35_6 {x y : Int32} : X xs L d 35 (6, lo, .inl y :: .inl x :: sk, h) res ↔ (if x < y then X xs L d 35 (11, lo, sk, h) res else X xs L d 35 (9, lo, sk, h) res) := i_icmp_lt k_35_6
theorem e_35_9 : X xs L d 35 (9, lo, sk, h) res ↔ X xs L d 35 (10, lo, .inl 0 :: sk, h) res := i_iconst k_35_9
theorem e_35_10 {v : Int32} : X xs L d 35 (10, lo, [.inl v], h) res ↔ (v = 0 ∨ v = 1) ∧ res = (some (.inl v), h) := i_zret k_35_10 rfl
theorem e_35_11 {x : Option Nat} {a1 a2 a3 a4 : Option AV} : X xs L d 35 (11, [some (.inr x), a1, a2, a3, a4], sk, h) res ↔ X xs L d 35 (12, [some (.inr x), a1, a2, a3, a4], .inr x :: sk, h) res := i_aload_n k_35_11 rfl
theorem e_35_12 {o : Nat} (hs : sk.length ≤ 8) : X xs L d 35 (12, lo, .inr (some o) :: sk, h) res ↔ hK h o = 7 ∧ ∃ q : Res, Rn xs L d 46 [.inr (some o)] h q ∧ X xs L d 35 (15, lo, q.1.toList ++ sk, q.2) res := i_callV k_35_12 rfl ⟨Nat.le_add_left 1 sk.length, Nat.le_trans (Nat.add_le_add_right hs 1) (Nat.le_of_eq (Nat.add_comm 8 1))⟩
theorem e_35_15 {x : Int32} {a0 a1 a2 a3 a4 : Option AV} : X xs L d 35 (15, [a0, a1, a2, a3, a4], .inl x :: sk, h) res ↔ X xs L d 35 (16, [a0, a1, some (.inl x), a3, a4], sk, h) res := i_istore_n k_35_15 (Nat.le_of_ble_eq_true rfl) rfl
theorem e_35_16 {x : Option Nat} {a1 a2 a3 a4 : Option AV} : X xs L d 35 (16, [some (.inr x), a1, a2, a3, a4], sk, h) res ↔ X xs L d 35 (17, [some (.inr x), a1, a2, a3, a4], .inr x :: sk, h) res := i_aload_n k_35_16 rfl
theorem e_35_17 {v : AV} : X xs L d 35 (17, lo, v :: sk, h) res ↔ X xs L d 35 (18, lo, v :: v :: sk, h) res := i_dup k_35_17
theorem e_35_18 {o : Nat} : X xs L d 35 (18, lo, .inr (some o) :: sk, h) res ↔ hK h o = 7 ∧ X xs L d 35 (21, lo, .inl (hI h o 7) :: sk, h) res := i_getI k_35_18
theorem e_35_21 : X xs L d 35 (21, lo, sk, h) res ↔ X xs L d 35 (22, lo, .inl 1 :: sk, h) res := i_iconst k_35_21
theorem e_35_22 {x y : Int32} : X xs L d 35 (22, lo, .inl y :: .inl x :: sk, h) res ↔ X xs L d 35 (23, lo, .inl (x + y) :: sk, h) res := i_iadd k_35_22
theorem e_35_23 {o : Nat} {v : Int32} : X xs L d 35 (23, lo, .inl v :: .inr (some o) :: sk, h) res ↔ hK h o = 7 ∧ X xs L d 35 (26, lo, sk, sI h o 7 v) res := i_putI k_35_23
theorem e_35_26 {x : Option Nat} {a1 a2 a3 a4 : Option AV} : X xs L d 35 (26, [some (.inr x), a1, a2, a3, a4], sk, h) res ↔ X xs L d 35 (27, [some (.inr x), a1, a2, a3, a4], .inr x :: sk, h) res := i_aload_n k_35_26 rfl
theorem e_35_27 {o : Nat} : X xs L d 35 (27, lo, .inr (some o) :: sk, h) res ↔ hK h o = 7 ∧ X xs L d 35 (30, lo, .inl (hI h o 8) :: sk, h) res := i_getI k_35_27
theorem e_35_30 {x : Int32} {a0 a1 a2 a3 a4 : Option AV} : X xs L d 35 (30, [a0, a1, a2, a3, a4], .inl x :: sk, h) res ↔ X xs L d 35 (31, [a0, a1, a2, some (.inl x), a4], sk, h) res := i_istore_n k_35_30 (Nat.le_of_ble_eq_true rfl) rfl
theorem e_35_31 {x : Option Nat} {a1 a2 a3 a4 : Option AV} : X xs L d 35 (31, [some (.inr x), a1, a2, a3, a4], sk, h) res ↔ X xs L d 35 (32, [some (.inr x), a1, a2, a3, a4], .inr x :: sk, h) res := i_aload_n k_35_31 rfl
theorem e_35_32 : X xs L d 35 (32, lo, sk, h) res ↔ X xs L d 35 (33, lo, .inl 5 :: sk, h) res := i_iconst k_35_32
theorem e_35_33 {x : Option Nat} {a1 a2 a3 a4 : Option AV} : X xs L d 35 (33, [some (.inr x), a1, a2, a3, a4], sk, h) res ↔ X xs L d 35 (34, [some (.inr x), a1, a2, a3, a4], .inr x :: sk, h) res := i_aload_n k_35_33 rfl
theorem e_35_34 {o : Nat} : X xs L d 35 (34, lo, .inr (some o) :: sk, h) res ↔ hK h o = 7 ∧ X xs L d 35 (37, lo, .inl (hI h o 9) :: sk, h) res := i_getI k_35_34
theorem e_35_37 {o : Nat} {v0 : Int32} {v1 : Int32} (hs : sk.length ≤ 8) : X xs L d 35 (37, lo, .inl v1 :: .inl v0 :: .inr (some o) :: sk, h) res ↔ hK h o = 7 ∧ ∃ q : Res, Rn xs L d 45 [.inr (some o), .inl v0, .inl v1] h q ∧ X xs L d 35 (40, lo, q.1.toList ++ sk, q.2) res := i_callV k_35_37 rfl ⟨Nat.le_add_left 3 sk.length, Nat.le_trans (Nat.add_le_add_right hs 3) (Nat.le_of_eq (Nat.add_comm 8 3))⟩
theorem e_35_40 {x : Option Nat} {a1 a2 a3 a4 : Option AV} : X xs L d 35 (40, [some (.inr x), a1, a2, a3, a4], sk, h) res ↔ X xs L d 35 (41, [some (.inr x), a1, a2, a3, a4], .inr x :: sk, h) res := i_aload_n k_35_40 rfl
theorem e_35_41 {v : AV} : X xs L d 35 (41, lo, v :: sk, h) res ↔ X xs L d 35 (42, lo, v :: v :: sk, h) res := i_dup k_35_41
theorem e_35_42 {o : Nat} : X xs L d 35 (42, lo, .inr (some o) :: sk, h) res ↔ hK h o = 7 ∧ X xs L d 35 (45, lo, .inl (hI h o 9) :: sk, h) res := i_getI k_35_42
theorem e_35_45 : X xs L d 35 (45, lo, sk, h) res ↔ X xs L d 35 (46, lo, .inl 1 :: sk, h) res := i_iconst k_35_45
theorem e_35_46 {x y : Int32} : X xs L d 35 (46, lo, .inl y :: .inl x :: sk, h) res ↔ X xs L d 35 (47, lo, .inl (x + y) :: sk, h) res := i_iadd k_35_46
theorem e_35_47 {o : Nat} {v : Int32} : X xs L d 35 (47, lo, .inl v :: .inr (some o) :: sk, h) res ↔ hK h o = 7 ∧ X xs L d 35 (50, lo, sk, sI h o 9 v) res := i_putI k_35_47
theorem e_35_50 {x : Int32} {a0 a1 a3 a4 : Option AV} : X xs L d 35 (50, [a0, a1, some (.inl x), a3, a4], sk, h) res ↔ X xs L d 35 (51, [a0, a1, some (.inl x), a3, a4], .inl x :: sk, h) res := i_iload_n k_35_50 rfl
theorem e_35_51 : X xs L d 35 (51, lo, sk, h) res ↔ X xs L d 35 (53, lo, .inl 126 :: sk, h) res := i_bipush k_35_51
theorem e_35_53 {x y : Int32} : X xs L d 35 (53, lo, .inl y :: .inl x :: sk, h) res ↔ (if x = y then X xs L d 35 (56, lo, sk, h) res else X xs L d 35 (62, lo, sk, h) res) := i_icmp_ne k_35_53
theorem e_35_56 {x : Option Nat} {a1 a2 a3 a4 : Option AV} : X xs L d 35 (56, [some (.inr x), a1, a2, a3, a4], sk, h) res ↔ X xs L d 35 (57, [some (.inr x), a1, a2, a3, a4], .inr x :: sk, h) res := i_aload_n k_35_56 rfl
theorem e_35_57 {x : Int32} {a0 a2 a3 a4 : Option AV} : X xs L d 35 (57, [a0, some (.inl x), a2, a3, a4], sk, h) res ↔ X xs L d 35 (58, [a0, some (.inl x), a2, a3, a4], .inl x :: sk, h) res := i_iload_n k_35_57 rfl
theorem e_35_58 {o : Nat} {v0 : Int32} (hs : sk.length ≤ 8) : X xs L d 35 (58, lo, .inl v0 :: .inr (some o) :: sk, h) res ↔ hK h o = 7 ∧ ∃ q : Res, Rn xs L d 38 [.inr (some o), .inl v0] h q ∧ X xs L d 35 (61, lo, q.1.toList ++ sk, q.2) res := i_callV k_35_58 rfl ⟨Nat.le_add_left 2 sk.length, Nat.le_trans (Nat.add_le_add_right hs 2) (Nat.le_of_eq (Nat.add_comm 8 2))⟩
theorem e_35_61 {v : Int32} : X xs L d 35 (61, lo, [.inl v], h) res ↔ (v = 0 ∨ v = 1) ∧ res = (some (.inl v), h) := i_zret k_35_61 rfl
theorem e_35_62 {x : Int32} {a0 a1 a3 a4 : Option AV} : X xs L d 35 (62, [a0, a1, some (.inl x), a3, a4], sk, h) res ↔ X xs L d 35 (63, [a0, a1, some (.inl x), a3, a4], .inl x :: sk, h) res := i_iload_n k_35_62 rfl
theorem e_35_63 {v0 : Int32} (hs : sk.length ≤ 8) : X xs L d 35 (63, lo, .inl v0 :: sk, h) res ↔ ∃ q : Res, Rn xs L d 49 [.inl v0] h q ∧ X xs L d 35 (66, lo, q.1.toList ++ sk, q.2) res := i_callS k_35_63 ⟨Nat.le_add_left 1 sk.length, Nat.le_trans (Nat.add_le_add_right hs 1) (Nat.le_of_eq (Nat.add_comm 8 1))⟩
theorem e_35_66 {x : Int32} : X xs L d 35 (66, lo, .inl x :: sk, h) res ↔ (if x = 0 then X xs L d 35 (78, lo, sk, h) res else X xs L d 35 (69, lo, sk, h) res) := i_if_eq k_35_66
theorem e_35_69 {x : Option Nat} {a1 a2 a3 a4 : Option AV} : X xs L d 35 (69, [some (.inr x), a1, a2, a3, a4], sk, h) res ↔ X xs L d 35 (70, [some (.inr x), a1, a2, a3, a4], .inr x :: sk, h) res := i_aload_n k_35_69 rfl
theorem e_35_70 : X xs L d 35 (70, lo, sk, h) res ↔ X xs L d 35 (72, lo, .inl 61 :: sk, h) res := i_bipush k_35_70
theorem e_35_72 {o : Nat} {v0 : Int32} (hs : sk.length ≤ 8) : X xs L d 35 (72, lo, .inl v0 :: .inr (some o) :: sk, h) res ↔ hK h o = 7 ∧ ∃ q : Res, Rn xs L d 47 [.inr (some o), .inl v0] h q ∧ X xs L d 35 (75, lo, q.1.toList ++ sk, q.2) res := i_callV k_35_72 rfl ⟨Nat.le_add_left 2 sk.length, Nat.le_trans (Nat.add_le_add_right hs 2) (Nat.le_of_eq (Nat.add_comm 8 2))⟩
theorem e_35_75 : X xs L d 35 (75, lo, sk, h) res ↔ X xs L d 35 (92, lo, sk, h) res := i_goto k_35_75
theorem e_35_78 : X xs L d 35 (78, lo, sk, h) res ↔ (2 = 1 ∨ 2 = 2) ∧ X xs L d 35 (80, lo, .inr (some 2) :: sk, h) res := i_lds k_35_78
theorem e_35_80 {x : Int32} {a0 a1 a3 a4 : Option AV} : X xs L d 35 (80, [a0, a1, some (.inl x), a3, a4], sk, h) res ↔ X xs L d 35 (81, [a0, a1, some (.inl x), a3, a4], .inl x :: sk, h) res := i_iload_n k_35_80 rfl
theorem e_35_81 {o : Nat} {x : Int32} : X xs L d 35 (81, lo, .inl x :: .inr (some o) :: sk, h) res ↔ ((o = 1 ∨ o = 2) ∧ sk.length ≤ 8) ∧ X xs L d 35 (84, lo, .inl (s_idx x (s_txt o) 0) :: sk, h) res := i_idx k_35_81
theorem e_35_84 {x : Int32} : X xs L d 35 (84, lo, .inl x :: sk, h) res ↔ (if x < 0 then X xs L d 35 (91, lo, sk, h) res else X xs L d 35 (87, lo, sk, h) res) := i_if_lt k_35_84
theorem e_35_87 : X xs L d 35 (87, lo, sk, h) res ↔ X xs L d 35 (88, lo, .inl 1 :: sk, h) res := i_iconst k_35_87
theorem e_35_88 : X xs L d 35 (88, lo, sk, h) res ↔ X xs L d 35 (92, lo, sk, h) res := i_goto k_35_88
theorem e_35_91 : X xs L d 35 (91, lo, sk, h) res ↔ X xs L d 35 (92, lo, .inl 0 :: sk, h) res := i_iconst k_35_91
theorem e_35_92 {x : Int32} {a0 a1 a2 a3 a4 : Option AV} : X xs L d 35 (92, [a0, a1, a2, a3, a4], .inl x :: sk, h) res ↔ X xs L d 35 (94, [a0, a1, a2, a3, some (.inl x)], sk, h) res := i_istore k_35_92 (Nat.le_of_ble_eq_true rfl) rfl
theorem e_35_94 {x : Int32} {a0 a1 a2 a3 : Option AV} : X xs L d 35 (94, [a0, a1, a2, a3, some (.inl x)], sk, h) res ↔ X xs L d 35 (96, [a0, a1, a2, a3, some (.inl x)], .inl x :: sk, h) res := i_iload k_35_94 rfl
theorem e_35_96 {x : Int32} : X xs L d 35 (96, lo, .inl x :: sk, h) res ↔ (if x = 0 then X xs L d 35 (107, lo, sk, h) res else X xs L d 35 (99, lo, sk, h) res) := i_if_eq k_35_96
theorem e_35_99 {x : Option Nat} {a1 a2 a3 a4 : Option AV} : X xs L d 35 (99, [some (.inr x), a1, a2, a3, a4], sk, h) res ↔ X xs L d 35 (100, [some (.inr x), a1, a2, a3, a4], .inr x :: sk, h) res := i_aload_n k_35_99 rfl
theorem e_35_100 : X xs L d 35 (100, lo, sk, h) res ↔ X xs L d 35 (101, lo, .inl 0 :: sk, h) res := i_iconst k_35_100
theorem e_35_101 {o : Nat} {v0 : Int32} (hs : sk.length ≤ 8) : X xs L d 35 (101, lo, .inl v0 :: .inr (some o) :: sk, h) res ↔ hK h o = 7 ∧ ∃ q : Res, Rn xs L d 41 [.inr (some o), .inl v0] h q ∧ X xs L d 35 (104, lo, q.1.toList ++ sk, q.2) res := i_callV k_35_101 rfl ⟨Nat.le_add_left 2 sk.length, Nat.le_trans (Nat.add_le_add_right hs 2) (Nat.le_of_eq (Nat.add_comm 8 2))⟩
theorem e_35_104 {x : Int32} : X xs L d 35 (104, lo, .inl x :: sk, h) res ↔ (if x = 0 then X xs L d 35 (107, lo, sk, h) res else X xs L d 35 (109, lo, sk, h) res) := i_if_ne k_35_104
theorem e_35_107 : X xs L d 35 (107, lo, sk, h) res ↔ X xs L d 35 (108, lo, .inl 0 :: sk, h) res := i_iconst k_35_107
theorem e_35_108 {v : Int32} : X xs L d 35 (108, lo, [.inl v], h) res ↔ (v = 0 ∨ v = 1) ∧ res = (some (.inl v), h) := i_zret k_35_108 rfl
theorem e_35_109 {x : Int32} {a0 a1 a3 a4 : Option AV} : X xs L d 35 (109, [a0, a1, some (.inl x), a3, a4], sk, h) res ↔ X xs L d 35 (110, [a0, a1, some (.inl x), a3, a4], .inl x :: sk, h) res := i_iload_n k_35_109 rfl
theorem e_35_110 : X xs L d 35 (110, lo, sk, h) res ↔ X xs L d 35 (112, lo, .inl 63 :: sk, h) res := i_bipush k_35_110
theorem e_35_112 {x y : Int32} : X xs L d 35 (112, lo, .inl y :: .inl x :: sk, h) res ↔ (if x = y then X xs L d 35 (121, lo, sk, h) res else X xs L d 35 (115, lo, sk, h) res) := i_icmp_eq k_35_112
theorem e_35_115 {x : Int32} {a0 a1 a3 a4 : Option AV} : X xs L d 35 (115, [a0, a1, some (.inl x), a3, a4], sk, h) res ↔ X xs L d 35 (116, [a0, a1, some (.inl x), a3, a4], .inl x :: sk, h) res := i_iload_n k_35_115 rfl
theorem e_35_116 : X xs L d 35 (116, lo, sk, h) res ↔ X xs L d 35 (118, lo, .inl 64 :: sk, h) res := i_bipush k_35_116
theorem e_35_118 {x y : Int32} : X xs L d 35 (118, lo, .inl y :: .inl x :: sk, h) res ↔ (if x = y then X xs L d 35 (121, lo, sk, h) res else X xs L d 35 (139, lo, sk, h) res) := i_icmp_ne k_35_118
theorem e_35_121 {x : Option Nat} {a1 a2 a3 a4 : Option AV} : X xs L d 35 (121, [some (.inr x), a1, a2, a3, a4], sk, h) res ↔ X xs L d 35 (122, [some (.inr x), a1, a2, a3, a4], .inr x :: sk, h) res := i_aload_n k_35_121 rfl
theorem e_35_122 {x : Int32} {a0 a2 a3 a4 : Option AV} : X xs L d 35 (122, [a0, some (.inl x), a2, a3, a4], sk, h) res ↔ X xs L d 35 (123, [a0, some (.inl x), a2, a3, a4], .inl x :: sk, h) res := i_iload_n k_35_122 rfl
theorem e_35_123 {x : Int32} {a0 a1 a3 a4 : Option AV} : X xs L d 35 (123, [a0, a1, some (.inl x), a3, a4], sk, h) res ↔ X xs L d 35 (124, [a0, a1, some (.inl x), a3, a4], .inl x :: sk, h) res := i_iload_n k_35_123 rfl
theorem e_35_124 : X xs L d 35 (124, lo, sk, h) res ↔ X xs L d 35 (126, lo, .inl 64 :: sk, h) res := i_bipush k_35_124
theorem e_35_126 {x y : Int32} : X xs L d 35 (126, lo, .inl y :: .inl x :: sk, h) res ↔ (if x = y then X xs L d 35 (129, lo, sk, h) res else X xs L d 35 (133, lo, sk, h) res) := i_icmp_ne k_35_126
theorem e_35_129 : X xs L d 35 (129, lo, sk, h) res ↔ X xs L d 35 (130, lo, .inl 1 :: sk, h) res := i_iconst k_35_129
theorem e_35_130 : X xs L d 35 (130, lo, sk, h) res ↔ X xs L d 35 (134, lo, sk, h) res := i_goto k_35_130
theorem e_35_133 : X xs L d 35 (133, lo, sk, h) res ↔ X xs L d 35 (134, lo, .inl 0 :: sk, h) res := i_iconst k_35_133
theorem e_35_134 {x : Int32} {a0 a1 a2 a4 : Option AV} : X xs L d 35 (134, [a0, a1, a2, some (.inl x), a4], sk, h) res ↔ X xs L d 35 (135, [a0, a1, a2, some (.inl x), a4], .inl x :: sk, h) res := i_iload_n k_35_134 rfl
theorem e_35_135 {o : Nat} {v0 : Int32} {v1 : Int32} {v2 : Int32} (hs : sk.length ≤ 8) : X xs L d 35 (135, lo, .inl v2 :: .inl v1 :: .inl v0 :: .inr (some o) :: sk, h) res ↔ hK h o = 7 ∧ ∃ q : Res, Rn xs L d 37 [.inr (some o), .inl v0, .inl v1, .inl v2] h q ∧ X xs L d 35 (138, lo, q.1.toList ++ sk, q.2) res := i_callV k_35_135 rfl ⟨Nat.le_add_left 4 sk.length, Nat.le_trans (Nat.add_le_add_right hs 4) (Nat.le_of_eq (Nat.add_comm 8 4))⟩
theorem e_35_138 {v : Int32} : X xs L d 35 (138, lo, [.inl v], h) res ↔ (v = 0 ∨ v = 1) ∧ res = (some (.inl v), h) := i_zret k_35_138 rfl
theorem e_35_139 {x : Option Nat} {a1 a2 a3 a4 : Option AV} : X xs L d 35 (139, [some (.inr x), a1, a2, a3, a4], sk, h) res ↔ X xs L d 35 (140, [some (.inr x), a1, a2, a3, a4], .inr x :: sk, h) res := i_aload_n k_35_139 rfl
theorem e_35_140 {x : Int32} {a0 a1 a3 a4 : Option AV} : X xs L d 35 (140, [a0, a1, some (.inl x), a3, a4], sk, h) res ↔ X xs L d 35 (141, [a0, a1, some (.inl x), a3, a4], .inl x :: sk, h) res := i_iload_n k_35_140 rfl
theorem e_35_141 {o : Nat} {v0 : Int32} (hs : sk.length ≤ 8) : X xs L d 35 (141, lo, .inl v0 :: .inr (some o) :: sk, h) res ↔ hK h o = 7 ∧ ∃ q : Res, Rn xs L d 36 [.inr (some o), .inl v0] h q ∧ X xs L d 35 (144, lo, q.1.toList ++ sk, q.2) res := i_callV k_35_141 rfl ⟨Nat.le_add_left 2 sk.length, Nat.le_trans (Nat.add_le_add_right hs 2) (Nat.le_of_eq (Nat.add_comm 8 2))⟩
theorem e_35_144 {x : Option Nat} {a1 a2 a3 a4 : Option AV} : X xs L d 35 (144, [some (.inr x), a1, a2, a3, a4], sk, h) res ↔ X xs L d 35 (145, [some (.inr x), a1, a2, a3, a4], .inr x :: sk, h) res := i_aload_n k_35_144 rfl
theorem e_35_145 : X xs L d 35 (145, lo, sk, h) res ↔ X xs L d 35 (147, lo, .inl 59 :: sk, h) res := i_bipush k_35_145
theorem e_35_147 {o : Nat} {v0 : Int32} (hs : sk.length ≤ 8) : X xs L d 35 (147, lo, .inl v0 :: .inr (some o) :: sk, h) res ↔ hK h o = 7 ∧ ∃ q : Res, Rn xs L d 47 [.inr (some o), .inl v0] h q ∧ X xs L d 35 (150, lo, q.1.toList ++ sk, q.2) res := i_callV k_35_147 rfl ⟨Nat.le_add_left 2 sk.length, Nat.le_trans (Nat.add_le_add_right hs 2) (Nat.le_of_eq (Nat.add_comm 8 2))⟩
theorem e_35_150 {v : Int32} : X xs L d 35 (150, lo, [.inl v], h) res ↔ (v = 0 ∨ v = 1) ∧ res = (some (.inl v), h) := i_zret k_35_150 rfl
theorem k_36_0 : am_cd 36 0 = some (.iload_n 1, 1, [], [])   := rfl
theorem k_36_1 : am_cd 36 1 = some (.lookupswitch 64 #[(33, 35), (35, 54), (94, 45)], 35, [65], [(33, 36), (35, 55), (94, 46)])   := rfl
theorem k_36_36 : am_cd 36 36 = some (.aload_n 0, 1, [], [])   := rfl
theorem k_36_37 : am_cd 36 37 = some (.bipush 7, 2, [], [(7, 0)])   := rfl
theorem k_36_39 : am_cd 36 39 = some (.iconst 0, 1, [], [(0, 0)])   := rfl
theorem k_36_40 : am_cd 36 40 = some (.invokevirtual 73, 3, [45, 3, 7], [(0, 299), (0, 301), (0, 6)])   := rfl
theorem k_36_43 : am_cd 36 43 = some (.goto 32, 3, [75], [])   := rfl
theorem k_36_46 : am_cd 36 46 = some (.aload_n 0, 1, [], [])   := rfl
theorem k_36_47 : am_cd 36 47 = some (.iconst 0, 1, [], [(0, 0)])   := rfl
theorem k_36_48 : am_cd 36 48 = some (.iconst 0, 1, [], [(0, 0)])   := rfl
theorem k_36_49 : am_cd 36 49 = some (.invokevirtual 73, 3, [45, 3, 7], [(0, 299), (0, 301), (0, 6)])   := rfl
theorem k_36_52 : am_cd 36 52 = some (.goto 23, 3, [75], [])   := rfl
theorem k_36_55 : am_cd 36 55 = some (.aload_n 0, 1, [], [])   := rfl
theorem k_36_56 : am_cd 36 56 = some (.bipush 8, 2, [], [(8, 0)])   := rfl
theorem k_36_58 : am_cd 36 58 = some (.iconst 0, 1, [], [(0, 0)])   := rfl
theorem k_36_59 : am_cd 36 59 = some (.invokevirtual 73, 3, [45, 3, 7], [(0, 299), (0, 301), (0, 6)])   := rfl
theorem k_36_62 : am_cd 36 62 = some (.goto 13, 3, [75], [])   := rfl
theorem k_36_65 : am_cd 36 65 = some (.aload_n 0, 1, [], [])   := rfl
theorem k_36_66 : am_cd 36 66 = some (.bipush 6, 2, [], [(6, 0)])   := rfl
theorem k_36_68 : am_cd 36 68 = some (.iload_n 1, 1, [], [])   := rfl
theorem k_36_69 : am_cd 36 69 = some (.bipush 97, 2, [], [(97, 0)])   := rfl
theorem k_36_71 : am_cd 36 71 = some (.isub, 1, [], [])   := rfl
theorem k_36_72 : am_cd 36 72 = some (.invokevirtual 73, 3, [45, 3, 7], [(0, 299), (0, 301), (0, 6)])   := rfl
theorem k_36_75 : am_cd 36 75 = some (.return_, 1, [], [])   := rfl
theorem e_36_0 {x : Int32} {a0 : Option AV} : X xs L d 36 (0, [a0, some (.inl x)], sk, h) res ↔ X xs L d 36 (1, [a0, some (.inl x)], .inl x :: sk, h) res := i_iload_n k_36_0 rfl
theorem e_36_1 {x : Int32} : X xs L d 36 (1, lo, .inl x :: sk, h) res ↔ X xs L d 36 (a_tgt x [(33, 36), (35, 55), (94, 46)] 65, lo, sk, h) res := i_lsw k_36_1
theorem e_36_36 {x : Option Nat} {a1 : Option AV} : X xs L d 36 (36, [some (.inr x), a1], sk, h) res ↔ X xs L d 36 (37, [some (.inr x), a1], .inr x :: sk, h) res := i_aload_n k_36_36 rfl
theorem e_36_37 : X xs L d 36 (37, lo, sk, h) res ↔ X xs L d 36 (39, lo, .inl 7 :: sk, h) res := i_bipush k_36_37
theorem e_36_39 : X xs L d 36 (39, lo, sk, h) res ↔ X xs L d 36 (40, lo, .inl 0 :: sk, h) res := i_iconst k_36_39
theorem e_36_40 {o : Nat} {v0 : Int32} {v1 : Int32} (hs : sk.length ≤ 8) : X xs L d 36 (40, lo, .inl v1 :: .inl v0 :: .inr (some o) :: sk, h) res ↔ hK h o = 7 ∧ ∃ q : Res, Rn xs L d 45 [.inr (some o), .inl v0, .inl v1] h q ∧ X xs L d 36 (43, lo, q.1.toList ++ sk, q.2) res := i_callV k_36_40 rfl ⟨Nat.le_add_left 3 sk.length, Nat.le_trans (Nat.add_le_add_right hs 3) (Nat.le_of_eq (Nat.add_comm 8 3))⟩
theorem e_36_43 : X xs L d 36 (43, lo, sk, h) res ↔ X xs L d 36 (75, lo, sk, h) res := i_goto k_36_43
theorem e_36_46 {x : Option Nat} {a1 : Option AV} : X xs L d 36 (46, [some (.inr x), a1], sk, h) res ↔ X xs L d 36 (47, [some (.inr x), a1], .inr x :: sk, h) res := i_aload_n k_36_46 rfl
theorem e_36_47 : X xs L d 36 (47, lo, sk, h) res ↔ X xs L d 36 (48, lo, .inl 0 :: sk, h) res := i_iconst k_36_47
theorem e_36_48 : X xs L d 36 (48, lo, sk, h) res ↔ X xs L d 36 (49, lo, .inl 0 :: sk, h) res := i_iconst k_36_48
theorem e_36_49 {o : Nat} {v0 : Int32} {v1 : Int32} (hs : sk.length ≤ 8) : X xs L d 36 (49, lo, .inl v1 :: .inl v0 :: .inr (some o) :: sk, h) res ↔ hK h o = 7 ∧ ∃ q : Res, Rn xs L d 45 [.inr (some o), .inl v0, .inl v1] h q ∧ X xs L d 36 (52, lo, q.1.toList ++ sk, q.2) res := i_callV k_36_49 rfl ⟨Nat.le_add_left 3 sk.length, Nat.le_trans (Nat.add_le_add_right hs 3) (Nat.le_of_eq (Nat.add_comm 8 3))⟩
theorem e_36_52 : X xs L d 36 (52, lo, sk, h) res ↔ X xs L d 36 (75, lo, sk, h) res := i_goto k_36_52
theorem e_36_55 {x : Option Nat} {a1 : Option AV} : X xs L d 36 (55, [some (.inr x), a1], sk, h) res ↔ X xs L d 36 (56, [some (.inr x), a1], .inr x :: sk, h) res := i_aload_n k_36_55 rfl
theorem e_36_56 : X xs L d 36 (56, lo, sk, h) res ↔ X xs L d 36 (58, lo, .inl 8 :: sk, h) res := i_bipush k_36_56
theorem e_36_58 : X xs L d 36 (58, lo, sk, h) res ↔ X xs L d 36 (59, lo, .inl 0 :: sk, h) res := i_iconst k_36_58
theorem e_36_59 {o : Nat} {v0 : Int32} {v1 : Int32} (hs : sk.length ≤ 8) : X xs L d 36 (59, lo, .inl v1 :: .inl v0 :: .inr (some o) :: sk, h) res ↔ hK h o = 7 ∧ ∃ q : Res, Rn xs L d 45 [.inr (some o), .inl v0, .inl v1] h q ∧ X xs L d 36 (62, lo, q.1.toList ++ sk, q.2) res := i_callV k_36_59 rfl ⟨Nat.le_add_left 3 sk.length, Nat.le_trans (Nat.add_le_add_right hs 3) (Nat.le_of_eq (Nat.add_comm 8 3))⟩
theorem e_36_62 : X xs L d 36 (62, lo, sk, h) res ↔ X xs L d 36 (75, lo, sk, h) res := i_goto k_36_62
theorem e_36_65 {x : Option Nat} {a1 : Option AV} : X xs L d 36 (65, [some (.inr x), a1], sk, h) res ↔ X xs L d 36 (66, [some (.inr x), a1], .inr x :: sk, h) res := i_aload_n k_36_65 rfl
theorem e_36_66 : X xs L d 36 (66, lo, sk, h) res ↔ X xs L d 36 (68, lo, .inl 6 :: sk, h) res := i_bipush k_36_66
theorem e_36_68 {x : Int32} {a0 : Option AV} : X xs L d 36 (68, [a0, some (.inl x)], sk, h) res ↔ X xs L d 36 (69, [a0, some (.inl x)], .inl x :: sk, h) res := i_iload_n k_36_68 rfl
theorem e_36_69 : X xs L d 36 (69, lo, sk, h) res ↔ X xs L d 36 (71, lo, .inl 97 :: sk, h) res := i_bipush k_36_69
theorem e_36_71 {x y : Int32} : X xs L d 36 (71, lo, .inl y :: .inl x :: sk, h) res ↔ X xs L d 36 (72, lo, .inl (x - y) :: sk, h) res := i_isub k_36_71
theorem e_36_72 {o : Nat} {v0 : Int32} {v1 : Int32} (hs : sk.length ≤ 8) : X xs L d 36 (72, lo, .inl v1 :: .inl v0 :: .inr (some o) :: sk, h) res ↔ hK h o = 7 ∧ ∃ q : Res, Rn xs L d 45 [.inr (some o), .inl v0, .inl v1] h q ∧ X xs L d 36 (75, lo, q.1.toList ++ sk, q.2) res := i_callV k_36_72 rfl ⟨Nat.le_add_left 3 sk.length, Nat.le_trans (Nat.add_le_add_right hs 3) (Nat.le_of_eq (Nat.add_comm 8 3))⟩
theorem e_36_75 : X xs L d 36 (75, lo, [], h) res ↔ res = (none, h) := i_vret k_36_75 rfl
theorem k_37_0 : am_cd 37 0 = some (.aload_n 0, 1, [], [])   := rfl
theorem k_37_1 : am_cd 37 1 = some (.getfield 56, 3, [7, 8, 0], [(0, 113)])   := rfl
theorem k_37_4 : am_cd 37 4 = some (.istore 4, 2, [], [])   := rfl
theorem k_37_6 : am_cd 37 6 = some (.aload_n 0, 1, [], [])   := rfl
theorem k_37_7 : am_cd 37 7 = some (.bipush 9, 2, [], [(9, 0)])   := rfl
theorem k_37_9 : am_cd 37 9 = some (.iconst 0, 1, [], [(0, 0)])   := rfl
theorem k_37_10 : am_cd 37 10 = some (.invokevirtual 73, 3, [45, 3, 7], [(0, 299), (0, 301), (0, 6)])   := rfl
theorem k_37_13 : am_cd 37 13 = some (.aload_n 0, 1, [], [])   := rfl
theorem k_37_14 : am_cd 37 14 = some (.iload_n 1, 1, [], [])   := rfl
theorem k_37_15 : am_cd 37 15 = some (.iconst 1, 1, [], [(1, 0)])   := rfl
theorem k_37_16 : am_cd 37 16 = some (.iadd, 1, [], [])   := rfl
theorem k_37_17 : am_cd 37 17 = some (.invokevirtual 89, 3, [34, 2, 7], [(0, 287), (0, 289), (0, 3)])   := rfl
theorem k_37_20 : am_cd 37 20 = some (.ifCond .ne 5, 3, [25], [])   := rfl
theorem k_37_23 : am_cd 37 23 = some (.iconst 0, 1, [], [(0, 0)])   := rfl
theorem k_37_24 : am_cd 37 24 = some (.ireturn, 1, [], [])   := rfl
theorem k_37_25 : am_cd 37 25 = some (.iload_n 2, 1, [], [])   := rfl
theorem k_37_26 : am_cd 37 26 = some (.ifCond .eq 10, 3, [36], [])   := rfl
theorem k_37_29 : am_cd 37 29 = some (.aload_n 0, 1, [], [])   := rfl
theorem k_37_30 : am_cd 37 30 = some (.bipush 10, 2, [], [(10, 0)])   := rfl
theorem k_37_32 : am_cd 37 32 = some (.iload_n 3, 1, [], [])   := rfl
theorem k_37_33 : am_cd 37 33 = some (.invokevirtual 73, 3, [45, 3, 7], [(0, 299), (0, 301), (0, 6)])   := rfl
theorem k_37_36 : am_cd 37 36 = some (.aload_n 0, 1, [], [])   := rfl
theorem k_37_37 : am_cd 37 37 = some (.iload 4, 2, [], [])   := rfl
theorem k_37_39 : am_cd 37 39 = some (.invokevirtual 121, 3, [40, 2, 7], [(0, 311), (0, 313), (0, 9)])   := rfl
theorem k_37_42 : am_cd 37 42 = some (.iconst 1, 1, [], [(1, 0)])   := rfl
theorem k_37_43 : am_cd 37 43 = some (.ireturn, 1, [], [])   := rfl
theorem e_37_0 {x : Option Nat} {a1 a2 a3 a4 : Option AV} : X xs L d 37 (0, [some (.inr x), a1, a2, a3, a4], sk, h) res ↔ X xs L d 37 (1, [some (.inr x), a1, a2, a3, a4], .inr x :: sk, h) res := i_aload_n k_37_0 rfl
theorem e_37_1 {o : Nat} : X xs L d 37 (1, lo, .inr (some o) :: sk, h) res ↔ hK h o = 7 ∧ X xs L d 37 (4, lo, .inl (hI h o 8) :: sk, h) res := i_getI k_37_1
theorem e_37_4 {x : Int32} {a0 a1 a2 a3 a4 : Option AV} : X xs L d 37 (4, [a0, a1, a2, a3, a4], .inl x :: sk, h) res ↔ X xs L d 37 (6, [a0, a1, a2, a3, some (.inl x)], sk, h) res := i_istore k_37_4 (Nat.le_of_ble_eq_true rfl) rfl
theorem e_37_6 {x : Option Nat} {a1 a2 a3 a4 : Option AV} : X xs L d 37 (6, [some (.inr x), a1, a2, a3, a4], sk, h) res ↔ X xs L d 37 (7, [some (.inr x), a1, a2, a3, a4], .inr x :: sk, h) res := i_aload_n k_37_6 rfl
theorem e_37_7 : X xs L d 37 (7, lo, sk, h) res ↔ X xs L d 37 (9, lo, .inl 9 :: sk, h) res := i_bipush k_37_7
theorem e_37_9 : X xs L d 37 (9, lo, sk, h) res ↔ X xs L d 37 (10, lo, .inl 0 :: sk, h) res := i_iconst k_37_9
theorem e_37_10 {o : Nat} {v0 : Int32} {v1 : Int32} (hs : sk.length ≤ 8) : X xs L d 37 (10, lo, .inl v1 :: .inl v0 :: .inr (some o) :: sk, h) res ↔ hK h o = 7 ∧ ∃ q : Res, Rn xs L d 45 [.inr (some o), .inl v0, .inl v1] h q ∧ X xs L d 37 (13, lo, q.1.toList ++ sk, q.2) res := i_callV k_37_10 rfl ⟨Nat.le_add_left 3 sk.length, Nat.le_trans (Nat.add_le_add_right hs 3) (Nat.le_of_eq (Nat.add_comm 8 3))⟩
theorem e_37_13 {x : Option Nat} {a1 a2 a3 a4 : Option AV} : X xs L d 37 (13, [some (.inr x), a1, a2, a3, a4], sk, h) res ↔ X xs L d 37 (14, [some (.inr x), a1, a2, a3, a4], .inr x :: sk, h) res := i_aload_n k_37_13 rfl
theorem e_37_14 {x : Int32} {a0 a2 a3 a4 : Option AV} : X xs L d 37 (14, [a0, some (.inl x), a2, a3, a4], sk, h) res ↔ X xs L d 37 (15, [a0, some (.inl x), a2, a3, a4], .inl x :: sk, h) res := i_iload_n k_37_14 rfl
theorem e_37_15 : X xs L d 37 (15, lo, sk, h) res ↔ X xs L d 37 (16, lo, .inl 1 :: sk, h) res := i_iconst k_37_15
theorem e_37_16 {x y : Int32} : X xs L d 37 (16, lo, .inl y :: .inl x :: sk, h) res ↔ X xs L d 37 (17, lo, .inl (x + y) :: sk, h) res := i_iadd k_37_16
theorem e_37_17 {o : Nat} {v0 : Int32} (hs : sk.length ≤ 8) : X xs L d 37 (17, lo, .inl v0 :: .inr (some o) :: sk, h) res ↔ hK h o = 7 ∧ ∃ q : Res, Rn xs L d 34 [.inr (some o), .inl v0] h q ∧ X xs L d 37 (20, lo, q.1.toList ++ sk, q.2) res := i_callV k_37_17 rfl ⟨Nat.le_add_left 2 sk.length, Nat.le_trans (Nat.add_le_add_right hs 2) (Nat.le_of_eq (Nat.add_comm 8 2))⟩
theorem e_37_20 {x : Int32} : X xs L d 37 (20, lo, .inl x :: sk, h) res ↔ (if x = 0 then X xs L d 37 (23, lo, sk, h) res else X xs L d 37 (25, lo, sk, h) res) := i_if_ne k_37_20
theorem e_37_23 : X xs L d 37 (23, lo, sk, h) res ↔ X xs L d 37 (24, lo, .inl 0 :: sk, h) res := i_iconst k_37_23
theorem e_37_24 {v : Int32} : X xs L d 37 (24, lo, [.inl v], h) res ↔ (v = 0 ∨ v = 1) ∧ res = (some (.inl v), h) := i_zret k_37_24 rfl
theorem e_37_25 {x : Int32} {a0 a1 a3 a4 : Option AV} : X xs L d 37 (25, [a0, a1, some (.inl x), a3, a4], sk, h) res ↔ X xs L d 37 (26, [a0, a1, some (.inl x), a3, a4], .inl x :: sk, h) res := i_iload_n k_37_25 rfl
theorem e_37_26 {x : Int32} : X xs L d 37 (26, lo, .inl x :: sk, h) res ↔ (if x = 0 then X xs L d 37 (36, lo, sk, h) res else X xs L d 37 (29, lo, sk, h) res) := i_if_eq k_37_26
theorem e_37_29 {x : Option Nat} {a1 a2 a3 a4 : Option AV} : X xs L d 37 (29, [some (.inr x), a1, a2, a3, a4], sk, h) res ↔ X xs L d 37 (30, [some (.inr x), a1, a2, a3, a4], .inr x :: sk, h) res := i_aload_n k_37_29 rfl
theorem e_37_30 : X xs L d 37 (30, lo, sk, h) res ↔ X xs L d 37 (32, lo, .inl 10 :: sk, h) res := i_bipush k_37_30
theorem e_37_32 {x : Int32} {a0 a1 a2 a4 : Option AV} : X xs L d 37 (32, [a0, a1, a2, some (.inl x), a4], sk, h) res ↔ X xs L d 37 (33, [a0, a1, a2, some (.inl x), a4], .inl x :: sk, h) res := i_iload_n k_37_32 rfl
theorem e_37_33 {o : Nat} {v0 : Int32} {v1 : Int32} (hs : sk.length ≤ 8) : X xs L d 37 (33, lo, .inl v1 :: .inl v0 :: .inr (some o) :: sk, h) res ↔ hK h o = 7 ∧ ∃ q : Res, Rn xs L d 45 [.inr (some o), .inl v0, .inl v1] h q ∧ X xs L d 37 (36, lo, q.1.toList ++ sk, q.2) res := i_callV k_37_33 rfl ⟨Nat.le_add_left 3 sk.length, Nat.le_trans (Nat.add_le_add_right hs 3) (Nat.le_of_eq (Nat.add_comm 8 3))⟩
theorem e_37_36 {x : Option Nat} {a1 a2 a3 a4 : Option AV} : X xs L d 37 (36, [some (.inr x), a1, a2, a3, a4], sk, h) res ↔ X xs L d 37 (37, [some (.inr x), a1, a2, a3, a4], .inr x :: sk, h) res := i_aload_n k_37_36 rfl
theorem e_37_37 {x : Int32} {a0 a1 a2 a3 : Option AV} : X xs L d 37 (37, [a0, a1, a2, a3, some (.inl x)], sk, h) res ↔ X xs L d 37 (39, [a0, a1, a2, a3, some (.inl x)], .inl x :: sk, h) res := i_iload k_37_37 rfl
theorem e_37_39 {o : Nat} {v0 : Int32} (hs : sk.length ≤ 8) : X xs L d 37 (39, lo, .inl v0 :: .inr (some o) :: sk, h) res ↔ hK h o = 7 ∧ ∃ q : Res, Rn xs L d 40 [.inr (some o), .inl v0] h q ∧ X xs L d 37 (42, lo, q.1.toList ++ sk, q.2) res := i_callV k_37_39 rfl ⟨Nat.le_add_left 2 sk.length, Nat.le_trans (Nat.add_le_add_right hs 2) (Nat.le_of_eq (Nat.add_comm 8 2))⟩
theorem e_37_42 : X xs L d 37 (42, lo, sk, h) res ↔ X xs L d 37 (43, lo, .inl 1 :: sk, h) res := i_iconst k_37_42
theorem e_37_43 {v : Int32} : X xs L d 37 (43, lo, [.inl v], h) res ↔ (v = 0 ∨ v = 1) ∧ res = (some (.inl v), h) := i_zret k_37_43 rfl
theorem k_38_0 : am_cd 38 0 = some (.aload_n 0, 1, [], [])   := rfl
theorem k_38_1 : am_cd 38 1 = some (.getfield 56, 3, [7, 8, 0], [(0, 113)])   := rfl
theorem k_38_4 : am_cd 38 4 = some (.istore_n 2, 1, [], [])   := rfl
theorem k_38_5 : am_cd 38 5 = some (.aload_n 0, 1, [], [])   := rfl
theorem k_38_6 : am_cd 38 6 = some (.iload_n 1, 1, [], [])   := rfl
theorem k_38_7 : am_cd 38 7 = some (.iconst 1, 1, [], [(1, 0)])   := rfl
theorem k_38_8 : am_cd 38 8 = some (.iadd, 1, [], [])   := rfl
theorem k_38_9 : am_cd 38 9 = some (.invokevirtual 89, 3, [34, 2, 7], [(0, 287), (0, 289), (0, 3)])   := rfl
theorem k_38_12 : am_cd 38 12 = some (.ifCond .ne 5, 3, [17], [])   := rfl
theorem k_38_15 : am_cd 38 15 = some (.iconst 0, 1, [], [(0, 0)])   := rfl
theorem k_38_16 : am_cd 38 16 = some (.ireturn, 1, [], [])   := rfl
theorem k_38_17 : am_cd 38 17 = some (.aload_n 0, 1, [], [])   := rfl
theorem k_38_18 : am_cd 38 18 = some (.getfield 56, 3, [7, 8, 0], [(0, 113)])   := rfl
theorem k_38_21 : am_cd 38 21 = some (.istore_n 3, 1, [], [])   := rfl
theorem k_38_22 : am_cd 38 22 = some (.aload_n 0, 1, [], [])   := rfl
theorem k_38_23 : am_cd 38 23 = some (.bipush 10, 2, [], [(10, 0)])   := rfl
theorem k_38_25 : am_cd 38 25 = some (.iconst 0, 1, [], [(0, 0)])   := rfl
theorem k_38_26 : am_cd 38 26 = some (.invokevirtual 73, 3, [45, 3, 7], [(0, 299), (0, 301), (0, 6)])   := rfl
theorem k_38_29 : am_cd 38 29 = some (.aload_n 0, 1, [], [])   := rfl
theorem k_38_30 : am_cd 38 30 = some (.iload_n 2, 1, [], [])   := rfl
theorem k_38_31 : am_cd 38 31 = some (.iload_n 3, 1, [], [])   := rfl
theorem k_38_32 : am_cd 38 32 = some (.invokevirtual 124, 3, [39, 3, 7], [(0, 307), (0, 309), (0, 8)])   := rfl
theorem k_38_35 : am_cd 38 35 = some (.aload_n 0, 1, [], [])   := rfl
theorem k_38_36 : am_cd 38 36 = some (.iload_n 1, 1, [], [])   := rfl
theorem k_38_37 : am_cd 38 37 = some (.iconst 1, 1, [], [(1, 0)])   := rfl
theorem k_38_38 : am_cd 38 38 = some (.iadd, 1, [], [])   := rfl
theorem k_38_39 : am_cd 38 39 = some (.invokevirtual 89, 3, [34, 2, 7], [(0, 287), (0, 289), (0, 3)])   := rfl
theorem k_38_42 : am_cd 38 42 = some (.ifCond .ne 5, 3, [47], [])   := rfl
theorem k_38_45 : am_cd 38 45 = some (.iconst 0, 1, [], [(0, 0)])   := rfl
theorem k_38_46 : am_cd 38 46 = some (.ireturn, 1, [], [])   := rfl
theorem k_38_47 : am_cd 38 47 = some (.aload_n 0, 1, [], [])   := rfl
theorem k_38_48 : am_cd 38 48 = some (.iload_n 3, 1, [], [])   := rfl
theorem k_38_49 : am_cd 38 49 = some (.invokevirtual 121, 3, [40, 2, 7], [(0, 311), (0, 313), (0, 9)])   := rfl
theorem k_38_52 : am_cd 38 52 = some (.iconst 1, 1, [], [(1, 0)])   := rfl
theorem k_38_53 : am_cd 38 53 = some (.ireturn, 1, [], [])   := rfl
theorem e_38_0 {x : Option Nat} {a1 a2 a3 : Option AV} : X xs L d 38 (0, [some (.inr x), a1, a2, a3], sk, h) res ↔ X xs L d 38 (1, [some (.inr x), a1, a2, a3], .inr x :: sk, h) res := i_aload_n k_38_0 rfl
theorem e_38_1 {o : Nat} : X xs L d 38 (1, lo, .inr (some o) :: sk, h) res ↔ hK h o = 7 ∧ X xs L d 38 (4, lo, .inl (hI h o 8) :: sk, h) res := i_getI k_38_1
theorem e_38_4 {x : Int32} {a0 a1 a2 a3 : Option AV} : X xs L d 38 (4, [a0, a1, a2, a3], .inl x :: sk, h) res ↔ X xs L d 38 (5, [a0, a1, some (.inl x), a3], sk, h) res := i_istore_n k_38_4 (Nat.le_of_ble_eq_true rfl) rfl
theorem e_38_5 {x : Option Nat} {a1 a2 a3 : Option AV} : X xs L d 38 (5, [some (.inr x), a1, a2, a3], sk, h) res ↔ X xs L d 38 (6, [some (.inr x), a1, a2, a3], .inr x :: sk, h) res := i_aload_n k_38_5 rfl
theorem e_38_6 {x : Int32} {a0 a2 a3 : Option AV} : X xs L d 38 (6, [a0, some (.inl x), a2, a3], sk, h) res ↔ X xs L d 38 (7, [a0, some (.inl x), a2, a3], .inl x :: sk, h) res := i_iload_n k_38_6 rfl
theorem e_38_7 : X xs L d 38 (7, lo, sk, h) res ↔ X xs L d 38 (8, lo, .inl 1 :: sk, h) res := i_iconst k_38_7
theorem e_38_8 {x y : Int32} : X xs L d 38 (8, lo, .inl y :: .inl x :: sk, h) res ↔ X xs L d 38 (9, lo, .inl (x + y) :: sk, h) res := i_iadd k_38_8
theorem e_38_9 {o : Nat} {v0 : Int32} (hs : sk.length ≤ 8) : X xs L d 38 (9, lo, .inl v0 :: .inr (some o) :: sk, h) res ↔ hK h o = 7 ∧ ∃ q : Res, Rn xs L d 34 [.inr (some o), .inl v0] h q ∧ X xs L d 38 (12, lo, q.1.toList ++ sk, q.2) res := i_callV k_38_9 rfl ⟨Nat.le_add_left 2 sk.length, Nat.le_trans (Nat.add_le_add_right hs 2) (Nat.le_of_eq (Nat.add_comm 8 2))⟩
theorem e_38_12 {x : Int32} : X xs L d 38 (12, lo, .inl x :: sk, h) res ↔ (if x = 0 then X xs L d 38 (15, lo, sk, h) res else X xs L d 38 (17, lo, sk, h) res) := i_if_ne k_38_12
theorem e_38_15 : X xs L d 38 (15, lo, sk, h) res ↔ X xs L d 38 (16, lo, .inl 0 :: sk, h) res := i_iconst k_38_15
theorem e_38_16 {v : Int32} : X xs L d 38 (16, lo, [.inl v], h) res ↔ (v = 0 ∨ v = 1) ∧ res = (some (.inl v), h) := i_zret k_38_16 rfl
theorem e_38_17 {x : Option Nat} {a1 a2 a3 : Option AV} : X xs L d 38 (17, [some (.inr x), a1, a2, a3], sk, h) res ↔ X xs L d 38 (18, [some (.inr x), a1, a2, a3], .inr x :: sk, h) res := i_aload_n k_38_17 rfl
theorem e_38_18 {o : Nat} : X xs L d 38 (18, lo, .inr (some o) :: sk, h) res ↔ hK h o = 7 ∧ X xs L d 38 (21, lo, .inl (hI h o 8) :: sk, h) res := i_getI k_38_18
theorem e_38_21 {x : Int32} {a0 a1 a2 a3 : Option AV} : X xs L d 38 (21, [a0, a1, a2, a3], .inl x :: sk, h) res ↔ X xs L d 38 (22, [a0, a1, a2, some (.inl x)], sk, h) res := i_istore_n k_38_21 (Nat.le_of_ble_eq_true rfl) rfl
theorem e_38_22 {x : Option Nat} {a1 a2 a3 : Option AV} : X xs L d 38 (22, [some (.inr x), a1, a2, a3], sk, h) res ↔ X xs L d 38 (23, [some (.inr x), a1, a2, a3], .inr x :: sk, h) res := i_aload_n k_38_22 rfl
theorem e_38_23 : X xs L d 38 (23, lo, sk, h) res ↔ X xs L d 38 (25, lo, .inl 10 :: sk, h) res := i_bipush k_38_23
theorem e_38_25 : X xs L d 38 (25, lo, sk, h) res ↔ X xs L d 38 (26, lo, .inl 0 :: sk, h) res := i_iconst k_38_25
theorem e_38_26 {o : Nat} {v0 : Int32} {v1 : Int32} (hs : sk.length ≤ 8) : X xs L d 38 (26, lo, .inl v1 :: .inl v0 :: .inr (some o) :: sk, h) res ↔ hK h o = 7 ∧ ∃ q : Res, Rn xs L d 45 [.inr (some o), .inl v0, .inl v1] h q ∧ X xs L d 38 (29, lo, q.1.toList ++ sk, q.2) res := i_callV k_38_26 rfl ⟨Nat.le_add_left 3 sk.length, Nat.le_trans (Nat.add_le_add_right hs 3) (Nat.le_of_eq (Nat.add_comm 8 3))⟩
theorem e_38_29 {x : Option Nat} {a1 a2 a3 : Option AV} : X xs L d 38 (29, [some (.inr x), a1, a2, a3], sk, h) res ↔ X xs L d 38 (30, [some (.inr x), a1, a2, a3], .inr x :: sk, h) res := i_aload_n k_38_29 rfl
theorem e_38_30 {x : Int32} {a0 a1 a3 : Option AV} : X xs L d 38 (30, [a0, a1, some (.inl x), a3], sk, h) res ↔ X xs L d 38 (31, [a0, a1, some (.inl x), a3], .inl x :: sk, h) res := i_iload_n k_38_30 rfl
theorem e_38_31 {x : Int32} {a0 a1 a2 : Option AV} : X xs L d 38 (31, [a0, a1, a2, some (.inl x)], sk, h) res ↔ X xs L d 38 (32, [a0, a1, a2, some (.inl x)], .inl x :: sk, h) res := i_iload_n k_38_31 rfl
theorem e_38_32 {o : Nat} {v0 : Int32} {v1 : Int32} (hs : sk.length ≤ 8) : X xs L d 38 (32, lo, .inl v1 :: .inl v0 :: .inr (some o) :: sk, h) res ↔ hK h o = 7 ∧ ∃ q : Res, Rn xs L d 39 [.inr (some o), .inl v0, .inl v1] h q ∧ X xs L d 38 (35, lo, q.1.toList ++ sk, q.2) res := i_callV k_38_32 rfl ⟨Nat.le_add_left 3 sk.length, Nat.le_trans (Nat.add_le_add_right hs 3) (Nat.le_of_eq (Nat.add_comm 8 3))⟩
theorem e_38_35 {x : Option Nat} {a1 a2 a3 : Option AV} : X xs L d 38 (35, [some (.inr x), a1, a2, a3], sk, h) res ↔ X xs L d 38 (36, [some (.inr x), a1, a2, a3], .inr x :: sk, h) res := i_aload_n k_38_35 rfl
theorem e_38_36 {x : Int32} {a0 a2 a3 : Option AV} : X xs L d 38 (36, [a0, some (.inl x), a2, a3], sk, h) res ↔ X xs L d 38 (37, [a0, some (.inl x), a2, a3], .inl x :: sk, h) res := i_iload_n k_38_36 rfl
theorem e_38_37 : X xs L d 38 (37, lo, sk, h) res ↔ X xs L d 38 (38, lo, .inl 1 :: sk, h) res := i_iconst k_38_37
theorem e_38_38 {x y : Int32} : X xs L d 38 (38, lo, .inl y :: .inl x :: sk, h) res ↔ X xs L d 38 (39, lo, .inl (x + y) :: sk, h) res := i_iadd k_38_38
theorem e_38_39 {o : Nat} {v0 : Int32} (hs : sk.length ≤ 8) : X xs L d 38 (39, lo, .inl v0 :: .inr (some o) :: sk, h) res ↔ hK h o = 7 ∧ ∃ q : Res, Rn xs L d 34 [.inr (some o), .inl v0] h q ∧ X xs L d 38 (42, lo, q.1.toList ++ sk, q.2) res := i_callV k_38_39 rfl ⟨Nat.le_add_left 2 sk.length, Nat.le_trans (Nat.add_le_add_right hs 2) (Nat.le_of_eq (Nat.add_comm 8 2))⟩
theorem e_38_42 {x : Int32} : X xs L d 38 (42, lo, .inl x :: sk, h) res ↔ (if x = 0 then X xs L d 38 (45, lo, sk, h) res else X xs L d 38 (47, lo, sk, h) res) := i_if_ne k_38_42
theorem e_38_45 : X xs L d 38 (45, lo, sk, h) res ↔ X xs L d 38 (46, lo, .inl 0 :: sk, h) res := i_iconst k_38_45
theorem e_38_46 {v : Int32} : X xs L d 38 (46, lo, [.inl v], h) res ↔ (v = 0 ∨ v = 1) ∧ res = (some (.inl v), h) := i_zret k_38_46 rfl
theorem e_38_47 {x : Option Nat} {a1 a2 a3 : Option AV} : X xs L d 38 (47, [some (.inr x), a1, a2, a3], sk, h) res ↔ X xs L d 38 (48, [some (.inr x), a1, a2, a3], .inr x :: sk, h) res := i_aload_n k_38_47 rfl
theorem e_38_48 {x : Int32} {a0 a1 a2 : Option AV} : X xs L d 38 (48, [a0, a1, a2, some (.inl x)], sk, h) res ↔ X xs L d 38 (49, [a0, a1, a2, some (.inl x)], .inl x :: sk, h) res := i_iload_n k_38_48 rfl
theorem e_38_49 {o : Nat} {v0 : Int32} (hs : sk.length ≤ 8) : X xs L d 38 (49, lo, .inl v0 :: .inr (some o) :: sk, h) res ↔ hK h o = 7 ∧ ∃ q : Res, Rn xs L d 40 [.inr (some o), .inl v0] h q ∧ X xs L d 38 (52, lo, q.1.toList ++ sk, q.2) res := i_callV k_38_49 rfl ⟨Nat.le_add_left 2 sk.length, Nat.le_trans (Nat.add_le_add_right hs 2) (Nat.le_of_eq (Nat.add_comm 8 2))⟩
theorem e_38_52 : X xs L d 38 (52, lo, sk, h) res ↔ X xs L d 38 (53, lo, .inl 1 :: sk, h) res := i_iconst k_38_52
theorem e_38_53 {v : Int32} : X xs L d 38 (53, lo, [.inl v], h) res ↔ (v = 0 ∨ v = 1) ∧ res = (some (.inl v), h) := i_zret k_38_53 rfl
theorem k_39_0 : am_cd 39 0 = some (.iload_n 1, 1, [], [])   := rfl
theorem k_39_1 : am_cd 39 1 = some (.istore_n 3, 1, [], [])   := rfl
theorem k_39_2 : am_cd 39 2 = some (.iload_n 3, 1, [], [])   := rfl
theorem k_39_3 : am_cd 39 3 = some (.iload_n 2, 1, [], [])   := rfl
theorem k_39_4 : am_cd 39 4 = some (.if_icmp .ge 29, 3, [33], [])   := rfl
theorem k_39_7 : am_cd 39 7 = some (.aload_n 0, 1, [], [])   := rfl
theorem k_39_8 : am_cd 39 8 = some (.getfield 15, 3, [7, 1, 2], [(0, 106)])   := rfl
theorem k_39_11 : am_cd 39 11 = some (.iload_n 3, 1, [], [])   := rfl
theorem k_39_12 : am_cd 39 12 = some (.iaload, 1, [], [])   := rfl
theorem k_39_13 : am_cd 39 13 = some (.iconst (-1), 1, [], [(-1, 0)])   := rfl
theorem k_39_14 : am_cd 39 14 = some (.if_icmp .ne 13, 3, [27], [])   := rfl
theorem k_39_17 : am_cd 39 17 = some (.aload_n 0, 1, [], [])   := rfl
theorem k_39_18 : am_cd 39 18 = some (.getfield 15, 3, [7, 1, 2], [(0, 106)])   := rfl
theorem k_39_21 : am_cd 39 21 = some (.iload_n 3, 1, [], [])   := rfl
theorem k_39_22 : am_cd 39 22 = some (.aload_n 0, 1, [], [])   := rfl
theorem k_39_23 : am_cd 39 23 = some (.getfield 56, 3, [7, 8, 0], [(0, 113)])   := rfl
theorem k_39_26 : am_cd 39 26 = some (.iastore, 1, [], [])   := rfl
theorem k_39_27 : am_cd 39 27 = some (.iinc 3 1, 3, [], [(1, 0)])   := rfl
theorem k_39_30 : am_cd 39 30 = some (.goto (-28), 3, [2], [])   := rfl
theorem k_39_33 : am_cd 39 33 = some (.return_, 1, [], [])   := rfl
theorem e_39_0 {x : Int32} {a0 a2 a3 : Option AV} : X xs L d 39 (0, [a0, some (.inl x), a2, a3], sk, h) res ↔ X xs L d 39 (1, [a0, some (.inl x), a2, a3], .inl x :: sk, h) res := i_iload_n k_39_0 rfl
theorem e_39_1 {x : Int32} {a0 a1 a2 a3 : Option AV} : X xs L d 39 (1, [a0, a1, a2, a3], .inl x :: sk, h) res ↔ X xs L d 39 (2, [a0, a1, a2, some (.inl x)], sk, h) res := i_istore_n k_39_1 (Nat.le_of_ble_eq_true rfl) rfl
theorem e_39_2 {x : Int32} {a0 a1 a2 : Option AV} : X xs L d 39 (2, [a0, a1, a2, some (.inl x)], sk, h) res ↔ X xs L d 39 (3, [a0, a1, a2, some (.inl x)], .inl x :: sk, h) res := i_iload_n k_39_2 rfl
theorem e_39_3 {x : Int32} {a0 a1 a3 : Option AV} : X xs L d 39 (3, [a0, a1, some (.inl x), a3], sk, h) res ↔ X xs L d 39 (4, [a0, a1, some (.inl x), a3], .inl x :: sk, h) res := i_iload_n k_39_3 rfl
theorem e_39_4 {x y : Int32} : X xs L d 39 (4, lo, .inl y :: .inl x :: sk, h) res ↔ (if y ≤ x then X xs L d 39 (33, lo, sk, h) res else X xs L d 39 (7, lo, sk, h) res) := i_icmp_ge k_39_4
theorem e_39_7 {x : Option Nat} {a1 a2 a3 : Option AV} : X xs L d 39 (7, [some (.inr x), a1, a2, a3], sk, h) res ↔ X xs L d 39 (8, [some (.inr x), a1, a2, a3], .inr x :: sk, h) res := i_aload_n k_39_7 rfl
theorem e_39_8 {o : Nat} : X xs L d 39 (8, lo, .inr (some o) :: sk, h) res ↔ hK h o = 7 ∧ X xs L d 39 (11, lo, .inr (hR h o 1) :: sk, h) res := i_getR k_39_8
theorem e_39_11 {x : Int32} {a0 a1 a2 : Option AV} : X xs L d 39 (11, [a0, a1, a2, some (.inl x)], sk, h) res ↔ X xs L d 39 (12, [a0, a1, a2, some (.inl x)], .inl x :: sk, h) res := i_iload_n k_39_11 rfl
theorem e_39_12 {o : Nat} {i : Int32} : X xs L d 39 (12, lo, .inl i :: .inr (some o) :: sk, h) res ↔ (hK h o = 20 ∧ vp_in i (hL h o)) ∧ X xs L d 39 (13, lo, .inl (hI h o i.toNatClampNeg) :: sk, h) res := i_iaload k_39_12
theorem e_39_13 : X xs L d 39 (13, lo, sk, h) res ↔ X xs L d 39 (14, lo, .inl (-1) :: sk, h) res := i_iconst k_39_13
theorem e_39_14 {x y : Int32} : X xs L d 39 (14, lo, .inl y :: .inl x :: sk, h) res ↔ (if x = y then X xs L d 39 (17, lo, sk, h) res else X xs L d 39 (27, lo, sk, h) res) := i_icmp_ne k_39_14
theorem e_39_17 {x : Option Nat} {a1 a2 a3 : Option AV} : X xs L d 39 (17, [some (.inr x), a1, a2, a3], sk, h) res ↔ X xs L d 39 (18, [some (.inr x), a1, a2, a3], .inr x :: sk, h) res := i_aload_n k_39_17 rfl
theorem e_39_18 {o : Nat} : X xs L d 39 (18, lo, .inr (some o) :: sk, h) res ↔ hK h o = 7 ∧ X xs L d 39 (21, lo, .inr (hR h o 1) :: sk, h) res := i_getR k_39_18
theorem e_39_21 {x : Int32} {a0 a1 a2 : Option AV} : X xs L d 39 (21, [a0, a1, a2, some (.inl x)], sk, h) res ↔ X xs L d 39 (22, [a0, a1, a2, some (.inl x)], .inl x :: sk, h) res := i_iload_n k_39_21 rfl
theorem e_39_22 {x : Option Nat} {a1 a2 a3 : Option AV} : X xs L d 39 (22, [some (.inr x), a1, a2, a3], sk, h) res ↔ X xs L d 39 (23, [some (.inr x), a1, a2, a3], .inr x :: sk, h) res := i_aload_n k_39_22 rfl
theorem e_39_23 {o : Nat} : X xs L d 39 (23, lo, .inr (some o) :: sk, h) res ↔ hK h o = 7 ∧ X xs L d 39 (26, lo, .inl (hI h o 8) :: sk, h) res := i_getI k_39_23
theorem e_39_26 {o : Nat} {i v : Int32} : X xs L d 39 (26, lo, .inl v :: .inl i :: .inr (some o) :: sk, h) res ↔ (hK h o = 20 ∧ vp_in i (hL h o)) ∧ X xs L d 39 (27, lo, sk, sI h o i.toNatClampNeg (v)) res := i_iastore k_39_26
theorem e_39_27 {x : Int32} {a0 a1 a2 : Option AV} : X xs L d 39 (27, [a0, a1, a2, some (.inl x)], sk, h) res ↔ X xs L d 39 (30, [a0, a1, a2, some (.inl (x + 1))], sk, h) res := i_iinc k_39_27 rfl rfl
theorem e_39_30 : X xs L d 39 (30, lo, sk, h) res ↔ X xs L d 39 (2, lo, sk, h) res := i_goto k_39_30
theorem e_39_33 : X xs L d 39 (33, lo, [], h) res ↔ res = (none, h) := i_vret k_39_33 rfl
theorem k_40_0 : am_cd 40 0 = some (.iload_n 1, 1, [], [])   := rfl
theorem k_40_1 : am_cd 40 1 = some (.aload_n 0, 1, [], [])   := rfl
theorem k_40_2 : am_cd 40 2 = some (.getfield 56, 3, [7, 8, 0], [(0, 113)])   := rfl
theorem k_40_5 : am_cd 40 5 = some (.if_icmp .ge 25, 3, [30], [])   := rfl
theorem k_40_8 : am_cd 40 8 = some (.aload_n 0, 1, [], [])   := rfl
theorem k_40_9 : am_cd 40 9 = some (.getfield 9, 3, [7, 0, 2], [(0, 105)])   := rfl
theorem k_40_12 : am_cd 40 12 = some (.iload_n 1, 1, [], [])   := rfl
theorem k_40_13 : am_cd 40 13 = some (.aload_n 0, 1, [], [])   := rfl
theorem k_40_14 : am_cd 40 14 = some (.getfield 9, 3, [7, 0, 2], [(0, 105)])   := rfl
theorem k_40_17 : am_cd 40 17 = some (.iload_n 1, 1, [], [])   := rfl
theorem k_40_18 : am_cd 40 18 = some (.iaload, 1, [], [])   := rfl
theorem k_40_19 : am_cd 40 19 = some (.bipush 15, 2, [], [(15, 0)])   := rfl
theorem k_40_21 : am_cd 40 21 = some (.iand, 1, [], [])   := rfl
theorem k_40_22 : am_cd 40 22 = some (.aload_n 0, 1, [], [])   := rfl
theorem k_40_23 : am_cd 40 23 = some (.getfield 56, 3, [7, 8, 0], [(0, 113)])   := rfl
theorem k_40_26 : am_cd 40 26 = some (.iconst 4, 1, [], [(4, 0)])   := rfl
theorem k_40_27 : am_cd 40 27 = some (.ishl, 1, [], [])   := rfl
theorem k_40_28 : am_cd 40 28 = some (.ior, 1, [], [])   := rfl
theorem k_40_29 : am_cd 40 29 = some (.iastore, 1, [], [])   := rfl
theorem k_40_30 : am_cd 40 30 = some (.return_, 1, [], [])   := rfl
theorem e_40_0 {x : Int32} {a0 : Option AV} : X xs L d 40 (0, [a0, some (.inl x)], sk, h) res ↔ X xs L d 40 (1, [a0, some (.inl x)], .inl x :: sk, h) res := i_iload_n k_40_0 rfl
theorem e_40_1 {x : Option Nat} {a1 : Option AV} : X xs L d 40 (1, [some (.inr x), a1], sk, h) res ↔ X xs L d 40 (2, [some (.inr x), a1], .inr x :: sk, h) res := i_aload_n k_40_1 rfl
theorem e_40_2 {o : Nat} : X xs L d 40 (2, lo, .inr (some o) :: sk, h) res ↔ hK h o = 7 ∧ X xs L d 40 (5, lo, .inl (hI h o 8) :: sk, h) res := i_getI k_40_2
theorem e_40_5 {x y : Int32} : X xs L d 40 (5, lo, .inl y :: .inl x :: sk, h) res ↔ (if y ≤ x then X xs L d 40 (30, lo, sk, h) res else X xs L d 40 (8, lo, sk, h) res) := i_icmp_ge k_40_5
theorem e_40_8 {x : Option Nat} {a1 : Option AV} : X xs L d 40 (8, [some (.inr x), a1], sk, h) res ↔ X xs L d 40 (9, [some (.inr x), a1], .inr x :: sk, h) res := i_aload_n k_40_8 rfl
theorem e_40_9 {o : Nat} : X xs L d 40 (9, lo, .inr (some o) :: sk, h) res ↔ hK h o = 7 ∧ X xs L d 40 (12, lo, .inr (hR h o 0) :: sk, h) res := i_getR k_40_9
theorem e_40_12 {x : Int32} {a0 : Option AV} : X xs L d 40 (12, [a0, some (.inl x)], sk, h) res ↔ X xs L d 40 (13, [a0, some (.inl x)], .inl x :: sk, h) res := i_iload_n k_40_12 rfl
theorem e_40_13 {x : Option Nat} {a1 : Option AV} : X xs L d 40 (13, [some (.inr x), a1], sk, h) res ↔ X xs L d 40 (14, [some (.inr x), a1], .inr x :: sk, h) res := i_aload_n k_40_13 rfl
theorem e_40_14 {o : Nat} : X xs L d 40 (14, lo, .inr (some o) :: sk, h) res ↔ hK h o = 7 ∧ X xs L d 40 (17, lo, .inr (hR h o 0) :: sk, h) res := i_getR k_40_14
theorem e_40_17 {x : Int32} {a0 : Option AV} : X xs L d 40 (17, [a0, some (.inl x)], sk, h) res ↔ X xs L d 40 (18, [a0, some (.inl x)], .inl x :: sk, h) res := i_iload_n k_40_17 rfl
theorem e_40_18 {o : Nat} {i : Int32} : X xs L d 40 (18, lo, .inl i :: .inr (some o) :: sk, h) res ↔ (hK h o = 20 ∧ vp_in i (hL h o)) ∧ X xs L d 40 (19, lo, .inl (hI h o i.toNatClampNeg) :: sk, h) res := i_iaload k_40_18
theorem e_40_19 : X xs L d 40 (19, lo, sk, h) res ↔ X xs L d 40 (21, lo, .inl 15 :: sk, h) res := i_bipush k_40_19
theorem e_40_21 {x y : Int32} : X xs L d 40 (21, lo, .inl y :: .inl x :: sk, h) res ↔ X xs L d 40 (22, lo, .inl (x &&& y) :: sk, h) res := i_iand k_40_21
theorem e_40_22 {x : Option Nat} {a1 : Option AV} : X xs L d 40 (22, [some (.inr x), a1], sk, h) res ↔ X xs L d 40 (23, [some (.inr x), a1], .inr x :: sk, h) res := i_aload_n k_40_22 rfl
theorem e_40_23 {o : Nat} : X xs L d 40 (23, lo, .inr (some o) :: sk, h) res ↔ hK h o = 7 ∧ X xs L d 40 (26, lo, .inl (hI h o 8) :: sk, h) res := i_getI k_40_23
theorem e_40_26 : X xs L d 40 (26, lo, sk, h) res ↔ X xs L d 40 (27, lo, .inl 4 :: sk, h) res := i_iconst k_40_26
theorem e_40_27 {x y : Int32} : X xs L d 40 (27, lo, .inl y :: .inl x :: sk, h) res ↔ X xs L d 40 (28, lo, .inl (x <<< (y &&& 31)) :: sk, h) res := i_ishl k_40_27
theorem e_40_28 {x y : Int32} : X xs L d 40 (28, lo, .inl y :: .inl x :: sk, h) res ↔ X xs L d 40 (29, lo, .inl (x ||| y) :: sk, h) res := i_ior k_40_28
theorem e_40_29 {o : Nat} {i v : Int32} : X xs L d 40 (29, lo, .inl v :: .inl i :: .inr (some o) :: sk, h) res ↔ (hK h o = 20 ∧ vp_in i (hL h o)) ∧ X xs L d 40 (30, lo, sk, sI h o i.toNatClampNeg (v)) res := i_iastore k_40_29
theorem e_40_30 : X xs L d 40 (30, lo, [], h) res ↔ res = (none, h) := i_vret k_40_30 rfl
theorem k_41_0 : am_cd 41 0 = some (.aload_n 0, 1, [], [])   := rfl
theorem k_41_1 : am_cd 41 1 = some (.iload_n 1, 1, [], [])   := rfl
theorem k_41_2 : am_cd 41 2 = some (.invokevirtual 127, 3, [42, 2, 7], [(0, 409), (0, 411), (0, 11)])   := rfl
theorem k_41_5 : am_cd 41 5 = some (.ifCond .ne 5, 3, [10], [])   := rfl
theorem k_41_8 : am_cd 41 8 = some (.iconst 0, 1, [], [(0, 0)])   := rfl
theorem k_41_9 : am_cd 41 9 = some (.ireturn, 1, [], [])   := rfl
theorem k_41_10 : am_cd 41 10 = some (.iconst 0, 1, [], [(0, 0)])   := rfl
theorem k_41_11 : am_cd 41 11 = some (.istore_n 2, 1, [], [])   := rfl
theorem k_41_12 : am_cd 41 12 = some (.iload_n 2, 1, [], [])   := rfl
theorem k_41_13 : am_cd 41 13 = some (.sipush 150, 3, [], [(150, 0)])   := rfl
theorem k_41_16 : am_cd 41 16 = some (.if_icmp .ge 51, 3, [67], [])   := rfl
theorem k_41_19 : am_cd 41 19 = some (.aload_n 0, 1, [], [])   := rfl
theorem k_41_20 : am_cd 41 20 = some (.invokevirtual 85, 3, [46, 1, 7], [(0, 283), (0, 285), (0, 2)])   := rfl
theorem k_41_23 : am_cd 41 23 = some (.istore_n 3, 1, [], [])   := rfl
theorem k_41_24 : am_cd 41 24 = some (.ldc 130, 2, [1], [])   := rfl
theorem k_41_26 : am_cd 41 26 = some (.iload_n 3, 1, [], [])   := rfl
theorem k_41_27 : am_cd 41 27 = some (.invokevirtual 107, 3, [], [(0, 319)])   := rfl
theorem k_41_30 : am_cd 41 30 = some (.ifCond .ge 5, 3, [35], [])   := rfl
theorem k_41_33 : am_cd 41 33 = some (.iconst 1, 1, [], [(1, 0)])   := rfl
theorem k_41_34 : am_cd 41 34 = some (.ireturn, 1, [], [])   := rfl
theorem k_41_35 : am_cd 41 35 = some (.aload_n 0, 1, [], [])   := rfl
theorem k_41_36 : am_cd 41 36 = some (.dup, 1, [], [])   := rfl
theorem k_41_37 : am_cd 41 37 = some (.getfield 37, 3, [7, 7, 0], [(0, 112)])   := rfl
theorem k_41_40 : am_cd 41 40 = some (.iconst 1, 1, [], [(1, 0)])   := rfl
theorem k_41_41 : am_cd 41 41 = some (.iadd, 1, [], [])   := rfl
theorem k_41_42 : am_cd 41 42 = some (.putfield 37, 3, [7, 7, 0], [(0, 112)])   := rfl
theorem k_41_45 : am_cd 41 45 = some (.aload_n 0, 1, [], [])   := rfl
theorem k_41_46 : am_cd 41 46 = some (.iload_n 1, 1, [], [])   := rfl
theorem k_41_47 : am_cd 41 47 = some (.invokevirtual 127, 3, [42, 2, 7], [(0, 409), (0, 411), (0, 11)])   := rfl
theorem k_41_50 : am_cd 41 50 = some (.ifCond .ne 5, 3, [55], [])   := rfl
theorem k_41_53 : am_cd 41 53 = some (.iconst 0, 1, [], [(0, 0)])   := rfl
theorem k_41_54 : am_cd 41 54 = some (.ireturn, 1, [], [])   := rfl
theorem k_41_55 : am_cd 41 55 = some (.aload_n 0, 1, [], [])   := rfl
theorem k_41_56 : am_cd 41 56 = some (.iconst 3, 1, [], [(3, 0)])   := rfl
theorem k_41_57 : am_cd 41 57 = some (.iload_n 3, 1, [], [])   := rfl
theorem k_41_58 : am_cd 41 58 = some (.invokevirtual 73, 3, [45, 3, 7], [(0, 299), (0, 301), (0, 6)])   := rfl
theorem k_41_61 : am_cd 41 61 = some (.iinc 2 1, 3, [], [(1, 0)])   := rfl
theorem k_41_64 : am_cd 41 64 = some (.goto (-52), 3, [12], [])   := rfl
theorem k_41_67 : am_cd 41 67 = some (.iconst 0, 1, [], [(0, 0)])   := rfl
theorem k_41_68 : am_cd 41 68 = some (.ireturn, 1, [], [])   := rfl
theorem e_41_0 {x : Option Nat} {a1 a2 a3 : Option AV} : X xs L d 41 (0, [some (.inr x), a1, a2, a3], sk, h) res ↔ X xs L d 41 (1, [some (.inr x), a1, a2, a3], .inr x :: sk, h) res := i_aload_n k_41_0 rfl
theorem e_41_1 {x : Int32} {a0 a2 a3 : Option AV} : X xs L d 41 (1, [a0, some (.inl x), a2, a3], sk, h) res ↔ X xs L d 41 (2, [a0, some (.inl x), a2, a3], .inl x :: sk, h) res := i_iload_n k_41_1 rfl
theorem e_41_2 {o : Nat} {v0 : Int32} (hs : sk.length ≤ 8) : X xs L d 41 (2, lo, .inl v0 :: .inr (some o) :: sk, h) res ↔ hK h o = 7 ∧ ∃ q : Res, Rn xs L d 42 [.inr (some o), .inl v0] h q ∧ X xs L d 41 (5, lo, q.1.toList ++ sk, q.2) res := i_callV k_41_2 rfl ⟨Nat.le_add_left 2 sk.length, Nat.le_trans (Nat.add_le_add_right hs 2) (Nat.le_of_eq (Nat.add_comm 8 2))⟩
theorem e_41_5 {x : Int32} : X xs L d 41 (5, lo, .inl x :: sk, h) res ↔ (if x = 0 then X xs L d 41 (8, lo, sk, h) res else X xs L d 41 (10, lo, sk, h) res) := i_if_ne k_41_5
theorem e_41_8 : X xs L d 41 (8, lo, sk, h) res ↔ X xs L d 41 (9, lo, .inl 0 :: sk, h) res := i_iconst k_41_8
theorem e_41_9 {v : Int32} : X xs L d 41 (9, lo, [.inl v], h) res ↔ (v = 0 ∨ v = 1) ∧ res = (some (.inl v), h) := i_zret k_41_9 rfl
theorem e_41_10 : X xs L d 41 (10, lo, sk, h) res ↔ X xs L d 41 (11, lo, .inl 0 :: sk, h) res := i_iconst k_41_10
theorem e_41_11 {x : Int32} {a0 a1 a2 a3 : Option AV} : X xs L d 41 (11, [a0, a1, a2, a3], .inl x :: sk, h) res ↔ X xs L d 41 (12, [a0, a1, some (.inl x), a3], sk, h) res := i_istore_n k_41_11 (Nat.le_of_ble_eq_true rfl) rfl
theorem e_41_12 {x : Int32} {a0 a1 a3 : Option AV} : X xs L d 41 (12, [a0, a1, some (.inl x), a3], sk, h) res ↔ X xs L d 41 (13, [a0, a1, some (.inl x), a3], .inl x :: sk, h) res := i_iload_n k_41_12 rfl
theorem e_41_13 : X xs L d 41 (13, lo, sk, h) res ↔ X xs L d 41 (16, lo, .inl 150 :: sk, h) res := i_sipush k_41_13
theorem e_41_16 {x y : Int32} : X xs L d 41 (16, lo, .inl y :: .inl x :: sk, h) res ↔ (if y ≤ x then X xs L d 41 (67, lo, sk, h) res else X xs L d 41 (19, lo, sk, h) res) := i_icmp_ge k_41_16
theorem e_41_19 {x : Option Nat} {a1 a2 a3 : Option AV} : X xs L d 41 (19, [some (.inr x), a1, a2, a3], sk, h) res ↔ X xs L d 41 (20, [some (.inr x), a1, a2, a3], .inr x :: sk, h) res := i_aload_n k_41_19 rfl
theorem e_41_20 {o : Nat} (hs : sk.length ≤ 8) : X xs L d 41 (20, lo, .inr (some o) :: sk, h) res ↔ hK h o = 7 ∧ ∃ q : Res, Rn xs L d 46 [.inr (some o)] h q ∧ X xs L d 41 (23, lo, q.1.toList ++ sk, q.2) res := i_callV k_41_20 rfl ⟨Nat.le_add_left 1 sk.length, Nat.le_trans (Nat.add_le_add_right hs 1) (Nat.le_of_eq (Nat.add_comm 8 1))⟩
theorem e_41_23 {x : Int32} {a0 a1 a2 a3 : Option AV} : X xs L d 41 (23, [a0, a1, a2, a3], .inl x :: sk, h) res ↔ X xs L d 41 (24, [a0, a1, a2, some (.inl x)], sk, h) res := i_istore_n k_41_23 (Nat.le_of_ble_eq_true rfl) rfl
theorem e_41_24 : X xs L d 41 (24, lo, sk, h) res ↔ (1 = 1 ∨ 1 = 2) ∧ X xs L d 41 (26, lo, .inr (some 1) :: sk, h) res := i_lds k_41_24
theorem e_41_26 {x : Int32} {a0 a1 a2 : Option AV} : X xs L d 41 (26, [a0, a1, a2, some (.inl x)], sk, h) res ↔ X xs L d 41 (27, [a0, a1, a2, some (.inl x)], .inl x :: sk, h) res := i_iload_n k_41_26 rfl
theorem e_41_27 {o : Nat} {x : Int32} : X xs L d 41 (27, lo, .inl x :: .inr (some o) :: sk, h) res ↔ ((o = 1 ∨ o = 2) ∧ sk.length ≤ 8) ∧ X xs L d 41 (30, lo, .inl (s_idx x (s_txt o) 0) :: sk, h) res := i_idx k_41_27
theorem e_41_30 {x : Int32} : X xs L d 41 (30, lo, .inl x :: sk, h) res ↔ (if 0 ≤ x then X xs L d 41 (35, lo, sk, h) res else X xs L d 41 (33, lo, sk, h) res) := i_if_ge k_41_30
theorem e_41_33 : X xs L d 41 (33, lo, sk, h) res ↔ X xs L d 41 (34, lo, .inl 1 :: sk, h) res := i_iconst k_41_33
theorem e_41_34 {v : Int32} : X xs L d 41 (34, lo, [.inl v], h) res ↔ (v = 0 ∨ v = 1) ∧ res = (some (.inl v), h) := i_zret k_41_34 rfl
theorem e_41_35 {x : Option Nat} {a1 a2 a3 : Option AV} : X xs L d 41 (35, [some (.inr x), a1, a2, a3], sk, h) res ↔ X xs L d 41 (36, [some (.inr x), a1, a2, a3], .inr x :: sk, h) res := i_aload_n k_41_35 rfl
theorem e_41_36 {v : AV} : X xs L d 41 (36, lo, v :: sk, h) res ↔ X xs L d 41 (37, lo, v :: v :: sk, h) res := i_dup k_41_36
theorem e_41_37 {o : Nat} : X xs L d 41 (37, lo, .inr (some o) :: sk, h) res ↔ hK h o = 7 ∧ X xs L d 41 (40, lo, .inl (hI h o 7) :: sk, h) res := i_getI k_41_37
theorem e_41_40 : X xs L d 41 (40, lo, sk, h) res ↔ X xs L d 41 (41, lo, .inl 1 :: sk, h) res := i_iconst k_41_40
theorem e_41_41 {x y : Int32} : X xs L d 41 (41, lo, .inl y :: .inl x :: sk, h) res ↔ X xs L d 41 (42, lo, .inl (x + y) :: sk, h) res := i_iadd k_41_41
theorem e_41_42 {o : Nat} {v : Int32} : X xs L d 41 (42, lo, .inl v :: .inr (some o) :: sk, h) res ↔ hK h o = 7 ∧ X xs L d 41 (45, lo, sk, sI h o 7 v) res := i_putI k_41_42
theorem e_41_45 {x : Option Nat} {a1 a2 a3 : Option AV} : X xs L d 41 (45, [some (.inr x), a1, a2, a3], sk, h) res ↔ X xs L d 41 (46, [some (.inr x), a1, a2, a3], .inr x :: sk, h) res := i_aload_n k_41_45 rfl
theorem e_41_46 {x : Int32} {a0 a2 a3 : Option AV} : X xs L d 41 (46, [a0, some (.inl x), a2, a3], sk, h) res ↔ X xs L d 41 (47, [a0, some (.inl x), a2, a3], .inl x :: sk, h) res := i_iload_n k_41_46 rfl
theorem e_41_47 {o : Nat} {v0 : Int32} (hs : sk.length ≤ 8) : X xs L d 41 (47, lo, .inl v0 :: .inr (some o) :: sk, h) res ↔ hK h o = 7 ∧ ∃ q : Res, Rn xs L d 42 [.inr (some o), .inl v0] h q ∧ X xs L d 41 (50, lo, q.1.toList ++ sk, q.2) res := i_callV k_41_47 rfl ⟨Nat.le_add_left 2 sk.length, Nat.le_trans (Nat.add_le_add_right hs 2) (Nat.le_of_eq (Nat.add_comm 8 2))⟩
theorem e_41_50 {x : Int32} : X xs L d 41 (50, lo, .inl x :: sk, h) res ↔ (if x = 0 then X xs L d 41 (53, lo, sk, h) res else X xs L d 41 (55, lo, sk, h) res) := i_if_ne k_41_50
theorem e_41_53 : X xs L d 41 (53, lo, sk, h) res ↔ X xs L d 41 (54, lo, .inl 0 :: sk, h) res := i_iconst k_41_53
theorem e_41_54 {v : Int32} : X xs L d 41 (54, lo, [.inl v], h) res ↔ (v = 0 ∨ v = 1) ∧ res = (some (.inl v), h) := i_zret k_41_54 rfl
theorem e_41_55 {x : Option Nat} {a1 a2 a3 : Option AV} : X xs L d 41 (55, [some (.inr x), a1, a2, a3], sk, h) res ↔ X xs L d 41 (56, [some (.inr x), a1, a2, a3], .inr x :: sk, h) res := i_aload_n k_41_55 rfl
theorem e_41_56 : X xs L d 41 (56, lo, sk, h) res ↔ X xs L d 41 (57, lo, .inl 3 :: sk, h) res := i_iconst k_41_56
theorem e_41_57 {x : Int32} {a0 a1 a2 : Option AV} : X xs L d 41 (57, [a0, a1, a2, some (.inl x)], sk, h) res ↔ X xs L d 41 (58, [a0, a1, a2, some (.inl x)], .inl x :: sk, h) res := i_iload_n k_41_57 rfl
theorem e_41_58 {o : Nat} {v0 : Int32} {v1 : Int32} (hs : sk.length ≤ 8) : X xs L d 41 (58, lo, .inl v1 :: .inl v0 :: .inr (some o) :: sk, h) res ↔ hK h o = 7 ∧ ∃ q : Res, Rn xs L d 45 [.inr (some o), .inl v0, .inl v1] h q ∧ X xs L d 41 (61, lo, q.1.toList ++ sk, q.2) res := i_callV k_41_58 rfl ⟨Nat.le_add_left 3 sk.length, Nat.le_trans (Nat.add_le_add_right hs 3) (Nat.le_of_eq (Nat.add_comm 8 3))⟩
theorem e_41_61 {x : Int32} {a0 a1 a3 : Option AV} : X xs L d 41 (61, [a0, a1, some (.inl x), a3], sk, h) res ↔ X xs L d 41 (64, [a0, a1, some (.inl (x + 1)), a3], sk, h) res := i_iinc k_41_61 rfl rfl
theorem e_41_64 : X xs L d 41 (64, lo, sk, h) res ↔ X xs L d 41 (12, lo, sk, h) res := i_goto k_41_64
theorem e_41_67 : X xs L d 41 (67, lo, sk, h) res ↔ X xs L d 41 (68, lo, .inl 0 :: sk, h) res := i_iconst k_41_67
theorem e_41_68 {v : Int32} : X xs L d 41 (68, lo, [.inl v], h) res ↔ (v = 0 ∨ v = 1) ∧ res = (some (.inl v), h) := i_zret k_41_68 rfl
theorem k_42_0 : am_cd 42 0 = some (.aload_n 0, 1, [], [])   := rfl
theorem k_42_1 : am_cd 42 1 = some (.invokevirtual 85, 3, [46, 1, 7], [(0, 283), (0, 285), (0, 2)])   := rfl
theorem k_42_4 : am_cd 42 4 = some (.istore_n 2, 1, [], [])   := rfl
theorem k_42_5 : am_cd 42 5 = some (.iload_n 2, 1, [], [])   := rfl
theorem k_42_6 : am_cd 42 6 = some (.invokestatic 132, 3, [48, 1], [(0, 413), (0, 414)])   := rfl
theorem k_42_9 : am_cd 42 9 = some (.ifCond .eq 9, 3, [18], [])   := rfl
theorem k_42_12 : am_cd 42 12 = some (.aload_n 0, 1, [], [])   := rfl
theorem k_42_13 : am_cd 42 13 = some (.invokevirtual 135, 3, [43, 1, 7], [(0, 416), (0, 418), (0, 12)])   := rfl
theorem k_42_16 : am_cd 42 16 = some (.iconst 1, 1, [], [(1, 0)])   := rfl
theorem k_42_17 : am_cd 42 17 = some (.ireturn, 1, [], [])   := rfl
theorem k_42_18 : am_cd 42 18 = some (.aload_n 0, 1, [], [])   := rfl
theorem k_42_19 : am_cd 42 19 = some (.dup, 1, [], [])   := rfl
theorem k_42_20 : am_cd 42 20 = some (.getfield 37, 3, [7, 7, 0], [(0, 112)])   := rfl
theorem k_42_23 : am_cd 42 23 = some (.iconst 1, 1, [], [(1, 0)])   := rfl
theorem k_42_24 : am_cd 42 24 = some (.iadd, 1, [], [])   := rfl
theorem k_42_25 : am_cd 42 25 = some (.putfield 37, 3, [7, 7, 0], [(0, 112)])   := rfl
theorem k_42_28 : am_cd 42 28 = some (.iload_n 2, 1, [], [])   := rfl
theorem k_42_29 : am_cd 42 29 = some (.invokestatic 102, 3, [49, 1], [(0, 315), (0, 316)])   := rfl
theorem k_42_32 : am_cd 42 32 = some (.ifCond .eq 14, 3, [46], [])   := rfl
theorem k_42_35 : am_cd 42 35 = some (.aload_n 0, 1, [], [])   := rfl
theorem k_42_36 : am_cd 42 36 = some (.iconst 2, 1, [], [(2, 0)])   := rfl
theorem k_42_37 : am_cd 42 37 = some (.iload_n 2, 1, [], [])   := rfl
theorem k_42_38 : am_cd 42 38 = some (.bipush 97, 2, [], [(97, 0)])   := rfl
theorem k_42_40 : am_cd 42 40 = some (.isub, 1, [], [])   := rfl
theorem k_42_41 : am_cd 42 41 = some (.invokevirtual 73, 3, [45, 3, 7], [(0, 299), (0, 301), (0, 6)])   := rfl
theorem k_42_44 : am_cd 42 44 = some (.iconst 1, 1, [], [(1, 0)])   := rfl
theorem k_42_45 : am_cd 42 45 = some (.ireturn, 1, [], [])   := rfl
theorem k_42_46 : am_cd 42 46 = some (.iload_n 2, 1, [], [])   := rfl
theorem k_42_47 : am_cd 42 47 = some (.bipush 65, 2, [], [(65, 0)])   := rfl
theorem k_42_49 : am_cd 42 49 = some (.if_icmp .lt 43, 3, [92], [])   := rfl
theorem k_42_52 : am_cd 42 52 = some (.iload_n 2, 1, [], [])   := rfl
theorem k_42_53 : am_cd 42 53 = some (.bipush 69, 2, [], [(69, 0)])   := rfl
theorem k_42_55 : am_cd 42 55 = some (.if_icmp .ge 37, 3, [92], [])   := rfl
theorem k_42_58 : am_cd 42 58 = some (.iload_n 1, 1, [], [])   := rfl
theorem k_42_59 : am_cd 42 59 = some (.iconst 5, 1, [], [(5, 0)])   := rfl
theorem k_42_60 : am_cd 42 60 = some (.if_icmp .ge 30, 3, [90], [])   := rfl
theorem k_42_63 : am_cd 42 63 = some (.aload_n 0, 1, [], [])   := rfl
theorem k_42_64 : am_cd 42 64 = some (.bipush 40, 2, [], [(40, 0)])   := rfl
theorem k_42_66 : am_cd 42 66 = some (.invokevirtual 92, 3, [47, 2, 7], [(0, 291), (0, 293), (0, 4)])   := rfl
theorem k_42_69 : am_cd 42 69 = some (.ifCond .eq 21, 3, [90], [])   := rfl
theorem k_42_72 : am_cd 42 72 = some (.aload_n 0, 1, [], [])   := rfl
theorem k_42_73 : am_cd 42 73 = some (.iload_n 2, 1, [], [])   := rfl
theorem k_42_74 : am_cd 42 74 = some (.bipush 65, 2, [], [(65, 0)])   := rfl
theorem k_42_76 : am_cd 42 76 = some (.isub, 1, [], [])   := rfl
theorem k_42_77 : am_cd 42 77 = some (.iload_n 1, 1, [], [])   := rfl
theorem k_42_78 : am_cd 42 78 = some (.iconst 1, 1, [], [(1, 0)])   := rfl
theorem k_42_79 : am_cd 42 79 = some (.iadd, 1, [], [])   := rfl
theorem k_42_80 : am_cd 42 80 = some (.invokevirtual 138, 3, [44, 3, 7], [(0, 420), (0, 422), (0, 13)])   := rfl
theorem k_42_83 : am_cd 42 83 = some (.ifCond .eq 7, 3, [90], [])   := rfl
theorem k_42_86 : am_cd 42 86 = some (.iconst 1, 1, [], [(1, 0)])   := rfl
theorem k_42_87 : am_cd 42 87 = some (.goto 4, 3, [91], [])   := rfl
theorem k_42_90 : am_cd 42 90 = some (.iconst 0, 1, [], [(0, 0)])   := rfl
theorem k_42_91 : am_cd 42 91 = some (.ireturn, 1, [], [])   := rfl
theorem k_42_92 : am_cd 42 92 = some (.iload_n 2, 1, [], [])   := rfl
theorem k_42_93 : am_cd 42 93 = some (.bipush 40, 2, [], [(40, 0)])   := rfl
theorem k_42_95 : am_cd 42 95 = some (.if_icmp .ne 31, 3, [126], [])   := rfl
theorem k_42_98 : am_cd 42 98 = some (.iload_n 1, 1, [], [])   := rfl
theorem k_42_99 : am_cd 42 99 = some (.iconst 5, 1, [], [(5, 0)])   := rfl
theorem k_42_100 : am_cd 42 100 = some (.if_icmp .ge 26, 3, [126], [])   := rfl
theorem k_42_103 : am_cd 42 103 = some (.aload_n 0, 1, [], [])   := rfl
theorem k_42_104 : am_cd 42 104 = some (.iload_n 1, 1, [], [])   := rfl
theorem k_42_105 : am_cd 42 105 = some (.iconst 1, 1, [], [(1, 0)])   := rfl
theorem k_42_106 : am_cd 42 106 = some (.iadd, 1, [], [])   := rfl
theorem k_42_107 : am_cd 42 107 = some (.invokevirtual 68, 3, [41, 2, 7], [(0, 405), (0, 407), (0, 10)])   := rfl
theorem k_42_110 : am_cd 42 110 = some (.ifCond .eq 16, 3, [126], [])   := rfl
theorem k_42_113 : am_cd 42 113 = some (.aload_n 0, 1, [], [])   := rfl
theorem k_42_114 : am_cd 42 114 = some (.bipush 41, 2, [], [(41, 0)])   := rfl
theorem k_42_116 : am_cd 42 116 = some (.invokevirtual 92, 3, [47, 2, 7], [(0, 291), (0, 293), (0, 4)])   := rfl
theorem k_42_119 : am_cd 42 119 = some (.ifCond .eq 7, 3, [126], [])   := rfl
theorem k_42_122 : am_cd 42 122 = some (.iconst 1, 1, [], [(1, 0)])   := rfl
theorem k_42_123 : am_cd 42 123 = some (.goto 4, 3, [127], [])   := rfl
theorem k_42_126 : am_cd 42 126 = some (.iconst 0, 1, [], [(0, 0)])   := rfl
theorem k_42_127 : am_cd 42 127 = some (.ireturn, 1, [], [])   := rfl
theorem e_42_0 {x : Option Nat} {a1 a2 : Option AV} : X xs L d 42 (0, [some (.inr x), a1, a2], sk, h) res ↔ X xs L d 42 (1, [some (.inr x), a1, a2], .inr x :: sk, h) res := i_aload_n k_42_0 rfl
theorem e_42_1 {o : Nat} (hs : sk.length ≤ 8) : X xs L d 42 (1, lo, .inr (some o) :: sk, h) res ↔ hK h o = 7 ∧ ∃ q : Res, Rn xs L d 46 [.inr (some o)] h q ∧ X xs L d 42 (4, lo, q.1.toList ++ sk, q.2) res := i_callV k_42_1 rfl ⟨Nat.le_add_left 1 sk.length, Nat.le_trans (Nat.add_le_add_right hs 1) (Nat.le_of_eq (Nat.add_comm 8 1))⟩
theorem e_42_4 {x : Int32} {a0 a1 a2 : Option AV} : X xs L d 42 (4, [a0, a1, a2], .inl x :: sk, h) res ↔ X xs L d 42 (5, [a0, a1, some (.inl x)], sk, h) res := i_istore_n k_42_4 (Nat.le_of_ble_eq_true rfl) rfl
theorem e_42_5 {x : Int32} {a0 a1 : Option AV} : X xs L d 42 (5, [a0, a1, some (.inl x)], sk, h) res ↔ X xs L d 42 (6, [a0, a1, some (.inl x)], .inl x :: sk, h) res := i_iload_n k_42_5 rfl
theorem e_42_6 {v0 : Int32} (hs : sk.length ≤ 8) : X xs L d 42 (6, lo, .inl v0 :: sk, h) res ↔ ∃ q : Res, Rn xs L d 48 [.inl v0] h q ∧ X xs L d 42 (9, lo, q.1.toList ++ sk, q.2) res := i_callS k_42_6 ⟨Nat.le_add_left 1 sk.length, Nat.le_trans (Nat.add_le_add_right hs 1) (Nat.le_of_eq (Nat.add_comm 8 1))⟩
theorem e_42_9 {x : Int32} : X xs L d 42 (9, lo, .inl x :: sk, h) res ↔ (if x = 0 then X xs L d 42 (18, lo, sk, h) res else X xs L d 42 (12, lo, sk, h) res) := i_if_eq k_42_9
theorem e_42_12 {x : Option Nat} {a1 a2 : Option AV} : X xs L d 42 (12, [some (.inr x), a1, a2], sk, h) res ↔ X xs L d 42 (13, [some (.inr x), a1, a2], .inr x :: sk, h) res := i_aload_n k_42_12 rfl
theorem e_42_13 {o : Nat} (hs : sk.length ≤ 8) : X xs L d 42 (13, lo, .inr (some o) :: sk, h) res ↔ hK h o = 7 ∧ ∃ q : Res, Rn xs L d 43 [.inr (some o)] h q ∧ X xs L d 42 (16, lo, q.1.toList ++ sk, q.2) res := i_callV k_42_13 rfl ⟨Nat.le_add_left 1 sk.length, Nat.le_trans (Nat.add_le_add_right hs 1) (Nat.le_of_eq (Nat.add_comm 8 1))⟩
theorem e_42_16 : X xs L d 42 (16, lo, sk, h) res ↔ X xs L d 42 (17, lo, .inl 1 :: sk, h) res := i_iconst k_42_16
theorem e_42_17 {v : Int32} : X xs L d 42 (17, lo, [.inl v], h) res ↔ (v = 0 ∨ v = 1) ∧ res = (some (.inl v), h) := i_zret k_42_17 rfl
theorem e_42_18 {x : Option Nat} {a1 a2 : Option AV} : X xs L d 42 (18, [some (.inr x), a1, a2], sk, h) res ↔ X xs L d 42 (19, [some (.inr x), a1, a2], .inr x :: sk, h) res := i_aload_n k_42_18 rfl
theorem e_42_19 {v : AV} : X xs L d 42 (19, lo, v :: sk, h) res ↔ X xs L d 42 (20, lo, v :: v :: sk, h) res := i_dup k_42_19
theorem e_42_20 {o : Nat} : X xs L d 42 (20, lo, .inr (some o) :: sk, h) res ↔ hK h o = 7 ∧ X xs L d 42 (23, lo, .inl (hI h o 7) :: sk, h) res := i_getI k_42_20
theorem e_42_23 : X xs L d 42 (23, lo, sk, h) res ↔ X xs L d 42 (24, lo, .inl 1 :: sk, h) res := i_iconst k_42_23
theorem e_42_24 {x y : Int32} : X xs L d 42 (24, lo, .inl y :: .inl x :: sk, h) res ↔ X xs L d 42 (25, lo, .inl (x + y) :: sk, h) res := i_iadd k_42_24
theorem e_42_25 {o : Nat} {v : Int32} : X xs L d 42 (25, lo, .inl v :: .inr (some o) :: sk, h) res ↔ hK h o = 7 ∧ X xs L d 42 (28, lo, sk, sI h o 7 v) res := i_putI k_42_25
theorem e_42_28 {x : Int32} {a0 a1 : Option AV} : X xs L d 42 (28, [a0, a1, some (.inl x)], sk, h) res ↔ X xs L d 42 (29, [a0, a1, some (.inl x)], .inl x :: sk, h) res := i_iload_n k_42_28 rfl
theorem e_42_29 {v0 : Int32} (hs : sk.length ≤ 8) : X xs L d 42 (29, lo, .inl v0 :: sk, h) res ↔ ∃ q : Res, Rn xs L d 49 [.inl v0] h q ∧ X xs L d 42 (32, lo, q.1.toList ++ sk, q.2) res := i_callS k_42_29 ⟨Nat.le_add_left 1 sk.length, Nat.le_trans (Nat.add_le_add_right hs 1) (Nat.le_of_eq (Nat.add_comm 8 1))⟩
theorem e_42_32 {x : Int32} : X xs L d 42 (32, lo, .inl x :: sk, h) res ↔ (if x = 0 then X xs L d 42 (46, lo, sk, h) res else X xs L d 42 (35, lo, sk, h) res) := i_if_eq k_42_32
theorem e_42_35 {x : Option Nat} {a1 a2 : Option AV} : X xs L d 42 (35, [some (.inr x), a1, a2], sk, h) res ↔ X xs L d 42 (36, [some (.inr x), a1, a2], .inr x :: sk, h) res := i_aload_n k_42_35 rfl
theorem e_42_36 : X xs L d 42 (36, lo, sk, h) res ↔ X xs L d 42 (37, lo, .inl 2 :: sk, h) res := i_iconst k_42_36
theorem e_42_37 {x : Int32} {a0 a1 : Option AV} : X xs L d 42 (37, [a0, a1, some (.inl x)], sk, h) res ↔ X xs L d 42 (38, [a0, a1, some (.inl x)], .inl x :: sk, h) res := i_iload_n k_42_37 rfl
theorem e_42_38 : X xs L d 42 (38, lo, sk, h) res ↔ X xs L d 42 (40, lo, .inl 97 :: sk, h) res := i_bipush k_42_38
theorem e_42_40 {x y : Int32} : X xs L d 42 (40, lo, .inl y :: .inl x :: sk, h) res ↔ X xs L d 42 (41, lo, .inl (x - y) :: sk, h) res := i_isub k_42_40
theorem e_42_41 {o : Nat} {v0 : Int32} {v1 : Int32} (hs : sk.length ≤ 8) : X xs L d 42 (41, lo, .inl v1 :: .inl v0 :: .inr (some o) :: sk, h) res ↔ hK h o = 7 ∧ ∃ q : Res, Rn xs L d 45 [.inr (some o), .inl v0, .inl v1] h q ∧ X xs L d 42 (44, lo, q.1.toList ++ sk, q.2) res := i_callV k_42_41 rfl ⟨Nat.le_add_left 3 sk.length, Nat.le_trans (Nat.add_le_add_right hs 3) (Nat.le_of_eq (Nat.add_comm 8 3))⟩
theorem e_42_44 : X xs L d 42 (44, lo, sk, h) res ↔ X xs L d 42 (45, lo, .inl 1 :: sk, h) res := i_iconst k_42_44
theorem e_42_45 {v : Int32} : X xs L d 42 (45, lo, [.inl v], h) res ↔ (v = 0 ∨ v = 1) ∧ res = (some (.inl v), h) := i_zret k_42_45 rfl
theorem e_42_46 {x : Int32} {a0 a1 : Option AV} : X xs L d 42 (46, [a0, a1, some (.inl x)], sk, h) res ↔ X xs L d 42 (47, [a0, a1, some (.inl x)], .inl x :: sk, h) res := i_iload_n k_42_46 rfl
theorem e_42_47 : X xs L d 42 (47, lo, sk, h) res ↔ X xs L d 42 (49, lo, .inl 65 :: sk, h) res := i_bipush k_42_47
theorem e_42_49 {x y : Int32} : X xs L d 42 (49, lo, .inl y :: .inl x :: sk, h) res ↔ (if x < y then X xs L d 42 (92, lo, sk, h) res else X xs L d 42 (52, lo, sk, h) res) := i_icmp_lt k_42_49
theorem e_42_52 {x : Int32} {a0 a1 : Option AV} : X xs L d 42 (52, [a0, a1, some (.inl x)], sk, h) res ↔ X xs L d 42 (53, [a0, a1, some (.inl x)], .inl x :: sk, h) res := i_iload_n k_42_52 rfl
theorem e_42_53 : X xs L d 42 (53, lo, sk, h) res ↔ X xs L d 42 (55, lo, .inl 69 :: sk, h) res := i_bipush k_42_53
theorem e_42_55 {x y : Int32} : X xs L d 42 (55, lo, .inl y :: .inl x :: sk, h) res ↔ (if y ≤ x then X xs L d 42 (92, lo, sk, h) res else X xs L d 42 (58, lo, sk, h) res) := i_icmp_ge k_42_55
theorem e_42_58 {x : Int32} {a0 a2 : Option AV} : X xs L d 42 (58, [a0, some (.inl x), a2], sk, h) res ↔ X xs L d 42 (59, [a0, some (.inl x), a2], .inl x :: sk, h) res := i_iload_n k_42_58 rfl
theorem e_42_59 : X xs L d 42 (59, lo, sk, h) res ↔ X xs L d 42 (60, lo, .inl 5 :: sk, h) res := i_iconst k_42_59
theorem e_42_60 {x y : Int32} : X xs L d 42 (60, lo, .inl y :: .inl x :: sk, h) res ↔ (if y ≤ x then X xs L d 42 (90, lo, sk, h) res else X xs L d 42 (63, lo, sk, h) res) := i_icmp_ge k_42_60
theorem e_42_63 {x : Option Nat} {a1 a2 : Option AV} : X xs L d 42 (63, [some (.inr x), a1, a2], sk, h) res ↔ X xs L d 42 (64, [some (.inr x), a1, a2], .inr x :: sk, h) res := i_aload_n k_42_63 rfl
theorem e_42_64 : X xs L d 42 (64, lo, sk, h) res ↔ X xs L d 42 (66, lo, .inl 40 :: sk, h) res := i_bipush k_42_64
theorem e_42_66 {o : Nat} {v0 : Int32} (hs : sk.length ≤ 8) : X xs L d 42 (66, lo, .inl v0 :: .inr (some o) :: sk, h) res ↔ hK h o = 7 ∧ ∃ q : Res, Rn xs L d 47 [.inr (some o), .inl v0] h q ∧ X xs L d 42 (69, lo, q.1.toList ++ sk, q.2) res := i_callV k_42_66 rfl ⟨Nat.le_add_left 2 sk.length, Nat.le_trans (Nat.add_le_add_right hs 2) (Nat.le_of_eq (Nat.add_comm 8 2))⟩
theorem e_42_69 {x : Int32} : X xs L d 42 (69, lo, .inl x :: sk, h) res ↔ (if x = 0 then X xs L d 42 (90, lo, sk, h) res else X xs L d 42 (72, lo, sk, h) res) := i_if_eq k_42_69
theorem e_42_72 {x : Option Nat} {a1 a2 : Option AV} : X xs L d 42 (72, [some (.inr x), a1, a2], sk, h) res ↔ X xs L d 42 (73, [some (.inr x), a1, a2], .inr x :: sk, h) res := i_aload_n k_42_72 rfl
theorem e_42_73 {x : Int32} {a0 a1 : Option AV} : X xs L d 42 (73, [a0, a1, some (.inl x)], sk, h) res ↔ X xs L d 42 (74, [a0, a1, some (.inl x)], .inl x :: sk, h) res := i_iload_n k_42_73 rfl
theorem e_42_74 : X xs L d 42 (74, lo, sk, h) res ↔ X xs L d 42 (76, lo, .inl 65 :: sk, h) res := i_bipush k_42_74
theorem e_42_76 {x y : Int32} : X xs L d 42 (76, lo, .inl y :: .inl x :: sk, h) res ↔ X xs L d 42 (77, lo, .inl (x - y) :: sk, h) res := i_isub k_42_76
theorem e_42_77 {x : Int32} {a0 a2 : Option AV} : X xs L d 42 (77, [a0, some (.inl x), a2], sk, h) res ↔ X xs L d 42 (78, [a0, some (.inl x), a2], .inl x :: sk, h) res := i_iload_n k_42_77 rfl
theorem e_42_78 : X xs L d 42 (78, lo, sk, h) res ↔ X xs L d 42 (79, lo, .inl 1 :: sk, h) res := i_iconst k_42_78
theorem e_42_79 {x y : Int32} : X xs L d 42 (79, lo, .inl y :: .inl x :: sk, h) res ↔ X xs L d 42 (80, lo, .inl (x + y) :: sk, h) res := i_iadd k_42_79
theorem e_42_80 {o : Nat} {v0 : Int32} {v1 : Int32} (hs : sk.length ≤ 8) : X xs L d 42 (80, lo, .inl v1 :: .inl v0 :: .inr (some o) :: sk, h) res ↔ hK h o = 7 ∧ ∃ q : Res, Rn xs L d 44 [.inr (some o), .inl v0, .inl v1] h q ∧ X xs L d 42 (83, lo, q.1.toList ++ sk, q.2) res := i_callV k_42_80 rfl ⟨Nat.le_add_left 3 sk.length, Nat.le_trans (Nat.add_le_add_right hs 3) (Nat.le_of_eq (Nat.add_comm 8 3))⟩
theorem e_42_83 {x : Int32} : X xs L d 42 (83, lo, .inl x :: sk, h) res ↔ (if x = 0 then X xs L d 42 (90, lo, sk, h) res else X xs L d 42 (86, lo, sk, h) res) := i_if_eq k_42_83
theorem e_42_86 : X xs L d 42 (86, lo, sk, h) res ↔ X xs L d 42 (87, lo, .inl 1 :: sk, h) res := i_iconst k_42_86
theorem e_42_87 : X xs L d 42 (87, lo, sk, h) res ↔ X xs L d 42 (91, lo, sk, h) res := i_goto k_42_87
theorem e_42_90 : X xs L d 42 (90, lo, sk, h) res ↔ X xs L d 42 (91, lo, .inl 0 :: sk, h) res := i_iconst k_42_90
theorem e_42_91 {v : Int32} : X xs L d 42 (91, lo, [.inl v], h) res ↔ (v = 0 ∨ v = 1) ∧ res = (some (.inl v), h) := i_zret k_42_91 rfl
theorem e_42_92 {x : Int32} {a0 a1 : Option AV} : X xs L d 42 (92, [a0, a1, some (.inl x)], sk, h) res ↔ X xs L d 42 (93, [a0, a1, some (.inl x)], .inl x :: sk, h) res := i_iload_n k_42_92 rfl
theorem e_42_93 : X xs L d 42 (93, lo, sk, h) res ↔ X xs L d 42 (95, lo, .inl 40 :: sk, h) res := i_bipush k_42_93
theorem e_42_95 {x y : Int32} : X xs L d 42 (95, lo, .inl y :: .inl x :: sk, h) res ↔ (if x = y then X xs L d 42 (98, lo, sk, h) res else X xs L d 42 (126, lo, sk, h) res) := i_icmp_ne k_42_95
theorem e_42_98 {x : Int32} {a0 a2 : Option AV} : X xs L d 42 (98, [a0, some (.inl x), a2], sk, h) res ↔ X xs L d 42 (99, [a0, some (.inl x), a2], .inl x :: sk, h) res := i_iload_n k_42_98 rfl
theorem e_42_99 : X xs L d 42 (99, lo, sk, h) res ↔ X xs L d 42 (100, lo, .inl 5 :: sk, h) res := i_iconst k_42_99
theorem e_42_100 {x y : Int32} : X xs L d 42 (100, lo, .inl y :: .inl x :: sk, h) res ↔ (if y ≤ x then X xs L d 42 (126, lo, sk, h) res else X xs L d 42 (103, lo, sk, h) res) := i_icmp_ge k_42_100
theorem e_42_103 {x : Option Nat} {a1 a2 : Option AV} : X xs L d 42 (103, [some (.inr x), a1, a2], sk, h) res ↔ X xs L d 42 (104, [some (.inr x), a1, a2], .inr x :: sk, h) res := i_aload_n k_42_103 rfl
theorem e_42_104 {x : Int32} {a0 a2 : Option AV} : X xs L d 42 (104, [a0, some (.inl x), a2], sk, h) res ↔ X xs L d 42 (105, [a0, some (.inl x), a2], .inl x :: sk, h) res := i_iload_n k_42_104 rfl
theorem e_42_105 : X xs L d 42 (105, lo, sk, h) res ↔ X xs L d 42 (106, lo, .inl 1 :: sk, h) res := i_iconst k_42_105
theorem e_42_106 {x y : Int32} : X xs L d 42 (106, lo, .inl y :: .inl x :: sk, h) res ↔ X xs L d 42 (107, lo, .inl (x + y) :: sk, h) res := i_iadd k_42_106
theorem e_42_107 {o : Nat} {v0 : Int32} (hs : sk.length ≤ 8) : X xs L d 42 (107, lo, .inl v0 :: .inr (some o) :: sk, h) res ↔ hK h o = 7 ∧ ∃ q : Res, Rn xs L d 41 [.inr (some o), .inl v0] h q ∧ X xs L d 42 (110, lo, q.1.toList ++ sk, q.2) res := i_callV k_42_107 rfl ⟨Nat.le_add_left 2 sk.length, Nat.le_trans (Nat.add_le_add_right hs 2) (Nat.le_of_eq (Nat.add_comm 8 2))⟩
theorem e_42_110 {x : Int32} : X xs L d 42 (110, lo, .inl x :: sk, h) res ↔ (if x = 0 then X xs L d 42 (126, lo, sk, h) res else X xs L d 42 (113, lo, sk, h) res) := i_if_eq k_42_110
theorem e_42_113 {x : Option Nat} {a1 a2 : Option AV} : X xs L d 42 (113, [some (.inr x), a1, a2], sk, h) res ↔ X xs L d 42 (114, [some (.inr x), a1, a2], .inr x :: sk, h) res := i_aload_n k_42_113 rfl
theorem e_42_114 : X xs L d 42 (114, lo, sk, h) res ↔ X xs L d 42 (116, lo, .inl 41 :: sk, h) res := i_bipush k_42_114
theorem e_42_116 {o : Nat} {v0 : Int32} (hs : sk.length ≤ 8) : X xs L d 42 (116, lo, .inl v0 :: .inr (some o) :: sk, h) res ↔ hK h o = 7 ∧ ∃ q : Res, Rn xs L d 47 [.inr (some o), .inl v0] h q ∧ X xs L d 42 (119, lo, q.1.toList ++ sk, q.2) res := i_callV k_42_116 rfl ⟨Nat.le_add_left 2 sk.length, Nat.le_trans (Nat.add_le_add_right hs 2) (Nat.le_of_eq (Nat.add_comm 8 2))⟩
theorem e_42_119 {x : Int32} : X xs L d 42 (119, lo, .inl x :: sk, h) res ↔ (if x = 0 then X xs L d 42 (126, lo, sk, h) res else X xs L d 42 (122, lo, sk, h) res) := i_if_eq k_42_119
theorem e_42_122 : X xs L d 42 (122, lo, sk, h) res ↔ X xs L d 42 (123, lo, .inl 1 :: sk, h) res := i_iconst k_42_122
theorem e_42_123 : X xs L d 42 (123, lo, sk, h) res ↔ X xs L d 42 (127, lo, sk, h) res := i_goto k_42_123
theorem e_42_126 : X xs L d 42 (126, lo, sk, h) res ↔ X xs L d 42 (127, lo, .inl 0 :: sk, h) res := i_iconst k_42_126
theorem e_42_127 {v : Int32} : X xs L d 42 (127, lo, [.inl v], h) res ↔ (v = 0 ∨ v = 1) ∧ res = (some (.inl v), h) := i_zret k_42_127 rfl
theorem k_43_0 : am_cd 43 0 = some (.iconst 0, 1, [], [(0, 0)])   := rfl
theorem k_43_1 : am_cd 43 1 = some (.istore_n 1, 1, [], [])   := rfl
theorem k_43_2 : am_cd 43 2 = some (.iconst 0, 1, [], [(0, 0)])   := rfl
theorem k_43_3 : am_cd 43 3 = some (.istore_n 2, 1, [], [])   := rfl
theorem k_43_4 : am_cd 43 4 = some (.iload_n 2, 1, [], [])   := rfl
theorem k_43_5 : am_cd 43 5 = some (.iconst 3, 1, [], [(3, 0)])   := rfl
theorem k_43_6 : am_cd 43 6 = some (.if_icmp .ge 42, 3, [48], [])   := rfl
theorem k_43_9 : am_cd 43 9 = some (.aload_n 0, 1, [], [])   := rfl
theorem k_43_10 : am_cd 43 10 = some (.invokevirtual 85, 3, [46, 1, 7], [(0, 283), (0, 285), (0, 2)])   := rfl
theorem k_43_13 : am_cd 43 13 = some (.invokestatic 132, 3, [48, 1], [(0, 413), (0, 414)])   := rfl
theorem k_43_16 : am_cd 43 16 = some (.ifCond .eq 32, 3, [48], [])   := rfl
theorem k_43_19 : am_cd 43 19 = some (.iload_n 1, 1, [], [])   := rfl
theorem k_43_20 : am_cd 43 20 = some (.bipush 10, 2, [], [(10, 0)])   := rfl
theorem k_43_22 : am_cd 43 22 = some (.imul, 1, [], [])   := rfl
theorem k_43_23 : am_cd 43 23 = some (.aload_n 0, 1, [], [])   := rfl
theorem k_43_24 : am_cd 43 24 = some (.invokevirtual 85, 3, [46, 1, 7], [(0, 283), (0, 285), (0, 2)])   := rfl
theorem k_43_27 : am_cd 43 27 = some (.bipush 48, 2, [], [(48, 0)])   := rfl
theorem k_43_29 : am_cd 43 29 = some (.isub, 1, [], [])   := rfl
theorem k_43_30 : am_cd 43 30 = some (.iadd, 1, [], [])   := rfl
theorem k_43_31 : am_cd 43 31 = some (.istore_n 1, 1, [], [])   := rfl
theorem k_43_32 : am_cd 43 32 = some (.aload_n 0, 1, [], [])   := rfl
theorem k_43_33 : am_cd 43 33 = some (.dup, 1, [], [])   := rfl
theorem k_43_34 : am_cd 43 34 = some (.getfield 37, 3, [7, 7, 0], [(0, 112)])   := rfl
theorem k_43_37 : am_cd 43 37 = some (.iconst 1, 1, [], [(1, 0)])   := rfl
theorem k_43_38 : am_cd 43 38 = some (.iadd, 1, [], [])   := rfl
theorem k_43_39 : am_cd 43 39 = some (.putfield 37, 3, [7, 7, 0], [(0, 112)])   := rfl
theorem k_43_42 : am_cd 43 42 = some (.iinc 2 1, 3, [], [(1, 0)])   := rfl
theorem k_43_45 : am_cd 43 45 = some (.goto (-41), 3, [4], [])   := rfl
theorem k_43_48 : am_cd 43 48 = some (.aload_n 0, 1, [], [])   := rfl
theorem k_43_49 : am_cd 43 49 = some (.iconst 1, 1, [], [(1, 0)])   := rfl
theorem k_43_50 : am_cd 43 50 = some (.iload_n 1, 1, [], [])   := rfl
theorem k_43_51 : am_cd 43 51 = some (.invokevirtual 73, 3, [45, 3, 7], [(0, 299), (0, 301), (0, 6)])   := rfl
theorem k_43_54 : am_cd 43 54 = some (.return_, 1, [], [])   := rfl
theorem e_43_0 : X xs L d 43 (0, lo, sk, h) res ↔ X xs L d 43 (1, lo, .inl 0 :: sk, h) res := i_iconst k_43_0
theorem e_43_1 {x : Int32} {a0 a1 a2 : Option AV} : X xs L d 43 (1, [a0, a1, a2], .inl x :: sk, h) res ↔ X xs L d 43 (2, [a0, some (.inl x), a2], sk, h) res := i_istore_n k_43_1 (Nat.le_of_ble_eq_true rfl) rfl
theorem e_43_2 : X xs L d 43 (2, lo, sk, h) res ↔ X xs L d 43 (3, lo, .inl 0 :: sk, h) res := i_iconst k_43_2
theorem e_43_3 {x : Int32} {a0 a1 a2 : Option AV} : X xs L d 43 (3, [a0, a1, a2], .inl x :: sk, h) res ↔ X xs L d 43 (4, [a0, a1, some (.inl x)], sk, h) res := i_istore_n k_43_3 (Nat.le_of_ble_eq_true rfl) rfl
theorem e_43_4 {x : Int32} {a0 a1 : Option AV} : X xs L d 43 (4, [a0, a1, some (.inl x)], sk, h) res ↔ X xs L d 43 (5, [a0, a1, some (.inl x)], .inl x :: sk, h) res := i_iload_n k_43_4 rfl
theorem e_43_5 : X xs L d 43 (5, lo, sk, h) res ↔ X xs L d 43 (6, lo, .inl 3 :: sk, h) res := i_iconst k_43_5
theorem e_43_6 {x y : Int32} : X xs L d 43 (6, lo, .inl y :: .inl x :: sk, h) res ↔ (if y ≤ x then X xs L d 43 (48, lo, sk, h) res else X xs L d 43 (9, lo, sk, h) res) := i_icmp_ge k_43_6
theorem e_43_9 {x : Option Nat} {a1 a2 : Option AV} : X xs L d 43 (9, [some (.inr x), a1, a2], sk, h) res ↔ X xs L d 43 (10, [some (.inr x), a1, a2], .inr x :: sk, h) res := i_aload_n k_43_9 rfl
theorem e_43_10 {o : Nat} (hs : sk.length ≤ 8) : X xs L d 43 (10, lo, .inr (some o) :: sk, h) res ↔ hK h o = 7 ∧ ∃ q : Res, Rn xs L d 46 [.inr (some o)] h q ∧ X xs L d 43 (13, lo, q.1.toList ++ sk, q.2) res := i_callV k_43_10 rfl ⟨Nat.le_add_left 1 sk.length, Nat.le_trans (Nat.add_le_add_right hs 1) (Nat.le_of_eq (Nat.add_comm 8 1))⟩
theorem e_43_13 {v0 : Int32} (hs : sk.length ≤ 8) : X xs L d 43 (13, lo, .inl v0 :: sk, h) res ↔ ∃ q : Res, Rn xs L d 48 [.inl v0] h q ∧ X xs L d 43 (16, lo, q.1.toList ++ sk, q.2) res := i_callS k_43_13 ⟨Nat.le_add_left 1 sk.length, Nat.le_trans (Nat.add_le_add_right hs 1) (Nat.le_of_eq (Nat.add_comm 8 1))⟩
theorem e_43_16 {x : Int32} : X xs L d 43 (16, lo, .inl x :: sk, h) res ↔ (if x = 0 then X xs L d 43 (48, lo, sk, h) res else X xs L d 43 (19, lo, sk, h) res) := i_if_eq k_43_16
theorem e_43_19 {x : Int32} {a0 a2 : Option AV} : X xs L d 43 (19, [a0, some (.inl x), a2], sk, h) res ↔ X xs L d 43 (20, [a0, some (.inl x), a2], .inl x :: sk, h) res := i_iload_n k_43_19 rfl
theorem e_43_20 : X xs L d 43 (20, lo, sk, h) res ↔ X xs L d 43 (22, lo, .inl 10 :: sk, h) res := i_bipush k_43_20
theorem e_43_22 {x y : Int32} : X xs L d 43 (22, lo, .inl y :: .inl x :: sk, h) res ↔ X xs L d 43 (23, lo, .inl (x * y) :: sk, h) res := i_imul k_43_22
theorem e_43_23 {x : Option Nat} {a1 a2 : Option AV} : X xs L d 43 (23, [some (.inr x), a1, a2], sk, h) res ↔ X xs L d 43 (24, [some (.inr x), a1, a2], .inr x :: sk, h) res := i_aload_n k_43_23 rfl
theorem e_43_24 {o : Nat} (hs : sk.length ≤ 8) : X xs L d 43 (24, lo, .inr (some o) :: sk, h) res ↔ hK h o = 7 ∧ ∃ q : Res, Rn xs L d 46 [.inr (some o)] h q ∧ X xs L d 43 (27, lo, q.1.toList ++ sk, q.2) res := i_callV k_43_24 rfl ⟨Nat.le_add_left 1 sk.length, Nat.le_trans (Nat.add_le_add_right hs 1) (Nat.le_of_eq (Nat.add_comm 8 1))⟩
theorem e_43_27 : X xs L d 43 (27, lo, sk, h) res ↔ X xs L d 43 (29, lo, .inl 48 :: sk, h) res := i_bipush k_43_27
theorem e_43_29 {x y : Int32} : X xs L d 43 (29, lo, .inl y :: .inl x :: sk, h) res ↔ X xs L d 43 (30, lo, .inl (x - y) :: sk, h) res := i_isub k_43_29
theorem e_43_30 {x y : Int32} : X xs L d 43 (30, lo, .inl y :: .inl x :: sk, h) res ↔ X xs L d 43 (31, lo, .inl (x + y) :: sk, h) res := i_iadd k_43_30
theorem e_43_31 {x : Int32} {a0 a1 a2 : Option AV} : X xs L d 43 (31, [a0, a1, a2], .inl x :: sk, h) res ↔ X xs L d 43 (32, [a0, some (.inl x), a2], sk, h) res := i_istore_n k_43_31 (Nat.le_of_ble_eq_true rfl) rfl
theorem e_43_32 {x : Option Nat} {a1 a2 : Option AV} : X xs L d 43 (32, [some (.inr x), a1, a2], sk, h) res ↔ X xs L d 43 (33, [some (.inr x), a1, a2], .inr x :: sk, h) res := i_aload_n k_43_32 rfl
theorem e_43_33 {v : AV} : X xs L d 43 (33, lo, v :: sk, h) res ↔ X xs L d 43 (34, lo, v :: v :: sk, h) res := i_dup k_43_33
theorem e_43_34 {o : Nat} : X xs L d 43 (34, lo, .inr (some o) :: sk, h) res ↔ hK h o = 7 ∧ X xs L d 43 (37, lo, .inl (hI h o 7) :: sk, h) res := i_getI k_43_34
theorem e_43_37 : X xs L d 43 (37, lo, sk, h) res ↔ X xs L d 43 (38, lo, .inl 1 :: sk, h) res := i_iconst k_43_37
theorem e_43_38 {x y : Int32} : X xs L d 43 (38, lo, .inl y :: .inl x :: sk, h) res ↔ X xs L d 43 (39, lo, .inl (x + y) :: sk, h) res := i_iadd k_43_38
theorem e_43_39 {o : Nat} {v : Int32} : X xs L d 43 (39, lo, .inl v :: .inr (some o) :: sk, h) res ↔ hK h o = 7 ∧ X xs L d 43 (42, lo, sk, sI h o 7 v) res := i_putI k_43_39
theorem e_43_42 {x : Int32} {a0 a1 : Option AV} : X xs L d 43 (42, [a0, a1, some (.inl x)], sk, h) res ↔ X xs L d 43 (45, [a0, a1, some (.inl (x + 1))], sk, h) res := i_iinc k_43_42 rfl rfl
theorem e_43_45 : X xs L d 43 (45, lo, sk, h) res ↔ X xs L d 43 (4, lo, sk, h) res := i_goto k_43_45
theorem e_43_48 {x : Option Nat} {a1 a2 : Option AV} : X xs L d 43 (48, [some (.inr x), a1, a2], sk, h) res ↔ X xs L d 43 (49, [some (.inr x), a1, a2], .inr x :: sk, h) res := i_aload_n k_43_48 rfl
theorem e_43_49 : X xs L d 43 (49, lo, sk, h) res ↔ X xs L d 43 (50, lo, .inl 1 :: sk, h) res := i_iconst k_43_49
theorem e_43_50 {x : Int32} {a0 a2 : Option AV} : X xs L d 43 (50, [a0, some (.inl x), a2], sk, h) res ↔ X xs L d 43 (51, [a0, some (.inl x), a2], .inl x :: sk, h) res := i_iload_n k_43_50 rfl
theorem e_43_51 {o : Nat} {v0 : Int32} {v1 : Int32} (hs : sk.length ≤ 8) : X xs L d 43 (51, lo, .inl v1 :: .inl v0 :: .inr (some o) :: sk, h) res ↔ hK h o = 7 ∧ ∃ q : Res, Rn xs L d 45 [.inr (some o), .inl v0, .inl v1] h q ∧ X xs L d 43 (54, lo, q.1.toList ++ sk, q.2) res := i_callV k_43_51 rfl ⟨Nat.le_add_left 3 sk.length, Nat.le_trans (Nat.add_le_add_right hs 3) (Nat.le_of_eq (Nat.add_comm 8 3))⟩
theorem e_43_54 : X xs L d 43 (54, lo, [], h) res ↔ res = (none, h) := i_vret k_43_54 rfl
theorem k_44_0 : am_cd 44 0 = some (.iconst 0, 1, [], [(0, 0)])   := rfl
theorem k_44_1 : am_cd 44 1 = some (.istore_n 3, 1, [], [])   := rfl
theorem k_44_2 : am_cd 44 2 = some (.aload_n 0, 1, [], [])   := rfl
theorem k_44_3 : am_cd 44 3 = some (.bipush 41, 2, [], [(41, 0)])   := rfl
theorem k_44_5 : am_cd 44 5 = some (.invokevirtual 92, 3, [47, 2, 7], [(0, 291), (0, 293), (0, 4)])   := rfl
theorem k_44_8 : am_cd 44 8 = some (.ifCond .ne 7, 3, [15], [])   := rfl
theorem k_44_11 : am_cd 44 11 = some (.iconst 1, 1, [], [(1, 0)])   := rfl
theorem k_44_12 : am_cd 44 12 = some (.goto 4, 3, [16], [])   := rfl
theorem k_44_15 : am_cd 44 15 = some (.iconst 0, 1, [], [(0, 0)])   := rfl
theorem k_44_16 : am_cd 44 16 = some (.istore 4, 2, [], [])   := rfl
theorem k_44_18 : am_cd 44 18 = some (.iload 4, 2, [], [])   := rfl
theorem k_44_20 : am_cd 44 20 = some (.ifCond .eq 45, 3, [65], [])   := rfl
theorem k_44_23 : am_cd 44 23 = some (.iload_n 3, 1, [], [])   := rfl
theorem k_44_24 : am_cd 44 24 = some (.iconst 3, 1, [], [(3, 0)])   := rfl
theorem k_44_25 : am_cd 44 25 = some (.if_icmp .ge 40, 3, [65], [])   := rfl
theorem k_44_28 : am_cd 44 28 = some (.aload_n 0, 1, [], [])   := rfl
theorem k_44_29 : am_cd 44 29 = some (.iload_n 2, 1, [], [])   := rfl
theorem k_44_30 : am_cd 44 30 = some (.invokevirtual 68, 3, [41, 2, 7], [(0, 405), (0, 407), (0, 10)])   := rfl
theorem k_44_33 : am_cd 44 33 = some (.ifCond .ne 5, 3, [38], [])   := rfl
theorem k_44_36 : am_cd 44 36 = some (.iconst 0, 1, [], [(0, 0)])   := rfl
theorem k_44_37 : am_cd 44 37 = some (.ireturn, 1, [], [])   := rfl
theorem k_44_38 : am_cd 44 38 = some (.iinc 3 1, 3, [], [(1, 0)])   := rfl
theorem k_44_41 : am_cd 44 41 = some (.aload_n 0, 1, [], [])   := rfl
theorem k_44_42 : am_cd 44 42 = some (.bipush 44, 2, [], [(44, 0)])   := rfl
theorem k_44_44 : am_cd 44 44 = some (.invokevirtual 92, 3, [47, 2, 7], [(0, 291), (0, 293), (0, 4)])   := rfl
theorem k_44_47 : am_cd 44 47 = some (.istore 4, 2, [], [])   := rfl
theorem k_44_49 : am_cd 44 49 = some (.iload 4, 2, [], [])   := rfl
theorem k_44_51 : am_cd 44 51 = some (.ifCond .ne (-33), 3, [18], [])   := rfl
theorem k_44_54 : am_cd 44 54 = some (.aload_n 0, 1, [], [])   := rfl
theorem k_44_55 : am_cd 44 55 = some (.bipush 41, 2, [], [(41, 0)])   := rfl
theorem k_44_57 : am_cd 44 57 = some (.invokevirtual 92, 3, [47, 2, 7], [(0, 291), (0, 293), (0, 4)])   := rfl
theorem k_44_60 : am_cd 44 60 = some (.ifCond .ne (-42), 3, [18], [])   := rfl
theorem k_44_63 : am_cd 44 63 = some (.iconst 0, 1, [], [(0, 0)])   := rfl
theorem k_44_64 : am_cd 44 64 = some (.ireturn, 1, [], [])   := rfl
theorem k_44_65 : am_cd 44 65 = some (.iload 4, 2, [], [])   := rfl
theorem k_44_67 : am_cd 44 67 = some (.ifCond .ne 23, 3, [90], [])   := rfl
theorem k_44_70 : am_cd 44 70 = some (.aload_n 0, 1, [], [])   := rfl
theorem k_44_71 : am_cd 44 71 = some (.getfield 24, 3, [7, 4, 2], [(0, 109)])   := rfl
theorem k_44_74 : am_cd 44 74 = some (.iload_n 1, 1, [], [])   := rfl
theorem k_44_75 : am_cd 44 75 = some (.iaload, 1, [], [])   := rfl
theorem k_44_76 : am_cd 44 76 = some (.iconst (-1), 1, [], [(-1, 0)])   := rfl
theorem k_44_77 : am_cd 44 77 = some (.if_icmp .eq 15, 3, [92], [])   := rfl
theorem k_44_80 : am_cd 44 80 = some (.aload_n 0, 1, [], [])   := rfl
theorem k_44_81 : am_cd 44 81 = some (.getfield 24, 3, [7, 4, 2], [(0, 109)])   := rfl
theorem k_44_84 : am_cd 44 84 = some (.iload_n 1, 1, [], [])   := rfl
theorem k_44_85 : am_cd 44 85 = some (.iaload, 1, [], [])   := rfl
theorem k_44_86 : am_cd 44 86 = some (.iload_n 3, 1, [], [])   := rfl
theorem k_44_87 : am_cd 44 87 = some (.if_icmp .eq 5, 3, [92], [])   := rfl
theorem k_44_90 : am_cd 44 90 = some (.iconst 0, 1, [], [(0, 0)])   := rfl
theorem k_44_91 : am_cd 44 91 = some (.ireturn, 1, [], [])   := rfl
theorem k_44_92 : am_cd 44 92 = some (.aload_n 0, 1, [], [])   := rfl
theorem k_44_93 : am_cd 44 93 = some (.getfield 24, 3, [7, 4, 2], [(0, 109)])   := rfl
theorem k_44_96 : am_cd 44 96 = some (.iload_n 1, 1, [], [])   := rfl
theorem k_44_97 : am_cd 44 97 = some (.iload_n 3, 1, [], [])   := rfl
theorem k_44_98 : am_cd 44 98 = some (.iastore, 1, [], [])   := rfl
theorem k_44_99 : am_cd 44 99 = some (.aload_n 0, 1, [], [])   := rfl
theorem k_44_100 : am_cd 44 100 = some (.iconst 4, 1, [], [(4, 0)])   := rfl
theorem k_44_101 : am_cd 44 101 = some (.iload_n 1, 1, [], [])   := rfl
theorem k_44_102 : am_cd 44 102 = some (.invokevirtual 73, 3, [45, 3, 7], [(0, 299), (0, 301), (0, 6)])   := rfl
theorem k_44_105 : am_cd 44 105 = some (.iconst 1, 1, [], [(1, 0)])   := rfl
theorem k_44_106 : am_cd 44 106 = some (.ireturn, 1, [], [])   := rfl
theorem e_44_0 : X xs L d 44 (0, lo, sk, h) res ↔ X xs L d 44 (1, lo, .inl 0 :: sk, h) res := i_iconst k_44_0
theorem e_44_1 {x : Int32} {a0 a1 a2 a3 a4 : Option AV} : X xs L d 44 (1, [a0, a1, a2, a3, a4], .inl x :: sk, h) res ↔ X xs L d 44 (2, [a0, a1, a2, some (.inl x), a4], sk, h) res := i_istore_n k_44_1 (Nat.le_of_ble_eq_true rfl) rfl
theorem e_44_2 {x : Option Nat} {a1 a2 a3 a4 : Option AV} : X xs L d 44 (2, [some (.inr x), a1, a2, a3, a4], sk, h) res ↔ X xs L d 44 (3, [some (.inr x), a1, a2, a3, a4], .inr x :: sk, h) res := i_aload_n k_44_2 rfl
theorem e_44_3 : X xs L d 44 (3, lo, sk, h) res ↔ X xs L d 44 (5, lo, .inl 41 :: sk, h) res := i_bipush k_44_3
theorem e_44_5 {o : Nat} {v0 : Int32} (hs : sk.length ≤ 8) : X xs L d 44 (5, lo, .inl v0 :: .inr (some o) :: sk, h) res ↔ hK h o = 7 ∧ ∃ q : Res, Rn xs L d 47 [.inr (some o), .inl v0] h q ∧ X xs L d 44 (8, lo, q.1.toList ++ sk, q.2) res := i_callV k_44_5 rfl ⟨Nat.le_add_left 2 sk.length, Nat.le_trans (Nat.add_le_add_right hs 2) (Nat.le_of_eq (Nat.add_comm 8 2))⟩
theorem e_44_8 {x : Int32} : X xs L d 44 (8, lo, .inl x :: sk, h) res ↔ (if x = 0 then X xs L d 44 (11, lo, sk, h) res else X xs L d 44 (15, lo, sk, h) res) := i_if_ne k_44_8
theorem e_44_11 : X xs L d 44 (11, lo, sk, h) res ↔ X xs L d 44 (12, lo, .inl 1 :: sk, h) res := i_iconst k_44_11
theorem e_44_12 : X xs L d 44 (12, lo, sk, h) res ↔ X xs L d 44 (16, lo, sk, h) res := i_goto k_44_12
theorem e_44_15 : X xs L d 44 (15, lo, sk, h) res ↔ X xs L d 44 (16, lo, .inl 0 :: sk, h) res := i_iconst k_44_15
theorem e_44_16 {x : Int32} {a0 a1 a2 a3 a4 : Option AV} : X xs L d 44 (16, [a0, a1, a2, a3, a4], .inl x :: sk, h) res ↔ X xs L d 44 (18, [a0, a1, a2, a3, some (.inl x)], sk, h) res := i_istore k_44_16 (Nat.le_of_ble_eq_true rfl) rfl
theorem e_44_18 {x : Int32} {a0 a1 a2 a3 : Option AV} : X xs L d 44 (18, [a0, a1, a2, a3, some (.inl x)], sk, h) res ↔ X xs L d 44 (20, [a0, a1, a2, a3, some (.inl x)], .inl x :: sk, h) res := i_iload k_44_18 rfl
theorem e_44_20 {x : Int32} : X xs L d 44 (20, lo, .inl x :: sk, h) res ↔ (if x = 0 then X xs L d 44 (65, lo, sk, h) res else X xs L d 44 (23, lo, sk, h) res) := i_if_eq k_44_20
theorem e_44_23 {x : Int32} {a0 a1 a2 a4 : Option AV} : X xs L d 44 (23, [a0, a1, a2, some (.inl x), a4], sk, h) res ↔ X xs L d 44 (24, [a0, a1, a2, some (.inl x), a4], .inl x :: sk, h) res := i_iload_n k_44_23 rfl
theorem e_44_24 : X xs L d 44 (24, lo, sk, h) res ↔ X xs L d 44 (25, lo, .inl 3 :: sk, h) res := i_iconst k_44_24
theorem e_44_25 {x y : Int32} : X xs L d 44 (25, lo, .inl y :: .inl x :: sk, h) res ↔ (if y ≤ x then X xs L d 44 (65, lo, sk, h) res else X xs L d 44 (28, lo, sk, h) res) := i_icmp_ge k_44_25
theorem e_44_28 {x : Option Nat} {a1 a2 a3 a4 : Option AV} : X xs L d 44 (28, [some (.inr x), a1, a2, a3, a4], sk, h) res ↔ X xs L d 44 (29, [some (.inr x), a1, a2, a3, a4], .inr x :: sk, h) res := i_aload_n k_44_28 rfl
theorem e_44_29 {x : Int32} {a0 a1 a3 a4 : Option AV} : X xs L d 44 (29, [a0, a1, some (.inl x), a3, a4], sk, h) res ↔ X xs L d 44 (30, [a0, a1, some (.inl x), a3, a4], .inl x :: sk, h) res := i_iload_n k_44_29 rfl
theorem e_44_30 {o : Nat} {v0 : Int32} (hs : sk.length ≤ 8) : X xs L d 44 (30, lo, .inl v0 :: .inr (some o) :: sk, h) res ↔ hK h o = 7 ∧ ∃ q : Res, Rn xs L d 41 [.inr (some o), .inl v0] h q ∧ X xs L d 44 (33, lo, q.1.toList ++ sk, q.2) res := i_callV k_44_30 rfl ⟨Nat.le_add_left 2 sk.length, Nat.le_trans (Nat.add_le_add_right hs 2) (Nat.le_of_eq (Nat.add_comm 8 2))⟩
theorem e_44_33 {x : Int32} : X xs L d 44 (33, lo, .inl x :: sk, h) res ↔ (if x = 0 then X xs L d 44 (36, lo, sk, h) res else X xs L d 44 (38, lo, sk, h) res) := i_if_ne k_44_33
theorem e_44_36 : X xs L d 44 (36, lo, sk, h) res ↔ X xs L d 44 (37, lo, .inl 0 :: sk, h) res := i_iconst k_44_36
theorem e_44_37 {v : Int32} : X xs L d 44 (37, lo, [.inl v], h) res ↔ (v = 0 ∨ v = 1) ∧ res = (some (.inl v), h) := i_zret k_44_37 rfl
theorem e_44_38 {x : Int32} {a0 a1 a2 a4 : Option AV} : X xs L d 44 (38, [a0, a1, a2, some (.inl x), a4], sk, h) res ↔ X xs L d 44 (41, [a0, a1, a2, some (.inl (x + 1)), a4], sk, h) res := i_iinc k_44_38 rfl rfl
theorem e_44_41 {x : Option Nat} {a1 a2 a3 a4 : Option AV} : X xs L d 44 (41, [some (.inr x), a1, a2, a3, a4], sk, h) res ↔ X xs L d 44 (42, [some (.inr x), a1, a2, a3, a4], .inr x :: sk, h) res := i_aload_n k_44_41 rfl
theorem e_44_42 : X xs L d 44 (42, lo, sk, h) res ↔ X xs L d 44 (44, lo, .inl 44 :: sk, h) res := i_bipush k_44_42
theorem e_44_44 {o : Nat} {v0 : Int32} (hs : sk.length ≤ 8) : X xs L d 44 (44, lo, .inl v0 :: .inr (some o) :: sk, h) res ↔ hK h o = 7 ∧ ∃ q : Res, Rn xs L d 47 [.inr (some o), .inl v0] h q ∧ X xs L d 44 (47, lo, q.1.toList ++ sk, q.2) res := i_callV k_44_44 rfl ⟨Nat.le_add_left 2 sk.length, Nat.le_trans (Nat.add_le_add_right hs 2) (Nat.le_of_eq (Nat.add_comm 8 2))⟩
theorem e_44_47 {x : Int32} {a0 a1 a2 a3 a4 : Option AV} : X xs L d 44 (47, [a0, a1, a2, a3, a4], .inl x :: sk, h) res ↔ X xs L d 44 (49, [a0, a1, a2, a3, some (.inl x)], sk, h) res := i_istore k_44_47 (Nat.le_of_ble_eq_true rfl) rfl
theorem e_44_49 {x : Int32} {a0 a1 a2 a3 : Option AV} : X xs L d 44 (49, [a0, a1, a2, a3, some (.inl x)], sk, h) res ↔ X xs L d 44 (51, [a0, a1, a2, a3, some (.inl x)], .inl x :: sk, h) res := i_iload k_44_49 rfl
theorem e_44_51 {x : Int32} : X xs L d 44 (51, lo, .inl x :: sk, h) res ↔ (if x = 0 then X xs L d 44 (54, lo, sk, h) res else X xs L d 44 (18, lo, sk, h) res) := i_if_ne k_44_51
theorem e_44_54 {x : Option Nat} {a1 a2 a3 a4 : Option AV} : X xs L d 44 (54, [some (.inr x), a1, a2, a3, a4], sk, h) res ↔ X xs L d 44 (55, [some (.inr x), a1, a2, a3, a4], .inr x :: sk, h) res := i_aload_n k_44_54 rfl
theorem e_44_55 : X xs L d 44 (55, lo, sk, h) res ↔ X xs L d 44 (57, lo, .inl 41 :: sk, h) res := i_bipush k_44_55
theorem e_44_57 {o : Nat} {v0 : Int32} (hs : sk.length ≤ 8) : X xs L d 44 (57, lo, .inl v0 :: .inr (some o) :: sk, h) res ↔ hK h o = 7 ∧ ∃ q : Res, Rn xs L d 47 [.inr (some o), .inl v0] h q ∧ X xs L d 44 (60, lo, q.1.toList ++ sk, q.2) res := i_callV k_44_57 rfl ⟨Nat.le_add_left 2 sk.length, Nat.le_trans (Nat.add_le_add_right hs 2) (Nat.le_of_eq (Nat.add_comm 8 2))⟩
theorem e_44_60 {x : Int32} : X xs L d 44 (60, lo, .inl x :: sk, h) res ↔ (if x = 0 then X xs L d 44 (63, lo, sk, h) res else X xs L d 44 (18, lo, sk, h) res) := i_if_ne k_44_60
theorem e_44_63 : X xs L d 44 (63, lo, sk, h) res ↔ X xs L d 44 (64, lo, .inl 0 :: sk, h) res := i_iconst k_44_63
theorem e_44_64 {v : Int32} : X xs L d 44 (64, lo, [.inl v], h) res ↔ (v = 0 ∨ v = 1) ∧ res = (some (.inl v), h) := i_zret k_44_64 rfl
theorem e_44_65 {x : Int32} {a0 a1 a2 a3 : Option AV} : X xs L d 44 (65, [a0, a1, a2, a3, some (.inl x)], sk, h) res ↔ X xs L d 44 (67, [a0, a1, a2, a3, some (.inl x)], .inl x :: sk, h) res := i_iload k_44_65 rfl
theorem e_44_67 {x : Int32} : X xs L d 44 (67, lo, .inl x :: sk, h) res ↔ (if x = 0 then X xs L d 44 (70, lo, sk, h) res else X xs L d 44 (90, lo, sk, h) res) := i_if_ne k_44_67
theorem e_44_70 {x : Option Nat} {a1 a2 a3 a4 : Option AV} : X xs L d 44 (70, [some (.inr x), a1, a2, a3, a4], sk, h) res ↔ X xs L d 44 (71, [some (.inr x), a1, a2, a3, a4], .inr x :: sk, h) res := i_aload_n k_44_70 rfl
theorem e_44_71 {o : Nat} : X xs L d 44 (71, lo, .inr (some o) :: sk, h) res ↔ hK h o = 7 ∧ X xs L d 44 (74, lo, .inr (hR h o 4) :: sk, h) res := i_getR k_44_71
theorem e_44_74 {x : Int32} {a0 a2 a3 a4 : Option AV} : X xs L d 44 (74, [a0, some (.inl x), a2, a3, a4], sk, h) res ↔ X xs L d 44 (75, [a0, some (.inl x), a2, a3, a4], .inl x :: sk, h) res := i_iload_n k_44_74 rfl
theorem e_44_75 {o : Nat} {i : Int32} : X xs L d 44 (75, lo, .inl i :: .inr (some o) :: sk, h) res ↔ (hK h o = 20 ∧ vp_in i (hL h o)) ∧ X xs L d 44 (76, lo, .inl (hI h o i.toNatClampNeg) :: sk, h) res := i_iaload k_44_75
theorem e_44_76 : X xs L d 44 (76, lo, sk, h) res ↔ X xs L d 44 (77, lo, .inl (-1) :: sk, h) res := i_iconst k_44_76
theorem e_44_77 {x y : Int32} : X xs L d 44 (77, lo, .inl y :: .inl x :: sk, h) res ↔ (if x = y then X xs L d 44 (92, lo, sk, h) res else X xs L d 44 (80, lo, sk, h) res) := i_icmp_eq k_44_77
theorem e_44_80 {x : Option Nat} {a1 a2 a3 a4 : Option AV} : X xs L d 44 (80, [some (.inr x), a1, a2, a3, a4], sk, h) res ↔ X xs L d 44 (81, [some (.inr x), a1, a2, a3, a4], .inr x :: sk, h) res := i_aload_n k_44_80 rfl
theorem e_44_81 {o : Nat} : X xs L d 44 (81, lo, .inr (some o) :: sk, h) res ↔ hK h o = 7 ∧ X xs L d 44 (84, lo, .inr (hR h o 4) :: sk, h) res := i_getR k_44_81
theorem e_44_84 {x : Int32} {a0 a2 a3 a4 : Option AV} : X xs L d 44 (84, [a0, some (.inl x), a2, a3, a4], sk, h) res ↔ X xs L d 44 (85, [a0, some (.inl x), a2, a3, a4], .inl x :: sk, h) res := i_iload_n k_44_84 rfl
theorem e_44_85 {o : Nat} {i : Int32} : X xs L d 44 (85, lo, .inl i :: .inr (some o) :: sk, h) res ↔ (hK h o = 20 ∧ vp_in i (hL h o)) ∧ X xs L d 44 (86, lo, .inl (hI h o i.toNatClampNeg) :: sk, h) res := i_iaload k_44_85
theorem e_44_86 {x : Int32} {a0 a1 a2 a4 : Option AV} : X xs L d 44 (86, [a0, a1, a2, some (.inl x), a4], sk, h) res ↔ X xs L d 44 (87, [a0, a1, a2, some (.inl x), a4], .inl x :: sk, h) res := i_iload_n k_44_86 rfl
theorem e_44_87 {x y : Int32} : X xs L d 44 (87, lo, .inl y :: .inl x :: sk, h) res ↔ (if x = y then X xs L d 44 (92, lo, sk, h) res else X xs L d 44 (90, lo, sk, h) res) := i_icmp_eq k_44_87
theorem e_44_90 : X xs L d 44 (90, lo, sk, h) res ↔ X xs L d 44 (91, lo, .inl 0 :: sk, h) res := i_iconst k_44_90
theorem e_44_91 {v : Int32} : X xs L d 44 (91, lo, [.inl v], h) res ↔ (v = 0 ∨ v = 1) ∧ res = (some (.inl v), h) := i_zret k_44_91 rfl
theorem e_44_92 {x : Option Nat} {a1 a2 a3 a4 : Option AV} : X xs L d 44 (92, [some (.inr x), a1, a2, a3, a4], sk, h) res ↔ X xs L d 44 (93, [some (.inr x), a1, a2, a3, a4], .inr x :: sk, h) res := i_aload_n k_44_92 rfl
theorem e_44_93 {o : Nat} : X xs L d 44 (93, lo, .inr (some o) :: sk, h) res ↔ hK h o = 7 ∧ X xs L d 44 (96, lo, .inr (hR h o 4) :: sk, h) res := i_getR k_44_93
theorem e_44_96 {x : Int32} {a0 a2 a3 a4 : Option AV} : X xs L d 44 (96, [a0, some (.inl x), a2, a3, a4], sk, h) res ↔ X xs L d 44 (97, [a0, some (.inl x), a2, a3, a4], .inl x :: sk, h) res := i_iload_n k_44_96 rfl
theorem e_44_97 {x : Int32} {a0 a1 a2 a4 : Option AV} : X xs L d 44 (97, [a0, a1, a2, some (.inl x), a4], sk, h) res ↔ X xs L d 44 (98, [a0, a1, a2, some (.inl x), a4], .inl x :: sk, h) res := i_iload_n k_44_97 rfl
theorem e_44_98 {o : Nat} {i v : Int32} : X xs L d 44 (98, lo, .inl v :: .inl i :: .inr (some o) :: sk, h) res ↔ (hK h o = 20 ∧ vp_in i (hL h o)) ∧ X xs L d 44 (99, lo, sk, sI h o i.toNatClampNeg (v)) res := i_iastore k_44_98
theorem e_44_99 {x : Option Nat} {a1 a2 a3 a4 : Option AV} : X xs L d 44 (99, [some (.inr x), a1, a2, a3, a4], sk, h) res ↔ X xs L d 44 (100, [some (.inr x), a1, a2, a3, a4], .inr x :: sk, h) res := i_aload_n k_44_99 rfl
theorem e_44_100 : X xs L d 44 (100, lo, sk, h) res ↔ X xs L d 44 (101, lo, .inl 4 :: sk, h) res := i_iconst k_44_100
theorem e_44_101 {x : Int32} {a0 a2 a3 a4 : Option AV} : X xs L d 44 (101, [a0, some (.inl x), a2, a3, a4], sk, h) res ↔ X xs L d 44 (102, [a0, some (.inl x), a2, a3, a4], .inl x :: sk, h) res := i_iload_n k_44_101 rfl
theorem e_44_102 {o : Nat} {v0 : Int32} {v1 : Int32} (hs : sk.length ≤ 8) : X xs L d 44 (102, lo, .inl v1 :: .inl v0 :: .inr (some o) :: sk, h) res ↔ hK h o = 7 ∧ ∃ q : Res, Rn xs L d 45 [.inr (some o), .inl v0, .inl v1] h q ∧ X xs L d 44 (105, lo, q.1.toList ++ sk, q.2) res := i_callV k_44_102 rfl ⟨Nat.le_add_left 3 sk.length, Nat.le_trans (Nat.add_le_add_right hs 3) (Nat.le_of_eq (Nat.add_comm 8 3))⟩
theorem e_44_105 : X xs L d 44 (105, lo, sk, h) res ↔ X xs L d 44 (106, lo, .inl 1 :: sk, h) res := i_iconst k_44_105
theorem e_44_106 {v : Int32} : X xs L d 44 (106, lo, [.inl v], h) res ↔ (v = 0 ∨ v = 1) ∧ res = (some (.inl v), h) := i_zret k_44_106 rfl
theorem k_45_0 : am_cd 45 0 = some (.aload_n 0, 1, [], [])   := rfl
theorem k_45_1 : am_cd 45 1 = some (.getfield 56, 3, [7, 8, 0], [(0, 113)])   := rfl
theorem k_45_4 : am_cd 45 4 = some (.aload_n 0, 1, [], [])   := rfl
theorem k_45_5 : am_cd 45 5 = some (.getfield 9, 3, [7, 0, 2], [(0, 105)])   := rfl
theorem k_45_8 : am_cd 45 8 = some (.arraylength, 1, [], [])   := rfl
theorem k_45_9 : am_cd 45 9 = some (.if_icmp .ge 37, 3, [46], [])   := rfl
theorem k_45_12 : am_cd 45 12 = some (.aload_n 0, 1, [], [])   := rfl
theorem k_45_13 : am_cd 45 13 = some (.getfield 9, 3, [7, 0, 2], [(0, 105)])   := rfl
theorem k_45_16 : am_cd 45 16 = some (.aload_n 0, 1, [], [])   := rfl
theorem k_45_17 : am_cd 45 17 = some (.getfield 56, 3, [7, 8, 0], [(0, 113)])   := rfl
theorem k_45_20 : am_cd 45 20 = some (.iload_n 2, 1, [], [])   := rfl
theorem k_45_21 : am_cd 45 21 = some (.iconst 4, 1, [], [(4, 0)])   := rfl
theorem k_45_22 : am_cd 45 22 = some (.ishl, 1, [], [])   := rfl
theorem k_45_23 : am_cd 45 23 = some (.iload_n 1, 1, [], [])   := rfl
theorem k_45_24 : am_cd 45 24 = some (.ior, 1, [], [])   := rfl
theorem k_45_25 : am_cd 45 25 = some (.iastore, 1, [], [])   := rfl
theorem k_45_26 : am_cd 45 26 = some (.aload_n 0, 1, [], [])   := rfl
theorem k_45_27 : am_cd 45 27 = some (.getfield 15, 3, [7, 1, 2], [(0, 106)])   := rfl
theorem k_45_30 : am_cd 45 30 = some (.aload_n 0, 1, [], [])   := rfl
theorem k_45_31 : am_cd 45 31 = some (.getfield 56, 3, [7, 8, 0], [(0, 113)])   := rfl
theorem k_45_34 : am_cd 45 34 = some (.iconst (-1), 1, [], [(-1, 0)])   := rfl
theorem k_45_35 : am_cd 45 35 = some (.iastore, 1, [], [])   := rfl
theorem k_45_36 : am_cd 45 36 = some (.aload_n 0, 1, [], [])   := rfl
theorem k_45_37 : am_cd 45 37 = some (.dup, 1, [], [])   := rfl
theorem k_45_38 : am_cd 45 38 = some (.getfield 56, 3, [7, 8, 0], [(0, 113)])   := rfl
theorem k_45_41 : am_cd 45 41 = some (.iconst 1, 1, [], [(1, 0)])   := rfl
theorem k_45_42 : am_cd 45 42 = some (.iadd, 1, [], [])   := rfl
theorem k_45_43 : am_cd 45 43 = some (.putfield 56, 3, [7, 8, 0], [(0, 113)])   := rfl
theorem k_45_46 : am_cd 45 46 = some (.return_, 1, [], [])   := rfl
theorem e_45_0 {x : Option Nat} {a1 a2 : Option AV} : X xs L d 45 (0, [some (.inr x), a1, a2], sk, h) res ↔ X xs L d 45 (1, [some (.inr x), a1, a2], .inr x :: sk, h) res := i_aload_n k_45_0 rfl
theorem e_45_1 {o : Nat} : X xs L d 45 (1, lo, .inr (some o) :: sk, h) res ↔ hK h o = 7 ∧ X xs L d 45 (4, lo, .inl (hI h o 8) :: sk, h) res := i_getI k_45_1
theorem e_45_4 {x : Option Nat} {a1 a2 : Option AV} : X xs L d 45 (4, [some (.inr x), a1, a2], sk, h) res ↔ X xs L d 45 (5, [some (.inr x), a1, a2], .inr x :: sk, h) res := i_aload_n k_45_4 rfl
theorem e_45_5 {o : Nat} : X xs L d 45 (5, lo, .inr (some o) :: sk, h) res ↔ hK h o = 7 ∧ X xs L d 45 (8, lo, .inr (hR h o 0) :: sk, h) res := i_getR k_45_5
theorem e_45_8 {o : Nat} : X xs L d 45 (8, lo, .inr (some o) :: sk, h) res ↔ (20 ≤ hK h o ∧ hK h o ≤ 24) ∧ X xs L d 45 (9, lo, .inl (nI (hL h o)) :: sk, h) res := i_alen k_45_8
theorem e_45_9 {x y : Int32} : X xs L d 45 (9, lo, .inl y :: .inl x :: sk, h) res ↔ (if y ≤ x then X xs L d 45 (46, lo, sk, h) res else X xs L d 45 (12, lo, sk, h) res) := i_icmp_ge k_45_9
theorem e_45_12 {x : Option Nat} {a1 a2 : Option AV} : X xs L d 45 (12, [some (.inr x), a1, a2], sk, h) res ↔ X xs L d 45 (13, [some (.inr x), a1, a2], .inr x :: sk, h) res := i_aload_n k_45_12 rfl
theorem e_45_13 {o : Nat} : X xs L d 45 (13, lo, .inr (some o) :: sk, h) res ↔ hK h o = 7 ∧ X xs L d 45 (16, lo, .inr (hR h o 0) :: sk, h) res := i_getR k_45_13
theorem e_45_16 {x : Option Nat} {a1 a2 : Option AV} : X xs L d 45 (16, [some (.inr x), a1, a2], sk, h) res ↔ X xs L d 45 (17, [some (.inr x), a1, a2], .inr x :: sk, h) res := i_aload_n k_45_16 rfl
theorem e_45_17 {o : Nat} : X xs L d 45 (17, lo, .inr (some o) :: sk, h) res ↔ hK h o = 7 ∧ X xs L d 45 (20, lo, .inl (hI h o 8) :: sk, h) res := i_getI k_45_17
theorem e_45_20 {x : Int32} {a0 a1 : Option AV} : X xs L d 45 (20, [a0, a1, some (.inl x)], sk, h) res ↔ X xs L d 45 (21, [a0, a1, some (.inl x)], .inl x :: sk, h) res := i_iload_n k_45_20 rfl
theorem e_45_21 : X xs L d 45 (21, lo, sk, h) res ↔ X xs L d 45 (22, lo, .inl 4 :: sk, h) res := i_iconst k_45_21
theorem e_45_22 {x y : Int32} : X xs L d 45 (22, lo, .inl y :: .inl x :: sk, h) res ↔ X xs L d 45 (23, lo, .inl (x <<< (y &&& 31)) :: sk, h) res := i_ishl k_45_22
theorem e_45_23 {x : Int32} {a0 a2 : Option AV} : X xs L d 45 (23, [a0, some (.inl x), a2], sk, h) res ↔ X xs L d 45 (24, [a0, some (.inl x), a2], .inl x :: sk, h) res := i_iload_n k_45_23 rfl
theorem e_45_24 {x y : Int32} : X xs L d 45 (24, lo, .inl y :: .inl x :: sk, h) res ↔ X xs L d 45 (25, lo, .inl (x ||| y) :: sk, h) res := i_ior k_45_24
theorem e_45_25 {o : Nat} {i v : Int32} : X xs L d 45 (25, lo, .inl v :: .inl i :: .inr (some o) :: sk, h) res ↔ (hK h o = 20 ∧ vp_in i (hL h o)) ∧ X xs L d 45 (26, lo, sk, sI h o i.toNatClampNeg (v)) res := i_iastore k_45_25
theorem e_45_26 {x : Option Nat} {a1 a2 : Option AV} : X xs L d 45 (26, [some (.inr x), a1, a2], sk, h) res ↔ X xs L d 45 (27, [some (.inr x), a1, a2], .inr x :: sk, h) res := i_aload_n k_45_26 rfl
theorem e_45_27 {o : Nat} : X xs L d 45 (27, lo, .inr (some o) :: sk, h) res ↔ hK h o = 7 ∧ X xs L d 45 (30, lo, .inr (hR h o 1) :: sk, h) res := i_getR k_45_27
theorem e_45_30 {x : Option Nat} {a1 a2 : Option AV} : X xs L d 45 (30, [some (.inr x), a1, a2], sk, h) res ↔ X xs L d 45 (31, [some (.inr x), a1, a2], .inr x :: sk, h) res := i_aload_n k_45_30 rfl
theorem e_45_31 {o : Nat} : X xs L d 45 (31, lo, .inr (some o) :: sk, h) res ↔ hK h o = 7 ∧ X xs L d 45 (34, lo, .inl (hI h o 8) :: sk, h) res := i_getI k_45_31
theorem e_45_34 : X xs L d 45 (34, lo, sk, h) res ↔ X xs L d 45 (35, lo, .inl (-1) :: sk, h) res := i_iconst k_45_34
theorem e_45_35 {o : Nat} {i v : Int32} : X xs L d 45 (35, lo, .inl v :: .inl i :: .inr (some o) :: sk, h) res ↔ (hK h o = 20 ∧ vp_in i (hL h o)) ∧ X xs L d 45 (36, lo, sk, sI h o i.toNatClampNeg (v)) res := i_iastore k_45_35
theorem e_45_36 {x : Option Nat} {a1 a2 : Option AV} : X xs L d 45 (36, [some (.inr x), a1, a2], sk, h) res ↔ X xs L d 45 (37, [some (.inr x), a1, a2], .inr x :: sk, h) res := i_aload_n k_45_36 rfl
theorem e_45_37 {v : AV} : X xs L d 45 (37, lo, v :: sk, h) res ↔ X xs L d 45 (38, lo, v :: v :: sk, h) res := i_dup k_45_37
theorem e_45_38 {o : Nat} : X xs L d 45 (38, lo, .inr (some o) :: sk, h) res ↔ hK h o = 7 ∧ X xs L d 45 (41, lo, .inl (hI h o 8) :: sk, h) res := i_getI k_45_38
theorem e_45_41 : X xs L d 45 (41, lo, sk, h) res ↔ X xs L d 45 (42, lo, .inl 1 :: sk, h) res := i_iconst k_45_41
theorem e_45_42 {x y : Int32} : X xs L d 45 (42, lo, .inl y :: .inl x :: sk, h) res ↔ X xs L d 45 (43, lo, .inl (x + y) :: sk, h) res := i_iadd k_45_42
theorem e_45_43 {o : Nat} {v : Int32} : X xs L d 45 (43, lo, .inl v :: .inr (some o) :: sk, h) res ↔ hK h o = 7 ∧ X xs L d 45 (46, lo, sk, sI h o 8 v) res := i_putI k_45_43
theorem e_45_46 : X xs L d 45 (46, lo, [], h) res ↔ res = (none, h) := i_vret k_45_46 rfl
theorem k_46_0 : am_cd 46 0 = some (.aload_n 0, 1, [], [])   := rfl
theorem k_46_1 : am_cd 46 1 = some (.getfield 37, 3, [7, 7, 0], [(0, 112)])   := rfl
theorem k_46_4 : am_cd 46 4 = some (.aload_n 0, 1, [], [])   := rfl
theorem k_46_5 : am_cd 46 5 = some (.getfield 41, 3, [7, 6, 0], [(0, 111)])   := rfl
theorem k_46_8 : am_cd 46 8 = some (.if_icmp .ge 15, 3, [23], [])   := rfl
theorem k_46_11 : am_cd 46 11 = some (.aload_n 0, 1, [], [])   := rfl
theorem k_46_12 : am_cd 46 12 = some (.getfield 83, 3, [7, 5, 2], [(0, 110)])   := rfl
theorem k_46_15 : am_cd 46 15 = some (.aload_n 0, 1, [], [])   := rfl
theorem k_46_16 : am_cd 46 16 = some (.getfield 37, 3, [7, 7, 0], [(0, 112)])   := rfl
theorem k_46_19 : am_cd 46 19 = some (.caload, 1, [], [])   := rfl
theorem k_46_20 : am_cd 46 20 = some (.goto 4, 3, [24], [])   := rfl
theorem k_46_23 : am_cd 46 23 = some (.iconst 0, 1, [], [(0, 0)])   := rfl
theorem k_46_24 : am_cd 46 24 = some (.ireturn, 1, [], [])   := rfl
theorem e_46_0 {x : Option Nat} : X xs L d 46 (0, [some (.inr x)], sk, h) res ↔ X xs L d 46 (1, [some (.inr x)], .inr x :: sk, h) res := i_aload_n k_46_0 rfl
theorem e_46_1 {o : Nat} : X xs L d 46 (1, lo, .inr (some o) :: sk, h) res ↔ hK h o = 7 ∧ X xs L d 46 (4, lo, .inl (hI h o 7) :: sk, h) res := i_getI k_46_1
theorem e_46_4 {x : Option Nat} : X xs L d 46 (4, [some (.inr x)], sk, h) res ↔ X xs L d 46 (5, [some (.inr x)], .inr x :: sk, h) res := i_aload_n k_46_4 rfl
theorem e_46_5 {o : Nat} : X xs L d 46 (5, lo, .inr (some o) :: sk, h) res ↔ hK h o = 7 ∧ X xs L d 46 (8, lo, .inl (hI h o 6) :: sk, h) res := i_getI k_46_5
theorem e_46_8 {x y : Int32} : X xs L d 46 (8, lo, .inl y :: .inl x :: sk, h) res ↔ (if y ≤ x then X xs L d 46 (23, lo, sk, h) res else X xs L d 46 (11, lo, sk, h) res) := i_icmp_ge k_46_8
theorem e_46_11 {x : Option Nat} : X xs L d 46 (11, [some (.inr x)], sk, h) res ↔ X xs L d 46 (12, [some (.inr x)], .inr x :: sk, h) res := i_aload_n k_46_11 rfl
theorem e_46_12 {o : Nat} : X xs L d 46 (12, lo, .inr (some o) :: sk, h) res ↔ hK h o = 7 ∧ X xs L d 46 (15, lo, .inr (hR h o 5) :: sk, h) res := i_getR k_46_12
theorem e_46_15 {x : Option Nat} : X xs L d 46 (15, [some (.inr x)], sk, h) res ↔ X xs L d 46 (16, [some (.inr x)], .inr x :: sk, h) res := i_aload_n k_46_15 rfl
theorem e_46_16 {o : Nat} : X xs L d 46 (16, lo, .inr (some o) :: sk, h) res ↔ hK h o = 7 ∧ X xs L d 46 (19, lo, .inl (hI h o 7) :: sk, h) res := i_getI k_46_16
theorem e_46_19 {o : Nat} {i : Int32} : X xs L d 46 (19, lo, .inl i :: .inr (some o) :: sk, h) res ↔ (hK h o = 21 ∧ vp_in i (hL h o)) ∧ X xs L d 46 (20, lo, .inl (hI h o i.toNatClampNeg) :: sk, h) res := i_caload k_46_19
theorem e_46_20 : X xs L d 46 (20, lo, sk, h) res ↔ X xs L d 46 (24, lo, sk, h) res := i_goto k_46_20
theorem e_46_23 : X xs L d 46 (23, lo, sk, h) res ↔ X xs L d 46 (24, lo, .inl 0 :: sk, h) res := i_iconst k_46_23
theorem e_46_24 {v : Int32} : X xs L d 46 (24, lo, [.inl v], h) res ↔ (¬ v < 0 ∧ v < 65536) ∧ res = (some (.inl v), h) := i_cret k_46_24 rfl
theorem k_47_0 : am_cd 47 0 = some (.aload_n 0, 1, [], [])   := rfl
theorem k_47_1 : am_cd 47 1 = some (.getfield 37, 3, [7, 7, 0], [(0, 112)])   := rfl
theorem k_47_4 : am_cd 47 4 = some (.aload_n 0, 1, [], [])   := rfl
theorem k_47_5 : am_cd 47 5 = some (.getfield 41, 3, [7, 6, 0], [(0, 111)])   := rfl
theorem k_47_8 : am_cd 47 8 = some (.if_icmp .ge 16, 3, [24], [])   := rfl
theorem k_47_11 : am_cd 47 11 = some (.aload_n 0, 1, [], [])   := rfl
theorem k_47_12 : am_cd 47 12 = some (.getfield 83, 3, [7, 5, 2], [(0, 110)])   := rfl
theorem k_47_15 : am_cd 47 15 = some (.aload_n 0, 1, [], [])   := rfl
theorem k_47_16 : am_cd 47 16 = some (.getfield 37, 3, [7, 7, 0], [(0, 112)])   := rfl
theorem k_47_19 : am_cd 47 19 = some (.caload, 1, [], [])   := rfl
theorem k_47_20 : am_cd 47 20 = some (.iload_n 1, 1, [], [])   := rfl
theorem k_47_21 : am_cd 47 21 = some (.if_icmp .eq 5, 3, [26], [])   := rfl
theorem k_47_24 : am_cd 47 24 = some (.iconst 0, 1, [], [(0, 0)])   := rfl
theorem k_47_25 : am_cd 47 25 = some (.ireturn, 1, [], [])   := rfl
theorem k_47_26 : am_cd 47 26 = some (.aload_n 0, 1, [], [])   := rfl
theorem k_47_27 : am_cd 47 27 = some (.dup, 1, [], [])   := rfl
theorem k_47_28 : am_cd 47 28 = some (.getfield 37, 3, [7, 7, 0], [(0, 112)])   := rfl
theorem k_47_31 : am_cd 47 31 = some (.iconst 1, 1, [], [(1, 0)])   := rfl
theorem k_47_32 : am_cd 47 32 = some (.iadd, 1, [], [])   := rfl
theorem k_47_33 : am_cd 47 33 = some (.putfield 37, 3, [7, 7, 0], [(0, 112)])   := rfl
theorem k_47_36 : am_cd 47 36 = some (.iconst 1, 1, [], [(1, 0)])   := rfl
theorem k_47_37 : am_cd 47 37 = some (.ireturn, 1, [], [])   := rfl
theorem e_47_0 {x : Option Nat} {a1 : Option AV} : X xs L d 47 (0, [some (.inr x), a1], sk, h) res ↔ X xs L d 47 (1, [some (.inr x), a1], .inr x :: sk, h) res := i_aload_n k_47_0 rfl
theorem e_47_1 {o : Nat} : X xs L d 47 (1, lo, .inr (some o) :: sk, h) res ↔ hK h o = 7 ∧ X xs L d 47 (4, lo, .inl (hI h o 7) :: sk, h) res := i_getI k_47_1
theorem e_47_4 {x : Option Nat} {a1 : Option AV} : X xs L d 47 (4, [some (.inr x), a1], sk, h) res ↔ X xs L d 47 (5, [some (.inr x), a1], .inr x :: sk, h) res := i_aload_n k_47_4 rfl
theorem e_47_5 {o : Nat} : X xs L d 47 (5, lo, .inr (some o) :: sk, h) res ↔ hK h o = 7 ∧ X xs L d 47 (8, lo, .inl (hI h o 6) :: sk, h) res := i_getI k_47_5
theorem e_47_8 {x y : Int32} : X xs L d 47 (8, lo, .inl y :: .inl x :: sk, h) res ↔ (if y ≤ x then X xs L d 47 (24, lo, sk, h) res else X xs L d 47 (11, lo, sk, h) res) := i_icmp_ge k_47_8
theorem e_47_11 {x : Option Nat} {a1 : Option AV} : X xs L d 47 (11, [some (.inr x), a1], sk, h) res ↔ X xs L d 47 (12, [some (.inr x), a1], .inr x :: sk, h) res := i_aload_n k_47_11 rfl
theorem e_47_12 {o : Nat} : X xs L d 47 (12, lo, .inr (some o) :: sk, h) res ↔ hK h o = 7 ∧ X xs L d 47 (15, lo, .inr (hR h o 5) :: sk, h) res := i_getR k_47_12
theorem e_47_15 {x : Option Nat} {a1 : Option AV} : X xs L d 47 (15, [some (.inr x), a1], sk, h) res ↔ X xs L d 47 (16, [some (.inr x), a1], .inr x :: sk, h) res := i_aload_n k_47_15 rfl
theorem e_47_16 {o : Nat} : X xs L d 47 (16, lo, .inr (some o) :: sk, h) res ↔ hK h o = 7 ∧ X xs L d 47 (19, lo, .inl (hI h o 7) :: sk, h) res := i_getI k_47_16
theorem e_47_19 {o : Nat} {i : Int32} : X xs L d 47 (19, lo, .inl i :: .inr (some o) :: sk, h) res ↔ (hK h o = 21 ∧ vp_in i (hL h o)) ∧ X xs L d 47 (20, lo, .inl (hI h o i.toNatClampNeg) :: sk, h) res := i_caload k_47_19
theorem e_47_20 {x : Int32} {a0 : Option AV} : X xs L d 47 (20, [a0, some (.inl x)], sk, h) res ↔ X xs L d 47 (21, [a0, some (.inl x)], .inl x :: sk, h) res := i_iload_n k_47_20 rfl
theorem e_47_21 {x y : Int32} : X xs L d 47 (21, lo, .inl y :: .inl x :: sk, h) res ↔ (if x = y then X xs L d 47 (26, lo, sk, h) res else X xs L d 47 (24, lo, sk, h) res) := i_icmp_eq k_47_21
theorem e_47_24 : X xs L d 47 (24, lo, sk, h) res ↔ X xs L d 47 (25, lo, .inl 0 :: sk, h) res := i_iconst k_47_24
theorem e_47_25 {v : Int32} : X xs L d 47 (25, lo, [.inl v], h) res ↔ (v = 0 ∨ v = 1) ∧ res = (some (.inl v), h) := i_zret k_47_25 rfl
theorem e_47_26 {x : Option Nat} {a1 : Option AV} : X xs L d 47 (26, [some (.inr x), a1], sk, h) res ↔ X xs L d 47 (27, [some (.inr x), a1], .inr x :: sk, h) res := i_aload_n k_47_26 rfl
theorem e_47_27 {v : AV} : X xs L d 47 (27, lo, v :: sk, h) res ↔ X xs L d 47 (28, lo, v :: v :: sk, h) res := i_dup k_47_27
theorem e_47_28 {o : Nat} : X xs L d 47 (28, lo, .inr (some o) :: sk, h) res ↔ hK h o = 7 ∧ X xs L d 47 (31, lo, .inl (hI h o 7) :: sk, h) res := i_getI k_47_28
theorem e_47_31 : X xs L d 47 (31, lo, sk, h) res ↔ X xs L d 47 (32, lo, .inl 1 :: sk, h) res := i_iconst k_47_31
theorem e_47_32 {x y : Int32} : X xs L d 47 (32, lo, .inl y :: .inl x :: sk, h) res ↔ X xs L d 47 (33, lo, .inl (x + y) :: sk, h) res := i_iadd k_47_32
theorem e_47_33 {o : Nat} {v : Int32} : X xs L d 47 (33, lo, .inl v :: .inr (some o) :: sk, h) res ↔ hK h o = 7 ∧ X xs L d 47 (36, lo, sk, sI h o 7 v) res := i_putI k_47_33
theorem e_47_36 : X xs L d 47 (36, lo, sk, h) res ↔ X xs L d 47 (37, lo, .inl 1 :: sk, h) res := i_iconst k_47_36
theorem e_47_37 {v : Int32} : X xs L d 47 (37, lo, [.inl v], h) res ↔ (v = 0 ∨ v = 1) ∧ res = (some (.inl v), h) := i_zret k_47_37 rfl
theorem k_48_0 : am_cd 48 0 = some (.iload_n 0, 1, [], [])   := rfl
theorem k_48_1 : am_cd 48 1 = some (.bipush 48, 2, [], [(48, 0)])   := rfl
theorem k_48_3 : am_cd 48 3 = some (.if_icmp .lt 13, 3, [16], [])   := rfl
theorem k_48_6 : am_cd 48 6 = some (.iload_n 0, 1, [], [])   := rfl
theorem k_48_7 : am_cd 48 7 = some (.bipush 57, 2, [], [(57, 0)])   := rfl
theorem k_48_9 : am_cd 48 9 = some (.if_icmp .gt 7, 3, [16], [])   := rfl
theorem k_48_12 : am_cd 48 12 = some (.iconst 1, 1, [], [(1, 0)])   := rfl
theorem k_48_13 : am_cd 48 13 = some (.goto 4, 3, [17], [])   := rfl
theorem k_48_16 : am_cd 48 16 = some (.iconst 0, 1, [], [(0, 0)])   := rfl
theorem k_48_17 : am_cd 48 17 = some (.ireturn, 1, [], [])   := rfl
theorem e_48_0 {x : Int32} : X xs L d 48 (0, [some (.inl x)], sk, h) res ↔ X xs L d 48 (1, [some (.inl x)], .inl x :: sk, h) res := i_iload_n k_48_0 rfl
theorem e_48_1 : X xs L d 48 (1, lo, sk, h) res ↔ X xs L d 48 (3, lo, .inl 48 :: sk, h) res := i_bipush k_48_1
theorem e_48_3 {x y : Int32} : X xs L d 48 (3, lo, .inl y :: .inl x :: sk, h) res ↔ (if x < y then X xs L d 48 (16, lo, sk, h) res else X xs L d 48 (6, lo, sk, h) res) := i_icmp_lt k_48_3
theorem e_48_6 {x : Int32} : X xs L d 48 (6, [some (.inl x)], sk, h) res ↔ X xs L d 48 (7, [some (.inl x)], .inl x :: sk, h) res := i_iload_n k_48_6 rfl
theorem e_48_7 : X xs L d 48 (7, lo, sk, h) res ↔ X xs L d 48 (9, lo, .inl 57 :: sk, h) res := i_bipush k_48_7
theorem e_48_9 {x y : Int32} : X xs L d 48 (9, lo, .inl y :: .inl x :: sk, h) res ↔ (if y < x then X xs L d 48 (16, lo, sk, h) res else X xs L d 48 (12, lo, sk, h) res) := i_icmp_gt k_48_9
theorem e_48_12 : X xs L d 48 (12, lo, sk, h) res ↔ X xs L d 48 (13, lo, .inl 1 :: sk, h) res := i_iconst k_48_12
theorem e_48_13 : X xs L d 48 (13, lo, sk, h) res ↔ X xs L d 48 (17, lo, sk, h) res := i_goto k_48_13
theorem e_48_16 : X xs L d 48 (16, lo, sk, h) res ↔ X xs L d 48 (17, lo, .inl 0 :: sk, h) res := i_iconst k_48_16
theorem e_48_17 {v : Int32} : X xs L d 48 (17, lo, [.inl v], h) res ↔ (v = 0 ∨ v = 1) ∧ res = (some (.inl v), h) := i_zret k_48_17 rfl
theorem k_49_0 : am_cd 49 0 = some (.iload_n 0, 1, [], [])   := rfl
theorem k_49_1 : am_cd 49 1 = some (.bipush 97, 2, [], [(97, 0)])   := rfl
theorem k_49_3 : am_cd 49 3 = some (.if_icmp .lt 13, 3, [16], [])   := rfl
theorem k_49_6 : am_cd 49 6 = some (.iload_n 0, 1, [], [])   := rfl
theorem k_49_7 : am_cd 49 7 = some (.bipush 103, 2, [], [(103, 0)])   := rfl
theorem k_49_9 : am_cd 49 9 = some (.if_icmp .ge 7, 3, [16], [])   := rfl
theorem k_49_12 : am_cd 49 12 = some (.iconst 1, 1, [], [(1, 0)])   := rfl
theorem k_49_13 : am_cd 49 13 = some (.goto 4, 3, [17], [])   := rfl
theorem k_49_16 : am_cd 49 16 = some (.iconst 0, 1, [], [(0, 0)])   := rfl
theorem k_49_17 : am_cd 49 17 = some (.ireturn, 1, [], [])   := rfl
theorem e_49_0 {x : Int32} : X xs L d 49 (0, [some (.inl x)], sk, h) res ↔ X xs L d 49 (1, [some (.inl x)], .inl x :: sk, h) res := i_iload_n k_49_0 rfl
theorem e_49_1 : X xs L d 49 (1, lo, sk, h) res ↔ X xs L d 49 (3, lo, .inl 97 :: sk, h) res := i_bipush k_49_1
theorem e_49_3 {x y : Int32} : X xs L d 49 (3, lo, .inl y :: .inl x :: sk, h) res ↔ (if x < y then X xs L d 49 (16, lo, sk, h) res else X xs L d 49 (6, lo, sk, h) res) := i_icmp_lt k_49_3
theorem e_49_6 {x : Int32} : X xs L d 49 (6, [some (.inl x)], sk, h) res ↔ X xs L d 49 (7, [some (.inl x)], .inl x :: sk, h) res := i_iload_n k_49_6 rfl
theorem e_49_7 : X xs L d 49 (7, lo, sk, h) res ↔ X xs L d 49 (9, lo, .inl 103 :: sk, h) res := i_bipush k_49_7
theorem e_49_9 {x y : Int32} : X xs L d 49 (9, lo, .inl y :: .inl x :: sk, h) res ↔ (if y ≤ x then X xs L d 49 (16, lo, sk, h) res else X xs L d 49 (12, lo, sk, h) res) := i_icmp_ge k_49_9
theorem e_49_12 : X xs L d 49 (12, lo, sk, h) res ↔ X xs L d 49 (13, lo, .inl 1 :: sk, h) res := i_iconst k_49_12
theorem e_49_13 : X xs L d 49 (13, lo, sk, h) res ↔ X xs L d 49 (17, lo, sk, h) res := i_goto k_49_13
theorem e_49_16 : X xs L d 49 (16, lo, sk, h) res ↔ X xs L d 49 (17, lo, .inl 0 :: sk, h) res := i_iconst k_49_16
theorem e_49_17 {v : Int32} : X xs L d 49 (17, lo, [.inl v], h) res ↔ (v = 0 ∨ v = 1) ∧ res = (some (.inl v), h) := i_zret k_49_17 rfl
theorem k_50_0 : am_cd 50 0 = some (.aload_n 0, 1, [], [])   := rfl
theorem k_50_1 : am_cd 50 1 = some (.invokespecial 3, 3, [], [(0, 79), (0, 80)])   := rfl
theorem k_50_4 : am_cd 50 4 = some (.aload_n 0, 1, [], [])   := rfl
theorem k_50_5 : am_cd 50 5 = some (.new 9, 3, [6, 2], [(0, 82), (0, 83), (0, 57)])   := rfl
theorem k_50_8 : am_cd 50 8 = some (.dup, 1, [], [])   := rfl
theorem k_50_9 : am_cd 50 9 = some (.invokespecial 11, 3, [25, 1, 6], [(0, 84), (0, 85)])   := rfl
theorem k_50_12 : am_cd 50 12 = some (.putfield 12, 3, [8, 0, 2], [(0, 228)])   := rfl
theorem k_50_15 : am_cd 50 15 = some (.aload_n 0, 1, [], [])   := rfl
theorem k_50_16 : am_cd 50 16 = some (.new 16, 3, [7, 10], [(0, 99), (0, 100), (0, 58)])   := rfl
theorem k_50_19 : am_cd 50 19 = some (.dup, 1, [], [])   := rfl
theorem k_50_20 : am_cd 50 20 = some (.invokespecial 18, 3, [28, 1, 7], [(0, 101), (0, 102)])   := rfl
theorem k_50_23 : am_cd 50 23 = some (.putfield 19, 3, [8, 1, 2], [(0, 229)])   := rfl
theorem k_50_26 : am_cd 50 26 = some (.aload_n 0, 1, [], [])   := rfl
theorem k_50_27 : am_cd 50 27 = some (.new 23, 3, [3, 10], [(0, 137), (0, 138), (0, 59)])   := rfl
theorem k_50_30 : am_cd 50 30 = some (.dup, 1, [], [])   := rfl
theorem k_50_31 : am_cd 50 31 = some (.invokespecial 25, 3, [6, 1, 3], [(0, 139), (0, 140)])   := rfl
theorem k_50_34 : am_cd 50 34 = some (.putfield 26, 3, [8, 2, 2], [(0, 230)])   := rfl
theorem k_50_37 : am_cd 50 37 = some (.aload_n 0, 1, [], [])   := rfl
theorem k_50_38 : am_cd 50 38 = some (.new 23, 3, [3, 10], [(0, 137), (0, 138), (0, 59)])   := rfl
theorem k_50_41 : am_cd 50 41 = some (.dup, 1, [], [])   := rfl
theorem k_50_42 : am_cd 50 42 = some (.invokespecial 25, 3, [6, 1, 3], [(0, 139), (0, 140)])   := rfl
theorem k_50_45 : am_cd 50 45 = some (.putfield 30, 3, [8, 3, 2], [(0, 231)])   := rfl
theorem k_50_48 : am_cd 50 48 = some (.aload_n 0, 1, [], [])   := rfl
theorem k_50_49 : am_cd 50 49 = some (.new 33, 3, [5, 2], [(0, 224), (0, 175), (0, 61)])   := rfl
theorem k_50_52 : am_cd 50 52 = some (.dup, 1, [], [])   := rfl
theorem k_50_53 : am_cd 50 53 = some (.invokespecial 35, 3, [21, 1, 5], [(0, 225), (0, 177)])   := rfl
theorem k_50_56 : am_cd 50 56 = some (.putfield 36, 3, [8, 4, 2], [(0, 232)])   := rfl
theorem k_50_59 : am_cd 50 59 = some (.aload_n 0, 1, [], [])   := rfl
theorem k_50_60 : am_cd 50 60 = some (.bipush 40, 2, [], [(40, 0)])   := rfl
theorem k_50_62 : am_cd 50 62 = some (.anewarray 40, 3, [24], [(0, 226), (0, 227)])   := rfl
theorem k_50_65 : am_cd 50 65 = some (.putfield 42, 3, [8, 5, 2], [(0, 233)])   := rfl
theorem k_50_68 : am_cd 50 68 = some (.return_, 1, [], [])   := rfl
theorem e_50_0 {x : Option Nat} : X xs L d 50 (0, [some (.inr x)], sk, h) res ↔ X xs L d 50 (1, [some (.inr x)], .inr x :: sk, h) res := i_aload_n k_50_0 rfl
theorem e_50_1 {o : Nat} : X xs L d 50 (1, lo, .inr (some o) :: sk, h) res ↔ sk.length ≤ 8 ∧ X xs L d 50 (4, lo, sk, h) res := i_obj k_50_1
theorem e_50_4 {x : Option Nat} : X xs L d 50 (4, [some (.inr x)], sk, h) res ↔ X xs L d 50 (5, [some (.inr x)], .inr x :: sk, h) res := i_aload_n k_50_4 rfl
theorem e_50_5 : X xs L d 50 (5, lo, sk, h) res ↔ X xs L d 50 (8, lo, .inr (some (hN h)) :: sk, nw h 6 0 2) res := i_new k_50_5
theorem e_50_8 {v : AV} : X xs L d 50 (8, lo, v :: sk, h) res ↔ X xs L d 50 (9, lo, v :: v :: sk, h) res := i_dup k_50_8
theorem e_50_9 {o : Nat} (hs : sk.length ≤ 8) : X xs L d 50 (9, lo, .inr (some o) :: sk, h) res ↔ hK h o = 6 ∧ ∃ q : Res, Rn xs L d 25 [.inr (some o)] h q ∧ X xs L d 50 (12, lo, q.1.toList ++ sk, q.2) res := i_callI k_50_9 rfl ⟨Nat.le_add_left 1 sk.length, Nat.le_trans (Nat.add_le_add_right hs 1) (Nat.le_of_eq (Nat.add_comm 8 1))⟩
theorem e_50_12 {o : Nat} {v : Option Nat} : X xs L d 50 (12, lo, .inr v :: .inr (some o) :: sk, h) res ↔ hK h o = 8 ∧ X xs L d 50 (15, lo, sk, sR h o 0 v) res := i_putR k_50_12
theorem e_50_15 {x : Option Nat} : X xs L d 50 (15, [some (.inr x)], sk, h) res ↔ X xs L d 50 (16, [some (.inr x)], .inr x :: sk, h) res := i_aload_n k_50_15 rfl
theorem e_50_16 : X xs L d 50 (16, lo, sk, h) res ↔ X xs L d 50 (19, lo, .inr (some (hN h)) :: sk, nw h 7 0 10) res := i_new k_50_16
theorem e_50_19 {v : AV} : X xs L d 50 (19, lo, v :: sk, h) res ↔ X xs L d 50 (20, lo, v :: v :: sk, h) res := i_dup k_50_19
theorem e_50_20 {o : Nat} (hs : sk.length ≤ 8) : X xs L d 50 (20, lo, .inr (some o) :: sk, h) res ↔ hK h o = 7 ∧ ∃ q : Res, Rn xs L d 28 [.inr (some o)] h q ∧ X xs L d 50 (23, lo, q.1.toList ++ sk, q.2) res := i_callI k_50_20 rfl ⟨Nat.le_add_left 1 sk.length, Nat.le_trans (Nat.add_le_add_right hs 1) (Nat.le_of_eq (Nat.add_comm 8 1))⟩
theorem e_50_23 {o : Nat} {v : Option Nat} : X xs L d 50 (23, lo, .inr v :: .inr (some o) :: sk, h) res ↔ hK h o = 8 ∧ X xs L d 50 (26, lo, sk, sR h o 1 v) res := i_putR k_50_23
theorem e_50_26 {x : Option Nat} : X xs L d 50 (26, [some (.inr x)], sk, h) res ↔ X xs L d 50 (27, [some (.inr x)], .inr x :: sk, h) res := i_aload_n k_50_26 rfl
theorem e_50_27 : X xs L d 50 (27, lo, sk, h) res ↔ X xs L d 50 (30, lo, .inr (some (hN h)) :: sk, nw h 3 0 10) res := i_new k_50_27
theorem e_50_30 {v : AV} : X xs L d 50 (30, lo, v :: sk, h) res ↔ X xs L d 50 (31, lo, v :: v :: sk, h) res := i_dup k_50_30
theorem e_50_31 {o : Nat} (hs : sk.length ≤ 8) : X xs L d 50 (31, lo, .inr (some o) :: sk, h) res ↔ hK h o = 3 ∧ ∃ q : Res, Rn xs L d 6 [.inr (some o)] h q ∧ X xs L d 50 (34, lo, q.1.toList ++ sk, q.2) res := i_callI k_50_31 rfl ⟨Nat.le_add_left 1 sk.length, Nat.le_trans (Nat.add_le_add_right hs 1) (Nat.le_of_eq (Nat.add_comm 8 1))⟩
theorem e_50_34 {o : Nat} {v : Option Nat} : X xs L d 50 (34, lo, .inr v :: .inr (some o) :: sk, h) res ↔ hK h o = 8 ∧ X xs L d 50 (37, lo, sk, sR h o 2 v) res := i_putR k_50_34
theorem e_50_37 {x : Option Nat} : X xs L d 50 (37, [some (.inr x)], sk, h) res ↔ X xs L d 50 (38, [some (.inr x)], .inr x :: sk, h) res := i_aload_n k_50_37 rfl
theorem e_50_38 : X xs L d 50 (38, lo, sk, h) res ↔ X xs L d 50 (41, lo, .inr (some (hN h)) :: sk, nw h 3 0 10) res := i_new k_50_38
theorem e_50_41 {v : AV} : X xs L d 50 (41, lo, v :: sk, h) res ↔ X xs L d 50 (42, lo, v :: v :: sk, h) res := i_dup k_50_41
theorem e_50_42 {o : Nat} (hs : sk.length ≤ 8) : X xs L d 50 (42, lo, .inr (some o) :: sk, h) res ↔ hK h o = 3 ∧ ∃ q : Res, Rn xs L d 6 [.inr (some o)] h q ∧ X xs L d 50 (45, lo, q.1.toList ++ sk, q.2) res := i_callI k_50_42 rfl ⟨Nat.le_add_left 1 sk.length, Nat.le_trans (Nat.add_le_add_right hs 1) (Nat.le_of_eq (Nat.add_comm 8 1))⟩
theorem e_50_45 {o : Nat} {v : Option Nat} : X xs L d 50 (45, lo, .inr v :: .inr (some o) :: sk, h) res ↔ hK h o = 8 ∧ X xs L d 50 (48, lo, sk, sR h o 3 v) res := i_putR k_50_45
theorem e_50_48 {x : Option Nat} : X xs L d 50 (48, [some (.inr x)], sk, h) res ↔ X xs L d 50 (49, [some (.inr x)], .inr x :: sk, h) res := i_aload_n k_50_48 rfl
theorem e_50_49 : X xs L d 50 (49, lo, sk, h) res ↔ X xs L d 50 (52, lo, .inr (some (hN h)) :: sk, nw h 5 0 2) res := i_new k_50_49
theorem e_50_52 {v : AV} : X xs L d 50 (52, lo, v :: sk, h) res ↔ X xs L d 50 (53, lo, v :: v :: sk, h) res := i_dup k_50_52
theorem e_50_53 {o : Nat} (hs : sk.length ≤ 8) : X xs L d 50 (53, lo, .inr (some o) :: sk, h) res ↔ hK h o = 5 ∧ ∃ q : Res, Rn xs L d 21 [.inr (some o)] h q ∧ X xs L d 50 (56, lo, q.1.toList ++ sk, q.2) res := i_callI k_50_53 rfl ⟨Nat.le_add_left 1 sk.length, Nat.le_trans (Nat.add_le_add_right hs 1) (Nat.le_of_eq (Nat.add_comm 8 1))⟩
theorem e_50_56 {o : Nat} {v : Option Nat} : X xs L d 50 (56, lo, .inr v :: .inr (some o) :: sk, h) res ↔ hK h o = 8 ∧ X xs L d 50 (59, lo, sk, sR h o 4 v) res := i_putR k_50_56
theorem e_50_59 {x : Option Nat} : X xs L d 50 (59, [some (.inr x)], sk, h) res ↔ X xs L d 50 (60, [some (.inr x)], .inr x :: sk, h) res := i_aload_n k_50_59 rfl
theorem e_50_60 : X xs L d 50 (60, lo, sk, h) res ↔ X xs L d 50 (62, lo, .inl 40 :: sk, h) res := i_bipush k_50_60
theorem e_50_62 {i : Int32} : X xs L d 50 (62, lo, .inl i :: sk, h) res ↔ (¬ i < 0 ∧ i.toNatClampNeg ≤ 100000) ∧ X xs L d 50 (65, lo, .inr (some (hN h)) :: sk, nw h 24 i.toNatClampNeg i.toNatClampNeg) res := i_anewarray k_50_62
theorem e_50_65 {o : Nat} {v : Option Nat} : X xs L d 50 (65, lo, .inr v :: .inr (some o) :: sk, h) res ↔ hK h o = 8 ∧ X xs L d 50 (68, lo, sk, sR h o 5 v) res := i_putR k_50_65
theorem e_50_68 : X xs L d 50 (68, lo, [], h) res ↔ res = (none, h) := i_vret k_50_68 rfl
theorem k_51_0 : am_cd 51 0 = some (.aload_n 0, 1, [], [])   := rfl
theorem k_51_1 : am_cd 51 1 = some (.getfield 12, 3, [8, 0, 2], [(0, 228)])   := rfl
theorem k_51_4 : am_cd 51 4 = some (.iload_n 1, 1, [], [])   := rfl
theorem k_51_5 : am_cd 51 5 = some (.invokevirtual 46, 3, [26, 2, 6], [(0, 260), (0, 261), (0, 262)])   := rfl
theorem k_51_8 : am_cd 51 8 = some (.ireturn, 1, [], [])   := rfl
theorem e_51_0 {x : Option Nat} {a1 : Option AV} : X xs L d 51 (0, [some (.inr x), a1], sk, h) res ↔ X xs L d 51 (1, [some (.inr x), a1], .inr x :: sk, h) res := i_aload_n k_51_0 rfl
theorem e_51_1 {o : Nat} : X xs L d 51 (1, lo, .inr (some o) :: sk, h) res ↔ hK h o = 8 ∧ X xs L d 51 (4, lo, .inr (hR h o 0) :: sk, h) res := i_getR k_51_1
theorem e_51_4 {x : Int32} {a0 : Option AV} : X xs L d 51 (4, [a0, some (.inl x)], sk, h) res ↔ X xs L d 51 (5, [a0, some (.inl x)], .inl x :: sk, h) res := i_iload_n k_51_4 rfl
theorem e_51_5 {o : Nat} {v0 : Int32} (hs : sk.length ≤ 8) : X xs L d 51 (5, lo, .inl v0 :: .inr (some o) :: sk, h) res ↔ hK h o = 6 ∧ ∃ q : Res, Rn xs L d 26 [.inr (some o), .inl v0] h q ∧ X xs L d 51 (8, lo, q.1.toList ++ sk, q.2) res := i_callV k_51_5 rfl ⟨Nat.le_add_left 2 sk.length, Nat.le_trans (Nat.add_le_add_right hs 2) (Nat.le_of_eq (Nat.add_comm 8 2))⟩
theorem e_51_8 {v : Int32} : X xs L d 51 (8, lo, [.inl v], h) res ↔ (v = 0 ∨ v = 1) ∧ res = (some (.inl v), h) := i_zret k_51_8 rfl
theorem k_52_0 : am_cd 52 0 = some (.aload_n 0, 1, [], [])   := rfl
theorem k_52_1 : am_cd 52 1 = some (.getfield 19, 3, [8, 1, 2], [(0, 229)])   := rfl
theorem k_52_4 : am_cd 52 4 = some (.aload_n 0, 1, [], [])   := rfl
theorem k_52_5 : am_cd 52 5 = some (.getfield 12, 3, [8, 0, 2], [(0, 228)])   := rfl
theorem k_52_8 : am_cd 52 8 = some (.invokevirtual 50, 3, [29, 2, 7], [(0, 268), (0, 269), (0, 270)])   := rfl
theorem k_52_11 : am_cd 52 11 = some (.astore_n 1, 1, [], [])   := rfl
theorem k_52_12 : am_cd 52 12 = some (.aload_n 0, 1, [], [])   := rfl
theorem k_52_13 : am_cd 52 13 = some (.getfield 12, 3, [8, 0, 2], [(0, 228)])   := rfl
theorem k_52_16 : am_cd 52 16 = some (.invokevirtual 54, 3, [27, 1, 6], [(0, 497), (0, 498), (0, 499)])   := rfl
theorem k_52_19 : am_cd 52 19 = some (.aload_n 1, 1, [], [])   := rfl
theorem k_52_20 : am_cd 52 20 = some (.ifnonnull 5, 3, [25], [])   := rfl
theorem k_52_23 : am_cd 52 23 = some (.iconst (-1), 1, [], [(-1, 0)])   := rfl
theorem k_52_24 : am_cd 52 24 = some (.ireturn, 1, [], [])   := rfl
theorem k_52_25 : am_cd 52 25 = some (.aload_n 0, 1, [], [])   := rfl
theorem k_52_26 : am_cd 52 26 = some (.aload_n 1, 1, [], [])   := rfl
theorem k_52_27 : am_cd 52 27 = some (.putfield 57, 3, [8, 6, 2], [(0, 234)])   := rfl
theorem k_52_30 : am_cd 52 30 = some (.aload_n 0, 1, [], [])   := rfl
theorem k_52_31 : am_cd 52 31 = some (.getfield 26, 3, [8, 2, 2], [(0, 230)])   := rfl
theorem k_52_34 : am_cd 52 34 = some (.invokevirtual 61, 3, [7, 1, 3], [(0, 501), (0, 502), (0, 503)])   := rfl
theorem k_52_37 : am_cd 52 37 = some (.aload_n 0, 1, [], [])   := rfl
theorem k_52_38 : am_cd 52 38 = some (.getfield 36, 3, [8, 4, 2], [(0, 232)])   := rfl
theorem k_52_41 : am_cd 52 41 = some (.invokevirtual 64, 3, [23, 1, 5], [(0, 509), (0, 506), (0, 507)])   := rfl
theorem k_52_44 : am_cd 52 44 = some (.iconst 0, 1, [], [(0, 0)])   := rfl
theorem k_52_45 : am_cd 52 45 = some (.istore_n 2, 1, [], [])   := rfl
theorem k_52_46 : am_cd 52 46 = some (.iload_n 2, 1, [], [])   := rfl
theorem k_52_47 : am_cd 52 47 = some (.bipush 40, 2, [], [(40, 0)])   := rfl
theorem k_52_49 : am_cd 52 49 = some (.if_icmp .ge 16, 3, [65], [])   := rfl
theorem k_52_52 : am_cd 52 52 = some (.aload_n 0, 1, [], [])   := rfl
theorem k_52_53 : am_cd 52 53 = some (.getfield 42, 3, [8, 5, 2], [(0, 233)])   := rfl
theorem k_52_56 : am_cd 52 56 = some (.iload_n 2, 1, [], [])   := rfl
theorem k_52_57 : am_cd 52 57 = some (.aconst_null, 1, [], [])   := rfl
theorem k_52_58 : am_cd 52 58 = some (.aastore, 1, [24, 0], [])   := rfl
theorem k_52_59 : am_cd 52 59 = some (.iinc 2 1, 3, [], [(1, 0)])   := rfl
theorem k_52_62 : am_cd 52 62 = some (.goto (-16), 3, [46], [])   := rfl
theorem k_52_65 : am_cd 52 65 = some (.aload_n 0, 1, [], [])   := rfl
theorem k_52_66 : am_cd 52 66 = some (.iconst 0, 1, [], [(0, 0)])   := rfl
theorem k_52_67 : am_cd 52 67 = some (.putfield 65, 3, [8, 7, 1], [(0, 235)])   := rfl
theorem k_52_70 : am_cd 52 70 = some (.aload_n 0, 1, [], [])   := rfl
theorem k_52_71 : am_cd 52 71 = some (.iconst 0, 1, [], [(0, 0)])   := rfl
theorem k_52_72 : am_cd 52 72 = some (.putfield 69, 3, [8, 8, 0], [(0, 236)])   := rfl
theorem k_52_75 : am_cd 52 75 = some (.aload_n 0, 1, [], [])   := rfl
theorem k_52_76 : am_cd 52 76 = some (.getfield 57, 3, [8, 6, 2], [(0, 234)])   := rfl
theorem k_52_79 : am_cd 52 79 = some (.getfield 73, 3, [4, 3, 0], [(0, 487)])   := rfl
theorem k_52_82 : am_cd 52 82 = some (.ireturn, 1, [], [])   := rfl
theorem e_52_0 {x : Option Nat} {a1 a2 : Option AV} : X xs L d 52 (0, [some (.inr x), a1, a2], sk, h) res ↔ X xs L d 52 (1, [some (.inr x), a1, a2], .inr x :: sk, h) res := i_aload_n k_52_0 rfl
theorem e_52_1 {o : Nat} : X xs L d 52 (1, lo, .inr (some o) :: sk, h) res ↔ hK h o = 8 ∧ X xs L d 52 (4, lo, .inr (hR h o 1) :: sk, h) res := i_getR k_52_1
theorem e_52_4 {x : Option Nat} {a1 a2 : Option AV} : X xs L d 52 (4, [some (.inr x), a1, a2], sk, h) res ↔ X xs L d 52 (5, [some (.inr x), a1, a2], .inr x :: sk, h) res := i_aload_n k_52_4 rfl
theorem e_52_5 {o : Nat} : X xs L d 52 (5, lo, .inr (some o) :: sk, h) res ↔ hK h o = 8 ∧ X xs L d 52 (8, lo, .inr (hR h o 0) :: sk, h) res := i_getR k_52_5
theorem e_52_8 {o : Nat} {v0 : Option Nat} (hs : sk.length ≤ 8) : X xs L d 52 (8, lo, .inr v0 :: .inr (some o) :: sk, h) res ↔ hK h o = 7 ∧ ∃ q : Res, Rn xs L d 29 [.inr (some o), .inr v0] h q ∧ X xs L d 52 (11, lo, q.1.toList ++ sk, q.2) res := i_callV k_52_8 rfl ⟨Nat.le_add_left 2 sk.length, Nat.le_trans (Nat.add_le_add_right hs 2) (Nat.le_of_eq (Nat.add_comm 8 2))⟩
theorem e_52_11 {x : Option Nat} {a0 a1 a2 : Option AV} : X xs L d 52 (11, [a0, a1, a2], .inr x :: sk, h) res ↔ X xs L d 52 (12, [a0, some (.inr x), a2], sk, h) res := i_astore_n k_52_11 (Nat.le_of_ble_eq_true rfl) rfl
theorem e_52_12 {x : Option Nat} {a1 a2 : Option AV} : X xs L d 52 (12, [some (.inr x), a1, a2], sk, h) res ↔ X xs L d 52 (13, [some (.inr x), a1, a2], .inr x :: sk, h) res := i_aload_n k_52_12 rfl
theorem e_52_13 {o : Nat} : X xs L d 52 (13, lo, .inr (some o) :: sk, h) res ↔ hK h o = 8 ∧ X xs L d 52 (16, lo, .inr (hR h o 0) :: sk, h) res := i_getR k_52_13
theorem e_52_16 {o : Nat} (hs : sk.length ≤ 8) : X xs L d 52 (16, lo, .inr (some o) :: sk, h) res ↔ hK h o = 6 ∧ ∃ q : Res, Rn xs L d 27 [.inr (some o)] h q ∧ X xs L d 52 (19, lo, q.1.toList ++ sk, q.2) res := i_callV k_52_16 rfl ⟨Nat.le_add_left 1 sk.length, Nat.le_trans (Nat.add_le_add_right hs 1) (Nat.le_of_eq (Nat.add_comm 8 1))⟩
theorem e_52_19 {x : Option Nat} {a0 a2 : Option AV} : X xs L d 52 (19, [a0, some (.inr x), a2], sk, h) res ↔ X xs L d 52 (20, [a0, some (.inr x), a2], .inr x :: sk, h) res := i_aload_n k_52_19 rfl
theorem e_52_20 {v : Option Nat} : X xs L d 52 (20, lo, .inr v :: sk, h) res ↔ X xs L d 52 (if v = none then 23 else 25, lo, sk, h) res := i_ifnonnull k_52_20
theorem e_52_23 : X xs L d 52 (23, lo, sk, h) res ↔ X xs L d 52 (24, lo, .inl (-1) :: sk, h) res := i_iconst k_52_23
theorem e_52_24 {v : Int32} : X xs L d 52 (24, lo, [.inl v], h) res ↔ res = (some (.inl v), h) := i_iret k_52_24 rfl
theorem e_52_25 {x : Option Nat} {a1 a2 : Option AV} : X xs L d 52 (25, [some (.inr x), a1, a2], sk, h) res ↔ X xs L d 52 (26, [some (.inr x), a1, a2], .inr x :: sk, h) res := i_aload_n k_52_25 rfl
theorem e_52_26 {x : Option Nat} {a0 a2 : Option AV} : X xs L d 52 (26, [a0, some (.inr x), a2], sk, h) res ↔ X xs L d 52 (27, [a0, some (.inr x), a2], .inr x :: sk, h) res := i_aload_n k_52_26 rfl
theorem e_52_27 {o : Nat} {v : Option Nat} : X xs L d 52 (27, lo, .inr v :: .inr (some o) :: sk, h) res ↔ hK h o = 8 ∧ X xs L d 52 (30, lo, sk, sR h o 6 v) res := i_putR k_52_27
theorem e_52_30 {x : Option Nat} {a1 a2 : Option AV} : X xs L d 52 (30, [some (.inr x), a1, a2], sk, h) res ↔ X xs L d 52 (31, [some (.inr x), a1, a2], .inr x :: sk, h) res := i_aload_n k_52_30 rfl
theorem e_52_31 {o : Nat} : X xs L d 52 (31, lo, .inr (some o) :: sk, h) res ↔ hK h o = 8 ∧ X xs L d 52 (34, lo, .inr (hR h o 2) :: sk, h) res := i_getR k_52_31
theorem e_52_34 {o : Nat} (hs : sk.length ≤ 8) : X xs L d 52 (34, lo, .inr (some o) :: sk, h) res ↔ hK h o = 3 ∧ ∃ q : Res, Rn xs L d 7 [.inr (some o)] h q ∧ X xs L d 52 (37, lo, q.1.toList ++ sk, q.2) res := i_callV k_52_34 rfl ⟨Nat.le_add_left 1 sk.length, Nat.le_trans (Nat.add_le_add_right hs 1) (Nat.le_of_eq (Nat.add_comm 8 1))⟩
theorem e_52_37 {x : Option Nat} {a1 a2 : Option AV} : X xs L d 52 (37, [some (.inr x), a1, a2], sk, h) res ↔ X xs L d 52 (38, [some (.inr x), a1, a2], .inr x :: sk, h) res := i_aload_n k_52_37 rfl
theorem e_52_38 {o : Nat} : X xs L d 52 (38, lo, .inr (some o) :: sk, h) res ↔ hK h o = 8 ∧ X xs L d 52 (41, lo, .inr (hR h o 4) :: sk, h) res := i_getR k_52_38
theorem e_52_41 {o : Nat} (hs : sk.length ≤ 8) : X xs L d 52 (41, lo, .inr (some o) :: sk, h) res ↔ hK h o = 5 ∧ ∃ q : Res, Rn xs L d 23 [.inr (some o)] h q ∧ X xs L d 52 (44, lo, q.1.toList ++ sk, q.2) res := i_callV k_52_41 rfl ⟨Nat.le_add_left 1 sk.length, Nat.le_trans (Nat.add_le_add_right hs 1) (Nat.le_of_eq (Nat.add_comm 8 1))⟩
theorem e_52_44 : X xs L d 52 (44, lo, sk, h) res ↔ X xs L d 52 (45, lo, .inl 0 :: sk, h) res := i_iconst k_52_44
theorem e_52_45 {x : Int32} {a0 a1 a2 : Option AV} : X xs L d 52 (45, [a0, a1, a2], .inl x :: sk, h) res ↔ X xs L d 52 (46, [a0, a1, some (.inl x)], sk, h) res := i_istore_n k_52_45 (Nat.le_of_ble_eq_true rfl) rfl
theorem e_52_46 {x : Int32} {a0 a1 : Option AV} : X xs L d 52 (46, [a0, a1, some (.inl x)], sk, h) res ↔ X xs L d 52 (47, [a0, a1, some (.inl x)], .inl x :: sk, h) res := i_iload_n k_52_46 rfl
theorem e_52_47 : X xs L d 52 (47, lo, sk, h) res ↔ X xs L d 52 (49, lo, .inl 40 :: sk, h) res := i_bipush k_52_47
theorem e_52_49 {x y : Int32} : X xs L d 52 (49, lo, .inl y :: .inl x :: sk, h) res ↔ (if y ≤ x then X xs L d 52 (65, lo, sk, h) res else X xs L d 52 (52, lo, sk, h) res) := i_icmp_ge k_52_49
theorem e_52_52 {x : Option Nat} {a1 a2 : Option AV} : X xs L d 52 (52, [some (.inr x), a1, a2], sk, h) res ↔ X xs L d 52 (53, [some (.inr x), a1, a2], .inr x :: sk, h) res := i_aload_n k_52_52 rfl
theorem e_52_53 {o : Nat} : X xs L d 52 (53, lo, .inr (some o) :: sk, h) res ↔ hK h o = 8 ∧ X xs L d 52 (56, lo, .inr (hR h o 5) :: sk, h) res := i_getR k_52_53
theorem e_52_56 {x : Int32} {a0 a1 : Option AV} : X xs L d 52 (56, [a0, a1, some (.inl x)], sk, h) res ↔ X xs L d 52 (57, [a0, a1, some (.inl x)], .inl x :: sk, h) res := i_iload_n k_52_56 rfl
theorem e_52_57 : X xs L d 52 (57, lo, sk, h) res ↔ X xs L d 52 (58, lo, .inr none :: sk, h) res := i_null k_52_57
theorem e_52_58 {o v : Nat} {i : Int32} : X xs L d 52 (58, lo, .inr (some v) :: .inl i :: .inr (some o) :: sk, h) res ↔ ((hK h o = 24 ∧ hK h v = 0) ∧ vp_in i (hL h o)) ∧ X xs L d 52 (59, lo, sk, sR h o i.toNatClampNeg (some v)) res := i_aastore k_52_58
theorem e_52_58N {o : Nat} {i : Int32} : X xs L d 52 (58, lo, .inr none :: .inl i :: .inr (some o) :: sk, h) res ↔ (hK h o = 24 ∧ vp_in i (hL h o)) ∧ X xs L d 52 (59, lo, sk, sR h o i.toNatClampNeg none) res := i_aastoreN k_52_58
theorem e_52_59 {x : Int32} {a0 a1 : Option AV} : X xs L d 52 (59, [a0, a1, some (.inl x)], sk, h) res ↔ X xs L d 52 (62, [a0, a1, some (.inl (x + 1))], sk, h) res := i_iinc k_52_59 rfl rfl
theorem e_52_62 : X xs L d 52 (62, lo, sk, h) res ↔ X xs L d 52 (46, lo, sk, h) res := i_goto k_52_62
theorem e_52_65 {x : Option Nat} {a1 a2 : Option AV} : X xs L d 52 (65, [some (.inr x), a1, a2], sk, h) res ↔ X xs L d 52 (66, [some (.inr x), a1, a2], .inr x :: sk, h) res := i_aload_n k_52_65 rfl
theorem e_52_66 : X xs L d 52 (66, lo, sk, h) res ↔ X xs L d 52 (67, lo, .inl 0 :: sk, h) res := i_iconst k_52_66
theorem e_52_67 {o : Nat} {v : Int32} : X xs L d 52 (67, lo, .inl v :: .inr (some o) :: sk, h) res ↔ (hK h o = 8 ∧ (v = 0 ∨ v = 1)) ∧ X xs L d 52 (70, lo, sk, sI h o 7 v) res := i_putZ k_52_67
theorem e_52_70 {x : Option Nat} {a1 a2 : Option AV} : X xs L d 52 (70, [some (.inr x), a1, a2], sk, h) res ↔ X xs L d 52 (71, [some (.inr x), a1, a2], .inr x :: sk, h) res := i_aload_n k_52_70 rfl
theorem e_52_71 : X xs L d 52 (71, lo, sk, h) res ↔ X xs L d 52 (72, lo, .inl 0 :: sk, h) res := i_iconst k_52_71
theorem e_52_72 {o : Nat} {v : Int32} : X xs L d 52 (72, lo, .inl v :: .inr (some o) :: sk, h) res ↔ hK h o = 8 ∧ X xs L d 52 (75, lo, sk, sI h o 8 v) res := i_putI k_52_72
theorem e_52_75 {x : Option Nat} {a1 a2 : Option AV} : X xs L d 52 (75, [some (.inr x), a1, a2], sk, h) res ↔ X xs L d 52 (76, [some (.inr x), a1, a2], .inr x :: sk, h) res := i_aload_n k_52_75 rfl
theorem e_52_76 {o : Nat} : X xs L d 52 (76, lo, .inr (some o) :: sk, h) res ↔ hK h o = 8 ∧ X xs L d 52 (79, lo, .inr (hR h o 6) :: sk, h) res := i_getR k_52_76
theorem e_52_79 {o : Nat} : X xs L d 52 (79, lo, .inr (some o) :: sk, h) res ↔ hK h o = 4 ∧ X xs L d 52 (82, lo, .inl (hI h o 3) :: sk, h) res := i_getI k_52_79
theorem e_52_82 {v : Int32} : X xs L d 52 (82, lo, [.inl v], h) res ↔ res = (some (.inl v), h) := i_iret k_52_82 rfl
theorem k_53_0 : am_cd 53 0 = some (.aload_n 0, 1, [], [])   := rfl
theorem k_53_1 : am_cd 53 1 = some (.getfield 57, 3, [8, 6, 2], [(0, 234)])   := rfl
theorem k_53_4 : am_cd 53 4 = some (.ifnonnull 5, 3, [9], [])   := rfl
theorem k_53_7 : am_cd 53 7 = some (.iconst (-1), 1, [], [(-1, 0)])   := rfl
theorem k_53_8 : am_cd 53 8 = some (.ireturn, 1, [], [])   := rfl
theorem k_53_9 : am_cd 53 9 = some (.aload_n 0, 1, [], [])   := rfl
theorem k_53_10 : am_cd 53 10 = some (.getfield 36, 3, [8, 4, 2], [(0, 232)])   := rfl
theorem k_53_13 : am_cd 53 13 = some (.invokevirtual 64, 3, [23, 1, 5], [(0, 509), (0, 506), (0, 507)])   := rfl
theorem k_53_16 : am_cd 53 16 = some (.iconst 0, 1, [], [(0, 0)])   := rfl
theorem k_53_17 : am_cd 53 17 = some (.istore_n 1, 1, [], [])   := rfl
theorem k_53_18 : am_cd 53 18 = some (.iload_n 1, 1, [], [])   := rfl
theorem k_53_19 : am_cd 53 19 = some (.bipush 40, 2, [], [(40, 0)])   := rfl
theorem k_53_21 : am_cd 53 21 = some (.if_icmp .ge 28, 3, [49], [])   := rfl
theorem k_53_24 : am_cd 53 24 = some (.aload_n 0, 1, [], [])   := rfl
theorem k_53_25 : am_cd 53 25 = some (.getfield 42, 3, [8, 5, 2], [(0, 233)])   := rfl
theorem k_53_28 : am_cd 53 28 = some (.iload_n 1, 1, [], [])   := rfl
theorem k_53_29 : am_cd 53 29 = some (.aaload, 1, [], [])   := rfl
theorem k_53_30 : am_cd 53 30 = some (.ifnull 13, 3, [43], [])   := rfl
theorem k_53_33 : am_cd 53 33 = some (.aload_n 0, 1, [], [])   := rfl
theorem k_53_34 : am_cd 53 34 = some (.getfield 42, 3, [8, 5, 2], [(0, 233)])   := rfl
theorem k_53_37 : am_cd 53 37 = some (.iload_n 1, 1, [], [])   := rfl
theorem k_53_38 : am_cd 53 38 = some (.aaload, 1, [], [])   := rfl
theorem k_53_39 : am_cd 53 39 = some (.iconst 0, 1, [], [(0, 0)])   := rfl
theorem k_53_40 : am_cd 53 40 = some (.putfield 78, 3, [0, 3, 0], [(0, 600)])   := rfl
theorem k_53_43 : am_cd 53 43 = some (.iinc 1 1, 3, [], [(1, 0)])   := rfl
theorem k_53_46 : am_cd 53 46 = some (.goto (-28), 3, [18], [])   := rfl
theorem k_53_49 : am_cd 53 49 = some (.aload_n 0, 1, [], [])   := rfl
theorem k_53_50 : am_cd 53 50 = some (.getfield 26, 3, [8, 2, 2], [(0, 230)])   := rfl
theorem k_53_53 : am_cd 53 53 = some (.aload_n 0, 1, [], [])   := rfl
theorem k_53_54 : am_cd 53 54 = some (.getfield 57, 3, [8, 6, 2], [(0, 234)])   := rfl
theorem k_53_57 : am_cd 53 57 = some (.invokevirtual 81, 3, [8, 2, 3], [(0, 514), (0, 515), (0, 516)])   := rfl
theorem k_53_60 : am_cd 53 60 = some (.aload_n 0, 1, [], [])   := rfl
theorem k_53_61 : am_cd 53 61 = some (.getfield 26, 3, [8, 2, 2], [(0, 230)])   := rfl
theorem k_53_64 : am_cd 53 64 = some (.getfield 85, 3, [3, 4, 0], [(0, 193)])   := rfl
theorem k_53_67 : am_cd 53 67 = some (.ireturn, 1, [], [])   := rfl
theorem e_53_0 {x : Option Nat} {a1 : Option AV} : X xs L d 53 (0, [some (.inr x), a1], sk, h) res ↔ X xs L d 53 (1, [some (.inr x), a1], .inr x :: sk, h) res := i_aload_n k_53_0 rfl
theorem e_53_1 {o : Nat} : X xs L d 53 (1, lo, .inr (some o) :: sk, h) res ↔ hK h o = 8 ∧ X xs L d 53 (4, lo, .inr (hR h o 6) :: sk, h) res := i_getR k_53_1
theorem e_53_4 {v : Option Nat} : X xs L d 53 (4, lo, .inr v :: sk, h) res ↔ X xs L d 53 (if v = none then 7 else 9, lo, sk, h) res := i_ifnonnull k_53_4
theorem e_53_7 : X xs L d 53 (7, lo, sk, h) res ↔ X xs L d 53 (8, lo, .inl (-1) :: sk, h) res := i_iconst k_53_7
theorem e_53_8 {v : Int32} : X xs L d 53 (8, lo, [.inl v], h) res ↔ res = (some (.inl v), h) := i_iret k_53_8 rfl
theorem e_53_9 {x : Option Nat} {a1 : Option AV} : X xs L d 53 (9, [some (.inr x), a1], sk, h) res ↔ X xs L d 53 (10, [some (.inr x), a1], .inr x :: sk, h) res := i_aload_n k_53_9 rfl
theorem e_53_10 {o : Nat} : X xs L d 53 (10, lo, .inr (some o) :: sk, h) res ↔ hK h o = 8 ∧ X xs L d 53 (13, lo, .inr (hR h o 4) :: sk, h) res := i_getR k_53_10
theorem e_53_13 {o : Nat} (hs : sk.length ≤ 8) : X xs L d 53 (13, lo, .inr (some o) :: sk, h) res ↔ hK h o = 5 ∧ ∃ q : Res, Rn xs L d 23 [.inr (some o)] h q ∧ X xs L d 53 (16, lo, q.1.toList ++ sk, q.2) res := i_callV k_53_13 rfl ⟨Nat.le_add_left 1 sk.length, Nat.le_trans (Nat.add_le_add_right hs 1) (Nat.le_of_eq (Nat.add_comm 8 1))⟩
theorem e_53_16 : X xs L d 53 (16, lo, sk, h) res ↔ X xs L d 53 (17, lo, .inl 0 :: sk, h) res := i_iconst k_53_16
theorem e_53_17 {x : Int32} {a0 a1 : Option AV} : X xs L d 53 (17, [a0, a1], .inl x :: sk, h) res ↔ X xs L d 53 (18, [a0, some (.inl x)], sk, h) res := i_istore_n k_53_17 (Nat.le_of_ble_eq_true rfl) rfl
theorem e_53_18 {x : Int32} {a0 : Option AV} : X xs L d 53 (18, [a0, some (.inl x)], sk, h) res ↔ X xs L d 53 (19, [a0, some (.inl x)], .inl x :: sk, h) res := i_iload_n k_53_18 rfl
theorem e_53_19 : X xs L d 53 (19, lo, sk, h) res ↔ X xs L d 53 (21, lo, .inl 40 :: sk, h) res := i_bipush k_53_19
theorem e_53_21 {x y : Int32} : X xs L d 53 (21, lo, .inl y :: .inl x :: sk, h) res ↔ (if y ≤ x then X xs L d 53 (49, lo, sk, h) res else X xs L d 53 (24, lo, sk, h) res) := i_icmp_ge k_53_21
theorem e_53_24 {x : Option Nat} {a1 : Option AV} : X xs L d 53 (24, [some (.inr x), a1], sk, h) res ↔ X xs L d 53 (25, [some (.inr x), a1], .inr x :: sk, h) res := i_aload_n k_53_24 rfl
theorem e_53_25 {o : Nat} : X xs L d 53 (25, lo, .inr (some o) :: sk, h) res ↔ hK h o = 8 ∧ X xs L d 53 (28, lo, .inr (hR h o 5) :: sk, h) res := i_getR k_53_25
theorem e_53_28 {x : Int32} {a0 : Option AV} : X xs L d 53 (28, [a0, some (.inl x)], sk, h) res ↔ X xs L d 53 (29, [a0, some (.inl x)], .inl x :: sk, h) res := i_iload_n k_53_28 rfl
theorem e_53_29 {o : Nat} {i : Int32} : X xs L d 53 (29, lo, .inl i :: .inr (some o) :: sk, h) res ↔ ((hK h o = 23 ∨ hK h o = 24) ∧ vp_in i (hL h o)) ∧ X xs L d 53 (30, lo, .inr (hR h o i.toNatClampNeg) :: sk, h) res := i_aaload k_53_29
theorem e_53_30 {v : Option Nat} : X xs L d 53 (30, lo, .inr v :: sk, h) res ↔ X xs L d 53 (if v = none then 43 else 33, lo, sk, h) res := i_ifnull k_53_30
theorem e_53_33 {x : Option Nat} {a1 : Option AV} : X xs L d 53 (33, [some (.inr x), a1], sk, h) res ↔ X xs L d 53 (34, [some (.inr x), a1], .inr x :: sk, h) res := i_aload_n k_53_33 rfl
theorem e_53_34 {o : Nat} : X xs L d 53 (34, lo, .inr (some o) :: sk, h) res ↔ hK h o = 8 ∧ X xs L d 53 (37, lo, .inr (hR h o 5) :: sk, h) res := i_getR k_53_34
theorem e_53_37 {x : Int32} {a0 : Option AV} : X xs L d 53 (37, [a0, some (.inl x)], sk, h) res ↔ X xs L d 53 (38, [a0, some (.inl x)], .inl x :: sk, h) res := i_iload_n k_53_37 rfl
theorem e_53_38 {o : Nat} {i : Int32} : X xs L d 53 (38, lo, .inl i :: .inr (some o) :: sk, h) res ↔ ((hK h o = 23 ∨ hK h o = 24) ∧ vp_in i (hL h o)) ∧ X xs L d 53 (39, lo, .inr (hR h o i.toNatClampNeg) :: sk, h) res := i_aaload k_53_38
theorem e_53_39 : X xs L d 53 (39, lo, sk, h) res ↔ X xs L d 53 (40, lo, .inl 0 :: sk, h) res := i_iconst k_53_39
theorem e_53_40 {o : Nat} {v : Int32} : X xs L d 53 (40, lo, .inl v :: .inr (some o) :: sk, h) res ↔ hK h o = 0 ∧ X xs L d 53 (43, lo, sk, sI h o 3 v) res := i_putI k_53_40
theorem e_53_43 {x : Int32} {a0 : Option AV} : X xs L d 53 (43, [a0, some (.inl x)], sk, h) res ↔ X xs L d 53 (46, [a0, some (.inl (x + 1))], sk, h) res := i_iinc k_53_43 rfl rfl
theorem e_53_46 : X xs L d 53 (46, lo, sk, h) res ↔ X xs L d 53 (18, lo, sk, h) res := i_goto k_53_46
theorem e_53_49 {x : Option Nat} {a1 : Option AV} : X xs L d 53 (49, [some (.inr x), a1], sk, h) res ↔ X xs L d 53 (50, [some (.inr x), a1], .inr x :: sk, h) res := i_aload_n k_53_49 rfl
theorem e_53_50 {o : Nat} : X xs L d 53 (50, lo, .inr (some o) :: sk, h) res ↔ hK h o = 8 ∧ X xs L d 53 (53, lo, .inr (hR h o 2) :: sk, h) res := i_getR k_53_50
theorem e_53_53 {x : Option Nat} {a1 : Option AV} : X xs L d 53 (53, [some (.inr x), a1], sk, h) res ↔ X xs L d 53 (54, [some (.inr x), a1], .inr x :: sk, h) res := i_aload_n k_53_53 rfl
theorem e_53_54 {o : Nat} : X xs L d 53 (54, lo, .inr (some o) :: sk, h) res ↔ hK h o = 8 ∧ X xs L d 53 (57, lo, .inr (hR h o 6) :: sk, h) res := i_getR k_53_54
theorem e_53_57 {o : Nat} {v0 : Option Nat} (hs : sk.length ≤ 8) : X xs L d 53 (57, lo, .inr v0 :: .inr (some o) :: sk, h) res ↔ hK h o = 3 ∧ ∃ q : Res, Rn xs L d 8 [.inr (some o), .inr v0] h q ∧ X xs L d 53 (60, lo, q.1.toList ++ sk, q.2) res := i_callV k_53_57 rfl ⟨Nat.le_add_left 2 sk.length, Nat.le_trans (Nat.add_le_add_right hs 2) (Nat.le_of_eq (Nat.add_comm 8 2))⟩
theorem e_53_60 {x : Option Nat} {a1 : Option AV} : X xs L d 53 (60, [some (.inr x), a1], sk, h) res ↔ X xs L d 53 (61, [some (.inr x), a1], .inr x :: sk, h) res := i_aload_n k_53_60 rfl
theorem e_53_61 {o : Nat} : X xs L d 53 (61, lo, .inr (some o) :: sk, h) res ↔ hK h o = 8 ∧ X xs L d 53 (64, lo, .inr (hR h o 2) :: sk, h) res := i_getR k_53_61
theorem e_53_64 {o : Nat} : X xs L d 53 (64, lo, .inr (some o) :: sk, h) res ↔ hK h o = 3 ∧ X xs L d 53 (67, lo, .inl (hI h o 4) :: sk, h) res := i_getI k_53_64
theorem e_53_67 {v : Int32} : X xs L d 53 (67, lo, [.inl v], h) res ↔ res = (some (.inl v), h) := i_iret k_53_67 rfl
theorem k_54_0 : am_cd 54 0 = some (.aload_n 0, 1, [], [])   := rfl
theorem k_54_1 : am_cd 54 1 = some (.getfield 26, 3, [8, 2, 2], [(0, 230)])   := rfl
theorem k_54_4 : am_cd 54 4 = some (.getfield 85, 3, [3, 4, 0], [(0, 193)])   := rfl
theorem k_54_7 : am_cd 54 7 = some (.ireturn, 1, [], [])   := rfl
theorem e_54_0 {x : Option Nat} : X xs L d 54 (0, [some (.inr x)], sk, h) res ↔ X xs L d 54 (1, [some (.inr x)], .inr x :: sk, h) res := i_aload_n k_54_0 rfl
theorem e_54_1 {o : Nat} : X xs L d 54 (1, lo, .inr (some o) :: sk, h) res ↔ hK h o = 8 ∧ X xs L d 54 (4, lo, .inr (hR h o 2) :: sk, h) res := i_getR k_54_1
theorem e_54_4 {o : Nat} : X xs L d 54 (4, lo, .inr (some o) :: sk, h) res ↔ hK h o = 3 ∧ X xs L d 54 (7, lo, .inl (hI h o 4) :: sk, h) res := i_getI k_54_4
theorem e_54_7 {v : Int32} : X xs L d 54 (7, lo, [.inl v], h) res ↔ res = (some (.inl v), h) := i_iret k_54_7 rfl
theorem k_55_0 : am_cd 55 0 = some (.aload_n 0, 1, [], [])   := rfl
theorem k_55_1 : am_cd 55 1 = some (.getfield 26, 3, [8, 2, 2], [(0, 230)])   := rfl
theorem k_55_4 : am_cd 55 4 = some (.getfield 88, 3, [3, 5, 0], [(0, 195)])   := rfl
theorem k_55_7 : am_cd 55 7 = some (.ireturn, 1, [], [])   := rfl
theorem e_55_0 {x : Option Nat} : X xs L d 55 (0, [some (.inr x)], sk, h) res ↔ X xs L d 55 (1, [some (.inr x)], .inr x :: sk, h) res := i_aload_n k_55_0 rfl
theorem e_55_1 {o : Nat} : X xs L d 55 (1, lo, .inr (some o) :: sk, h) res ↔ hK h o = 8 ∧ X xs L d 55 (4, lo, .inr (hR h o 2) :: sk, h) res := i_getR k_55_1
theorem e_55_4 {o : Nat} : X xs L d 55 (4, lo, .inr (some o) :: sk, h) res ↔ hK h o = 3 ∧ X xs L d 55 (7, lo, .inl (hI h o 5) :: sk, h) res := i_getI k_55_4
theorem e_55_7 {v : Int32} : X xs L d 55 (7, lo, [.inl v], h) res ↔ res = (some (.inl v), h) := i_iret k_55_7 rfl
theorem k_56_0 : am_cd 56 0 = some (.aload_n 0, 1, [], [])   := rfl
theorem k_56_1 : am_cd 56 1 = some (.getfield 12, 3, [8, 0, 2], [(0, 228)])   := rfl
theorem k_56_4 : am_cd 56 4 = some (.getfield 91, 3, [6, 1, 0], [(0, 92)])   := rfl
theorem k_56_7 : am_cd 56 7 = some (.ifCond .ne 7, 3, [14], [])   := rfl
theorem k_56_10 : am_cd 56 10 = some (.iconst 1, 1, [], [(1, 0)])   := rfl
theorem k_56_11 : am_cd 56 11 = some (.goto 4, 3, [15], [])   := rfl
theorem k_56_14 : am_cd 56 14 = some (.iconst 0, 1, [], [(0, 0)])   := rfl
theorem k_56_15 : am_cd 56 15 = some (.istore 4, 2, [], [])   := rfl
theorem k_56_17 : am_cd 56 17 = some (.iload 4, 2, [], [])   := rfl
theorem k_56_19 : am_cd 56 19 = some (.ifCond .eq 7, 3, [26], [])   := rfl
theorem k_56_22 : am_cd 56 22 = some (.aconst_null, 1, [], [])   := rfl
theorem k_56_23 : am_cd 56 23 = some (.goto 18, 3, [41], [])   := rfl
theorem k_56_26 : am_cd 56 26 = some (.aload_n 0, 1, [], [])   := rfl
theorem k_56_27 : am_cd 56 27 = some (.getfield 19, 3, [8, 1, 2], [(0, 229)])   := rfl
theorem k_56_30 : am_cd 56 30 = some (.aload_n 0, 1, [], [])   := rfl
theorem k_56_31 : am_cd 56 31 = some (.getfield 12, 3, [8, 0, 2], [(0, 228)])   := rfl
theorem k_56_34 : am_cd 56 34 = some (.aload_n 0, 1, [], [])   := rfl
theorem k_56_35 : am_cd 56 35 = some (.getfield 57, 3, [8, 6, 2], [(0, 234)])   := rfl
theorem k_56_38 : am_cd 56 38 = some (.invokevirtual 94, 3, [30, 3, 7], [(0, 581), (0, 582), (0, 583)])   := rfl
theorem k_56_41 : am_cd 56 41 = some (.astore 5, 2, [], [])   := rfl
theorem k_56_43 : am_cd 56 43 = some (.aload_n 0, 1, [], [])   := rfl
theorem k_56_44 : am_cd 56 44 = some (.getfield 12, 3, [8, 0, 2], [(0, 228)])   := rfl
theorem k_56_47 : am_cd 56 47 = some (.invokevirtual 54, 3, [27, 1, 6], [(0, 497), (0, 498), (0, 499)])   := rfl
theorem k_56_50 : am_cd 56 50 = some (.aload_n 0, 1, [], [])   := rfl
theorem k_56_51 : am_cd 56 51 = some (.iload_n 1, 1, [], [])   := rfl
theorem k_56_52 : am_cd 56 52 = some (.invokevirtual 98, 3, [71, 2, 8], [(0, 585), (0, 587), (0, 25)])   := rfl
theorem k_56_55 : am_cd 56 55 = some (.ifCond .eq 17, 3, [72], [])   := rfl
theorem k_56_58 : am_cd 56 58 = some (.iload_n 2, 1, [], [])   := rfl
theorem k_56_59 : am_cd 56 59 = some (.ifCond .lt 13, 3, [72], [])   := rfl
theorem k_56_62 : am_cd 56 62 = some (.aload 5, 2, [], [])   := rfl
theorem k_56_64 : am_cd 56 64 = some (.ifnonnull 10, 3, [74], [])   := rfl
theorem k_56_67 : am_cd 56 67 = some (.iload 4, 2, [], [])   := rfl
theorem k_56_69 : am_cd 56 69 = some (.ifCond .ne 5, 3, [74], [])   := rfl
theorem k_56_72 : am_cd 56 72 = some (.iconst 0, 1, [], [(0, 0)])   := rfl
theorem k_56_73 : am_cd 56 73 = some (.ireturn, 1, [], [])   := rfl
theorem k_56_74 : am_cd 56 74 = some (.aload_n 0, 1, [], [])   := rfl
theorem k_56_75 : am_cd 56 75 = some (.getfield 42, 3, [8, 5, 2], [(0, 233)])   := rfl
theorem k_56_78 : am_cd 56 78 = some (.iload_n 1, 1, [], [])   := rfl
theorem k_56_79 : am_cd 56 79 = some (.new 40, 3, [0, 4], [(0, 226), (0, 589), (0, 73)])   := rfl
theorem k_56_82 : am_cd 56 82 = some (.dup, 1, [], [])   := rfl
theorem k_56_83 : am_cd 56 83 = some (.aload 5, 2, [], [])   := rfl
theorem k_56_85 : am_cd 56 85 = some (.iload_n 2, 1, [], [])   := rfl
theorem k_56_86 : am_cd 56 86 = some (.iload_n 3, 1, [], [])   := rfl
theorem k_56_87 : am_cd 56 87 = some (.invokespecial 102, 3, [0, 4, 0], [(0, 590), (0, 591)])   := rfl
theorem k_56_90 : am_cd 56 90 = some (.aastore, 1, [24, 0], [])   := rfl
theorem k_56_91 : am_cd 56 91 = some (.iconst 1, 1, [], [(1, 0)])   := rfl
theorem k_56_92 : am_cd 56 92 = some (.ireturn, 1, [], [])   := rfl
theorem e_56_0 {x : Option Nat} {a1 a2 a3 a4 a5 : Option AV} : X xs L d 56 (0, [some (.inr x), a1, a2, a3, a4, a5], sk, h) res ↔ X xs L d 56 (1, [some (.inr x), a1, a2, a3, a4, a5], .inr x :: sk, h) res := i_aload_n k_56_0 rfl
theorem e_56_1 {o : Nat} : X xs L d 56 (1, lo, .inr (some o) :: sk, h) res ↔ hK h o = 8 ∧ X xs L d 56 (4, lo, .inr (hR h o 0) :: sk, h) res := i_getR k_56_1
theorem e_56_4 {o : Nat} : X xs L d 56 (4, lo, .inr (some o) :: sk, h) res ↔ hK h o = 6 ∧ X xs L d 56 (7, lo, .inl (hI h o 1) :: sk, h) res := i_getI k_56_4
theorem e_56_7 {x : Int32} : X xs L d 56 (7, lo, .inl x :: sk, h) res ↔ (if x = 0 then X xs L d 56 (10, lo, sk, h) res else X xs L d 56 (14, lo, sk, h) res) := i_if_ne k_56_7
theorem e_56_10 : X xs L d 56 (10, lo, sk, h) res ↔ X xs L d 56 (11, lo, .inl 1 :: sk, h) res := i_iconst k_56_10
theorem e_56_11 : X xs L d 56 (11, lo, sk, h) res ↔ X xs L d 56 (15, lo, sk, h) res := i_goto k_56_11
theorem e_56_14 : X xs L d 56 (14, lo, sk, h) res ↔ X xs L d 56 (15, lo, .inl 0 :: sk, h) res := i_iconst k_56_14
theorem e_56_15 {x : Int32} {a0 a1 a2 a3 a4 a5 : Option AV} : X xs L d 56 (15, [a0, a1, a2, a3, a4, a5], .inl x :: sk, h) res ↔ X xs L d 56 (17, [a0, a1, a2, a3, some (.inl x), a5], sk, h) res := i_istore k_56_15 (Nat.le_of_ble_eq_true rfl) rfl
theorem e_56_17 {x : Int32} {a0 a1 a2 a3 a5 : Option AV} : X xs L d 56 (17, [a0, a1, a2, a3, some (.inl x), a5], sk, h) res ↔ X xs L d 56 (19, [a0, a1, a2, a3, some (.inl x), a5], .inl x :: sk, h) res := i_iload k_56_17 rfl
theorem e_56_19 {x : Int32} : X xs L d 56 (19, lo, .inl x :: sk, h) res ↔ (if x = 0 then X xs L d 56 (26, lo, sk, h) res else X xs L d 56 (22, lo, sk, h) res) := i_if_eq k_56_19
theorem e_56_22 : X xs L d 56 (22, lo, sk, h) res ↔ X xs L d 56 (23, lo, .inr none :: sk, h) res := i_null k_56_22
theorem e_56_23 : X xs L d 56 (23, lo, sk, h) res ↔ X xs L d 56 (41, lo, sk, h) res := i_goto k_56_23
theorem e_56_26 {x : Option Nat} {a1 a2 a3 a4 a5 : Option AV} : X xs L d 56 (26, [some (.inr x), a1, a2, a3, a4, a5], sk, h) res ↔ X xs L d 56 (27, [some (.inr x), a1, a2, a3, a4, a5], .inr x :: sk, h) res := i_aload_n k_56_26 rfl
theorem e_56_27 {o : Nat} : X xs L d 56 (27, lo, .inr (some o) :: sk, h) res ↔ hK h o = 8 ∧ X xs L d 56 (30, lo, .inr (hR h o 1) :: sk, h) res := i_getR k_56_27
theorem e_56_30 {x : Option Nat} {a1 a2 a3 a4 a5 : Option AV} : X xs L d 56 (30, [some (.inr x), a1, a2, a3, a4, a5], sk, h) res ↔ X xs L d 56 (31, [some (.inr x), a1, a2, a3, a4, a5], .inr x :: sk, h) res := i_aload_n k_56_30 rfl
theorem e_56_31 {o : Nat} : X xs L d 56 (31, lo, .inr (some o) :: sk, h) res ↔ hK h o = 8 ∧ X xs L d 56 (34, lo, .inr (hR h o 0) :: sk, h) res := i_getR k_56_31
theorem e_56_34 {x : Option Nat} {a1 a2 a3 a4 a5 : Option AV} : X xs L d 56 (34, [some (.inr x), a1, a2, a3, a4, a5], sk, h) res ↔ X xs L d 56 (35, [some (.inr x), a1, a2, a3, a4, a5], .inr x :: sk, h) res := i_aload_n k_56_34 rfl
theorem e_56_35 {o : Nat} : X xs L d 56 (35, lo, .inr (some o) :: sk, h) res ↔ hK h o = 8 ∧ X xs L d 56 (38, lo, .inr (hR h o 6) :: sk, h) res := i_getR k_56_35
theorem e_56_38 {o : Nat} {v0 : Option Nat} {v1 : Option Nat} (hs : sk.length ≤ 8) : X xs L d 56 (38, lo, .inr v1 :: .inr v0 :: .inr (some o) :: sk, h) res ↔ hK h o = 7 ∧ ∃ q : Res, Rn xs L d 30 [.inr (some o), .inr v0, .inr v1] h q ∧ X xs L d 56 (41, lo, q.1.toList ++ sk, q.2) res := i_callV k_56_38 rfl ⟨Nat.le_add_left 3 sk.length, Nat.le_trans (Nat.add_le_add_right hs 3) (Nat.le_of_eq (Nat.add_comm 8 3))⟩
theorem e_56_41 {x : Option Nat} {a0 a1 a2 a3 a4 a5 : Option AV} : X xs L d 56 (41, [a0, a1, a2, a3, a4, a5], .inr x :: sk, h) res ↔ X xs L d 56 (43, [a0, a1, a2, a3, a4, some (.inr x)], sk, h) res := i_astore k_56_41 (Nat.le_of_ble_eq_true rfl) rfl
theorem e_56_43 {x : Option Nat} {a1 a2 a3 a4 a5 : Option AV} : X xs L d 56 (43, [some (.inr x), a1, a2, a3, a4, a5], sk, h) res ↔ X xs L d 56 (44, [some (.inr x), a1, a2, a3, a4, a5], .inr x :: sk, h) res := i_aload_n k_56_43 rfl
theorem e_56_44 {o : Nat} : X xs L d 56 (44, lo, .inr (some o) :: sk, h) res ↔ hK h o = 8 ∧ X xs L d 56 (47, lo, .inr (hR h o 0) :: sk, h) res := i_getR k_56_44
theorem e_56_47 {o : Nat} (hs : sk.length ≤ 8) : X xs L d 56 (47, lo, .inr (some o) :: sk, h) res ↔ hK h o = 6 ∧ ∃ q : Res, Rn xs L d 27 [.inr (some o)] h q ∧ X xs L d 56 (50, lo, q.1.toList ++ sk, q.2) res := i_callV k_56_47 rfl ⟨Nat.le_add_left 1 sk.length, Nat.le_trans (Nat.add_le_add_right hs 1) (Nat.le_of_eq (Nat.add_comm 8 1))⟩
theorem e_56_50 {x : Option Nat} {a1 a2 a3 a4 a5 : Option AV} : X xs L d 56 (50, [some (.inr x), a1, a2, a3, a4, a5], sk, h) res ↔ X xs L d 56 (51, [some (.inr x), a1, a2, a3, a4, a5], .inr x :: sk, h) res := i_aload_n k_56_50 rfl
theorem e_56_51 {x : Int32} {a0 a2 a3 a4 a5 : Option AV} : X xs L d 56 (51, [a0, some (.inl x), a2, a3, a4, a5], sk, h) res ↔ X xs L d 56 (52, [a0, some (.inl x), a2, a3, a4, a5], .inl x :: sk, h) res := i_iload_n k_56_51 rfl
theorem e_56_52 {o : Nat} {v0 : Int32} (hs : sk.length ≤ 8) : X xs L d 56 (52, lo, .inl v0 :: .inr (some o) :: sk, h) res ↔ hK h o = 8 ∧ ∃ q : Res, Rn xs L d 71 [.inr (some o), .inl v0] h q ∧ X xs L d 56 (55, lo, q.1.toList ++ sk, q.2) res := i_callV k_56_52 rfl ⟨Nat.le_add_left 2 sk.length, Nat.le_trans (Nat.add_le_add_right hs 2) (Nat.le_of_eq (Nat.add_comm 8 2))⟩
theorem e_56_55 {x : Int32} : X xs L d 56 (55, lo, .inl x :: sk, h) res ↔ (if x = 0 then X xs L d 56 (72, lo, sk, h) res else X xs L d 56 (58, lo, sk, h) res) := i_if_eq k_56_55
theorem e_56_58 {x : Int32} {a0 a1 a3 a4 a5 : Option AV} : X xs L d 56 (58, [a0, a1, some (.inl x), a3, a4, a5], sk, h) res ↔ X xs L d 56 (59, [a0, a1, some (.inl x), a3, a4, a5], .inl x :: sk, h) res := i_iload_n k_56_58 rfl
theorem e_56_59 {x : Int32} : X xs L d 56 (59, lo, .inl x :: sk, h) res ↔ (if x < 0 then X xs L d 56 (72, lo, sk, h) res else X xs L d 56 (62, lo, sk, h) res) := i_if_lt k_56_59
theorem e_56_62 {x : Option Nat} {a0 a1 a2 a3 a4 : Option AV} : X xs L d 56 (62, [a0, a1, a2, a3, a4, some (.inr x)], sk, h) res ↔ X xs L d 56 (64, [a0, a1, a2, a3, a4, some (.inr x)], .inr x :: sk, h) res := i_aload k_56_62 rfl
theorem e_56_64 {v : Option Nat} : X xs L d 56 (64, lo, .inr v :: sk, h) res ↔ X xs L d 56 (if v = none then 67 else 74, lo, sk, h) res := i_ifnonnull k_56_64
theorem e_56_67 {x : Int32} {a0 a1 a2 a3 a5 : Option AV} : X xs L d 56 (67, [a0, a1, a2, a3, some (.inl x), a5], sk, h) res ↔ X xs L d 56 (69, [a0, a1, a2, a3, some (.inl x), a5], .inl x :: sk, h) res := i_iload k_56_67 rfl
theorem e_56_69 {x : Int32} : X xs L d 56 (69, lo, .inl x :: sk, h) res ↔ (if x = 0 then X xs L d 56 (72, lo, sk, h) res else X xs L d 56 (74, lo, sk, h) res) := i_if_ne k_56_69
theorem e_56_72 : X xs L d 56 (72, lo, sk, h) res ↔ X xs L d 56 (73, lo, .inl 0 :: sk, h) res := i_iconst k_56_72
theorem e_56_73 {v : Int32} : X xs L d 56 (73, lo, [.inl v], h) res ↔ (v = 0 ∨ v = 1) ∧ res = (some (.inl v), h) := i_zret k_56_73 rfl
theorem e_56_74 {x : Option Nat} {a1 a2 a3 a4 a5 : Option AV} : X xs L d 56 (74, [some (.inr x), a1, a2, a3, a4, a5], sk, h) res ↔ X xs L d 56 (75, [some (.inr x), a1, a2, a3, a4, a5], .inr x :: sk, h) res := i_aload_n k_56_74 rfl
theorem e_56_75 {o : Nat} : X xs L d 56 (75, lo, .inr (some o) :: sk, h) res ↔ hK h o = 8 ∧ X xs L d 56 (78, lo, .inr (hR h o 5) :: sk, h) res := i_getR k_56_75
theorem e_56_78 {x : Int32} {a0 a2 a3 a4 a5 : Option AV} : X xs L d 56 (78, [a0, some (.inl x), a2, a3, a4, a5], sk, h) res ↔ X xs L d 56 (79, [a0, some (.inl x), a2, a3, a4, a5], .inl x :: sk, h) res := i_iload_n k_56_78 rfl
theorem e_56_79 : X xs L d 56 (79, lo, sk, h) res ↔ X xs L d 56 (82, lo, .inr (some (hN h)) :: sk, nw h 0 0 4) res := i_new k_56_79
theorem e_56_82 {v : AV} : X xs L d 56 (82, lo, v :: sk, h) res ↔ X xs L d 56 (83, lo, v :: v :: sk, h) res := i_dup k_56_82
theorem e_56_83 {x : Option Nat} {a0 a1 a2 a3 a4 : Option AV} : X xs L d 56 (83, [a0, a1, a2, a3, a4, some (.inr x)], sk, h) res ↔ X xs L d 56 (85, [a0, a1, a2, a3, a4, some (.inr x)], .inr x :: sk, h) res := i_aload k_56_83 rfl
theorem e_56_85 {x : Int32} {a0 a1 a3 a4 a5 : Option AV} : X xs L d 56 (85, [a0, a1, some (.inl x), a3, a4, a5], sk, h) res ↔ X xs L d 56 (86, [a0, a1, some (.inl x), a3, a4, a5], .inl x :: sk, h) res := i_iload_n k_56_85 rfl
theorem e_56_86 {x : Int32} {a0 a1 a2 a4 a5 : Option AV} : X xs L d 56 (86, [a0, a1, a2, some (.inl x), a4, a5], sk, h) res ↔ X xs L d 56 (87, [a0, a1, a2, some (.inl x), a4, a5], .inl x :: sk, h) res := i_iload_n k_56_86 rfl
theorem e_56_87 {o : Nat} {v0 : Option Nat} {v1 : Int32} {v2 : Int32} (hs : sk.length ≤ 8) : X xs L d 56 (87, lo, .inl v2 :: .inl v1 :: .inr v0 :: .inr (some o) :: sk, h) res ↔ hK h o = 0 ∧ ∃ q : Res, Rn xs L d 0 [.inr (some o), .inr v0, .inl v1, .inl v2] h q ∧ X xs L d 56 (90, lo, q.1.toList ++ sk, q.2) res := i_callI k_56_87 rfl ⟨Nat.le_add_left 4 sk.length, Nat.le_trans (Nat.add_le_add_right hs 4) (Nat.le_of_eq (Nat.add_comm 8 4))⟩
theorem e_56_90 {o v : Nat} {i : Int32} : X xs L d 56 (90, lo, .inr (some v) :: .inl i :: .inr (some o) :: sk, h) res ↔ ((hK h o = 24 ∧ hK h v = 0) ∧ vp_in i (hL h o)) ∧ X xs L d 56 (91, lo, sk, sR h o i.toNatClampNeg (some v)) res := i_aastore k_56_90
theorem e_56_90N {o : Nat} {i : Int32} : X xs L d 56 (90, lo, .inr none :: .inl i :: .inr (some o) :: sk, h) res ↔ (hK h o = 24 ∧ vp_in i (hL h o)) ∧ X xs L d 56 (91, lo, sk, sR h o i.toNatClampNeg none) res := i_aastoreN k_56_90
theorem e_56_91 : X xs L d 56 (91, lo, sk, h) res ↔ X xs L d 56 (92, lo, .inl 1 :: sk, h) res := i_iconst k_56_91
theorem e_56_92 {v : Int32} : X xs L d 56 (92, lo, [.inl v], h) res ↔ (v = 0 ∨ v = 1) ∧ res = (some (.inl v), h) := i_zret k_56_92 rfl
theorem k_57_0 : am_cd 57 0 = some (.aload_n 0, 1, [], [])   := rfl
theorem k_57_1 : am_cd 57 1 = some (.iload_n 1, 1, [], [])   := rfl
theorem k_57_2 : am_cd 57 2 = some (.invokevirtual 98, 3, [71, 2, 8], [(0, 585), (0, 587), (0, 25)])   := rfl
theorem k_57_5 : am_cd 57 5 = some (.ifCond .eq 12, 3, [17], [])   := rfl
theorem k_57_8 : am_cd 57 8 = some (.aload_n 0, 1, [], [])   := rfl
theorem k_57_9 : am_cd 57 9 = some (.getfield 42, 3, [8, 5, 2], [(0, 233)])   := rfl
theorem k_57_12 : am_cd 57 12 = some (.iload_n 1, 1, [], [])   := rfl
theorem k_57_13 : am_cd 57 13 = some (.aaload, 1, [], [])   := rfl
theorem k_57_14 : am_cd 57 14 = some (.ifnonnull 5, 3, [19], [])   := rfl
theorem k_57_17 : am_cd 57 17 = some (.iconst (-1), 1, [], [(-1, 0)])   := rfl
theorem k_57_18 : am_cd 57 18 = some (.ireturn, 1, [], [])   := rfl
theorem k_57_19 : am_cd 57 19 = some (.aload_n 0, 1, [], [])   := rfl
theorem k_57_20 : am_cd 57 20 = some (.getfield 42, 3, [8, 5, 2], [(0, 233)])   := rfl
theorem k_57_23 : am_cd 57 23 = some (.iload_n 1, 1, [], [])   := rfl
theorem k_57_24 : am_cd 57 24 = some (.aaload, 1, [], [])   := rfl
theorem k_57_25 : am_cd 57 25 = some (.getfield 78, 3, [0, 3, 0], [(0, 600)])   := rfl
theorem k_57_28 : am_cd 57 28 = some (.istore_n 2, 1, [], [])   := rfl
theorem k_57_29 : am_cd 57 29 = some (.aload_n 0, 1, [], [])   := rfl
theorem k_57_30 : am_cd 57 30 = some (.getfield 42, 3, [8, 5, 2], [(0, 233)])   := rfl
theorem k_57_33 : am_cd 57 33 = some (.iload_n 1, 1, [], [])   := rfl
theorem k_57_34 : am_cd 57 34 = some (.aconst_null, 1, [], [])   := rfl
theorem k_57_35 : am_cd 57 35 = some (.aastore, 1, [24, 0], [])   := rfl
theorem k_57_36 : am_cd 57 36 = some (.iload_n 2, 1, [], [])   := rfl
theorem k_57_37 : am_cd 57 37 = some (.ireturn, 1, [], [])   := rfl
theorem e_57_0 {x : Option Nat} {a1 a2 : Option AV} : X xs L d 57 (0, [some (.inr x), a1, a2], sk, h) res ↔ X xs L d 57 (1, [some (.inr x), a1, a2], .inr x :: sk, h) res := i_aload_n k_57_0 rfl
theorem e_57_1 {x : Int32} {a0 a2 : Option AV} : X xs L d 57 (1, [a0, some (.inl x), a2], sk, h) res ↔ X xs L d 57 (2, [a0, some (.inl x), a2], .inl x :: sk, h) res := i_iload_n k_57_1 rfl
theorem e_57_2 {o : Nat} {v0 : Int32} (hs : sk.length ≤ 8) : X xs L d 57 (2, lo, .inl v0 :: .inr (some o) :: sk, h) res ↔ hK h o = 8 ∧ ∃ q : Res, Rn xs L d 71 [.inr (some o), .inl v0] h q ∧ X xs L d 57 (5, lo, q.1.toList ++ sk, q.2) res := i_callV k_57_2 rfl ⟨Nat.le_add_left 2 sk.length, Nat.le_trans (Nat.add_le_add_right hs 2) (Nat.le_of_eq (Nat.add_comm 8 2))⟩
theorem e_57_5 {x : Int32} : X xs L d 57 (5, lo, .inl x :: sk, h) res ↔ (if x = 0 then X xs L d 57 (17, lo, sk, h) res else X xs L d 57 (8, lo, sk, h) res) := i_if_eq k_57_5
theorem e_57_8 {x : Option Nat} {a1 a2 : Option AV} : X xs L d 57 (8, [some (.inr x), a1, a2], sk, h) res ↔ X xs L d 57 (9, [some (.inr x), a1, a2], .inr x :: sk, h) res := i_aload_n k_57_8 rfl
theorem e_57_9 {o : Nat} : X xs L d 57 (9, lo, .inr (some o) :: sk, h) res ↔ hK h o = 8 ∧ X xs L d 57 (12, lo, .inr (hR h o 5) :: sk, h) res := i_getR k_57_9
theorem e_57_12 {x : Int32} {a0 a2 : Option AV} : X xs L d 57 (12, [a0, some (.inl x), a2], sk, h) res ↔ X xs L d 57 (13, [a0, some (.inl x), a2], .inl x :: sk, h) res := i_iload_n k_57_12 rfl
theorem e_57_13 {o : Nat} {i : Int32} : X xs L d 57 (13, lo, .inl i :: .inr (some o) :: sk, h) res ↔ ((hK h o = 23 ∨ hK h o = 24) ∧ vp_in i (hL h o)) ∧ X xs L d 57 (14, lo, .inr (hR h o i.toNatClampNeg) :: sk, h) res := i_aaload k_57_13
theorem e_57_14 {v : Option Nat} : X xs L d 57 (14, lo, .inr v :: sk, h) res ↔ X xs L d 57 (if v = none then 17 else 19, lo, sk, h) res := i_ifnonnull k_57_14
theorem e_57_17 : X xs L d 57 (17, lo, sk, h) res ↔ X xs L d 57 (18, lo, .inl (-1) :: sk, h) res := i_iconst k_57_17
theorem e_57_18 {v : Int32} : X xs L d 57 (18, lo, [.inl v], h) res ↔ res = (some (.inl v), h) := i_iret k_57_18 rfl
theorem e_57_19 {x : Option Nat} {a1 a2 : Option AV} : X xs L d 57 (19, [some (.inr x), a1, a2], sk, h) res ↔ X xs L d 57 (20, [some (.inr x), a1, a2], .inr x :: sk, h) res := i_aload_n k_57_19 rfl
theorem e_57_20 {o : Nat} : X xs L d 57 (20, lo, .inr (some o) :: sk, h) res ↔ hK h o = 8 ∧ X xs L d 57 (23, lo, .inr (hR h o 5) :: sk, h) res := i_getR k_57_20
theorem e_57_23 {x : Int32} {a0 a2 : Option AV} : X xs L d 57 (23, [a0, some (.inl x), a2], sk, h) res ↔ X xs L d 57 (24, [a0, some (.inl x), a2], .inl x :: sk, h) res := i_iload_n k_57_23 rfl
theorem e_57_24 {o : Nat} {i : Int32} : X xs L d 57 (24, lo, .inl i :: .inr (some o) :: sk, h) res ↔ ((hK h o = 23 ∨ hK h o = 24) ∧ vp_in i (hL h o)) ∧ X xs L d 57 (25, lo, .inr (hR h o i.toNatClampNeg) :: sk, h) res := i_aaload k_57_24
theorem e_57_25 {o : Nat} : X xs L d 57 (25, lo, .inr (some o) :: sk, h) res ↔ hK h o = 0 ∧ X xs L d 57 (28, lo, .inl (hI h o 3) :: sk, h) res := i_getI k_57_25
theorem e_57_28 {x : Int32} {a0 a1 a2 : Option AV} : X xs L d 57 (28, [a0, a1, a2], .inl x :: sk, h) res ↔ X xs L d 57 (29, [a0, a1, some (.inl x)], sk, h) res := i_istore_n k_57_28 (Nat.le_of_ble_eq_true rfl) rfl
theorem e_57_29 {x : Option Nat} {a1 a2 : Option AV} : X xs L d 57 (29, [some (.inr x), a1, a2], sk, h) res ↔ X xs L d 57 (30, [some (.inr x), a1, a2], .inr x :: sk, h) res := i_aload_n k_57_29 rfl
theorem e_57_30 {o : Nat} : X xs L d 57 (30, lo, .inr (some o) :: sk, h) res ↔ hK h o = 8 ∧ X xs L d 57 (33, lo, .inr (hR h o 5) :: sk, h) res := i_getR k_57_30
theorem e_57_33 {x : Int32} {a0 a2 : Option AV} : X xs L d 57 (33, [a0, some (.inl x), a2], sk, h) res ↔ X xs L d 57 (34, [a0, some (.inl x), a2], .inl x :: sk, h) res := i_iload_n k_57_33 rfl
theorem e_57_34 : X xs L d 57 (34, lo, sk, h) res ↔ X xs L d 57 (35, lo, .inr none :: sk, h) res := i_null k_57_34
theorem e_57_35 {o v : Nat} {i : Int32} : X xs L d 57 (35, lo, .inr (some v) :: .inl i :: .inr (some o) :: sk, h) res ↔ ((hK h o = 24 ∧ hK h v = 0) ∧ vp_in i (hL h o)) ∧ X xs L d 57 (36, lo, sk, sR h o i.toNatClampNeg (some v)) res := i_aastore k_57_35
theorem e_57_35N {o : Nat} {i : Int32} : X xs L d 57 (35, lo, .inr none :: .inl i :: .inr (some o) :: sk, h) res ↔ (hK h o = 24 ∧ vp_in i (hL h o)) ∧ X xs L d 57 (36, lo, sk, sR h o i.toNatClampNeg none) res := i_aastoreN k_57_35
theorem e_57_36 {x : Int32} {a0 a1 : Option AV} : X xs L d 57 (36, [a0, a1, some (.inl x)], sk, h) res ↔ X xs L d 57 (37, [a0, a1, some (.inl x)], .inl x :: sk, h) res := i_iload_n k_57_36 rfl
theorem e_57_37 {v : Int32} : X xs L d 57 (37, lo, [.inl v], h) res ↔ res = (some (.inl v), h) := i_iret k_57_37 rfl
theorem k_58_0 : am_cd 58 0 = some (.aload_n 0, 1, [], [])   := rfl
theorem k_58_1 : am_cd 58 1 = some (.iload_n 1, 1, [], [])   := rfl
theorem k_58_2 : am_cd 58 2 = some (.invokevirtual 98, 3, [71, 2, 8], [(0, 585), (0, 587), (0, 25)])   := rfl
theorem k_58_5 : am_cd 58 5 = some (.ifCond .eq 24, 3, [29], [])   := rfl
theorem k_58_8 : am_cd 58 8 = some (.aload_n 0, 1, [], [])   := rfl
theorem k_58_9 : am_cd 58 9 = some (.getfield 42, 3, [8, 5, 2], [(0, 233)])   := rfl
theorem k_58_12 : am_cd 58 12 = some (.iload_n 1, 1, [], [])   := rfl
theorem k_58_13 : am_cd 58 13 = some (.aaload, 1, [], [])   := rfl
theorem k_58_14 : am_cd 58 14 = some (.ifnull 15, 3, [29], [])   := rfl
theorem k_58_17 : am_cd 58 17 = some (.aload_n 0, 1, [], [])   := rfl
theorem k_58_18 : am_cd 58 18 = some (.getfield 42, 3, [8, 5, 2], [(0, 233)])   := rfl
theorem k_58_21 : am_cd 58 21 = some (.iload_n 1, 1, [], [])   := rfl
theorem k_58_22 : am_cd 58 22 = some (.aaload, 1, [], [])   := rfl
theorem k_58_23 : am_cd 58 23 = some (.getfield 78, 3, [0, 3, 0], [(0, 600)])   := rfl
theorem k_58_26 : am_cd 58 26 = some (.goto 4, 3, [30], [])   := rfl
theorem k_58_29 : am_cd 58 29 = some (.iconst (-1), 1, [], [(-1, 0)])   := rfl
theorem k_58_30 : am_cd 58 30 = some (.ireturn, 1, [], [])   := rfl
theorem e_58_0 {x : Option Nat} {a1 : Option AV} : X xs L d 58 (0, [some (.inr x), a1], sk, h) res ↔ X xs L d 58 (1, [some (.inr x), a1], .inr x :: sk, h) res := i_aload_n k_58_0 rfl
theorem e_58_1 {x : Int32} {a0 : Option AV} : X xs L d 58 (1, [a0, some (.inl x)], sk, h) res ↔ X xs L d 58 (2, [a0, some (.inl x)], .inl x :: sk, h) res := i_iload_n k_58_1 rfl
theorem e_58_2 {o : Nat} {v0 : Int32} (hs : sk.length ≤ 8) : X xs L d 58 (2, lo, .inl v0 :: .inr (some o) :: sk, h) res ↔ hK h o = 8 ∧ ∃ q : Res, Rn xs L d 71 [.inr (some o), .inl v0] h q ∧ X xs L d 58 (5, lo, q.1.toList ++ sk, q.2) res := i_callV k_58_2 rfl ⟨Nat.le_add_left 2 sk.length, Nat.le_trans (Nat.add_le_add_right hs 2) (Nat.le_of_eq (Nat.add_comm 8 2))⟩
theorem e_58_5 {x : Int32} : X xs L d 58 (5, lo, .inl x :: sk, h) res ↔ (if x = 0 then X xs L d 58 (29, lo, sk, h) res else X xs L d 58 (8, lo, sk, h) res) := i_if_eq k_58_5
theorem e_58_8 {x : Option Nat} {a1 : Option AV} : X xs L d 58 (8, [some (.inr x), a1], sk, h) res ↔ X xs L d 58 (9, [some (.inr x), a1], .inr x :: sk, h) res := i_aload_n k_58_8 rfl
theorem e_58_9 {o : Nat} : X xs L d 58 (9, lo, .inr (some o) :: sk, h) res ↔ hK h o = 8 ∧ X xs L d 58 (12, lo, .inr (hR h o 5) :: sk, h) res := i_getR k_58_9
theorem e_58_12 {x : Int32} {a0 : Option AV} : X xs L d 58 (12, [a0, some (.inl x)], sk, h) res ↔ X xs L d 58 (13, [a0, some (.inl x)], .inl x :: sk, h) res := i_iload_n k_58_12 rfl
theorem e_58_13 {o : Nat} {i : Int32} : X xs L d 58 (13, lo, .inl i :: .inr (some o) :: sk, h) res ↔ ((hK h o = 23 ∨ hK h o = 24) ∧ vp_in i (hL h o)) ∧ X xs L d 58 (14, lo, .inr (hR h o i.toNatClampNeg) :: sk, h) res := i_aaload k_58_13
theorem e_58_14 {v : Option Nat} : X xs L d 58 (14, lo, .inr v :: sk, h) res ↔ X xs L d 58 (if v = none then 29 else 17, lo, sk, h) res := i_ifnull k_58_14
theorem e_58_17 {x : Option Nat} {a1 : Option AV} : X xs L d 58 (17, [some (.inr x), a1], sk, h) res ↔ X xs L d 58 (18, [some (.inr x), a1], .inr x :: sk, h) res := i_aload_n k_58_17 rfl
theorem e_58_18 {o : Nat} : X xs L d 58 (18, lo, .inr (some o) :: sk, h) res ↔ hK h o = 8 ∧ X xs L d 58 (21, lo, .inr (hR h o 5) :: sk, h) res := i_getR k_58_18
theorem e_58_21 {x : Int32} {a0 : Option AV} : X xs L d 58 (21, [a0, some (.inl x)], sk, h) res ↔ X xs L d 58 (22, [a0, some (.inl x)], .inl x :: sk, h) res := i_iload_n k_58_21 rfl
theorem e_58_22 {o : Nat} {i : Int32} : X xs L d 58 (22, lo, .inl i :: .inr (some o) :: sk, h) res ↔ ((hK h o = 23 ∨ hK h o = 24) ∧ vp_in i (hL h o)) ∧ X xs L d 58 (23, lo, .inr (hR h o i.toNatClampNeg) :: sk, h) res := i_aaload k_58_22
theorem e_58_23 {o : Nat} : X xs L d 58 (23, lo, .inr (some o) :: sk, h) res ↔ hK h o = 0 ∧ X xs L d 58 (26, lo, .inl (hI h o 3) :: sk, h) res := i_getI k_58_23
theorem e_58_26 : X xs L d 58 (26, lo, sk, h) res ↔ X xs L d 58 (30, lo, sk, h) res := i_goto k_58_26
theorem e_58_29 : X xs L d 58 (29, lo, sk, h) res ↔ X xs L d 58 (30, lo, .inl (-1) :: sk, h) res := i_iconst k_58_29
theorem e_58_30 {v : Int32} : X xs L d 58 (30, lo, [.inl v], h) res ↔ res = (some (.inl v), h) := i_iret k_58_30 rfl
theorem k_59_0 : am_cd 59 0 = some (.aload_n 0, 1, [], [])   := rfl
theorem k_59_1 : am_cd 59 1 = some (.iload_n 1, 1, [], [])   := rfl
theorem k_59_2 : am_cd 59 2 = some (.putfield 65, 3, [8, 7, 1], [(0, 235)])   := rfl
theorem k_59_5 : am_cd 59 5 = some (.return_, 1, [], [])   := rfl
theorem e_59_0 {x : Option Nat} {a1 : Option AV} : X xs L d 59 (0, [some (.inr x), a1], sk, h) res ↔ X xs L d 59 (1, [some (.inr x), a1], .inr x :: sk, h) res := i_aload_n k_59_0 rfl
theorem e_59_1 {x : Int32} {a0 : Option AV} : X xs L d 59 (1, [a0, some (.inl x)], sk, h) res ↔ X xs L d 59 (2, [a0, some (.inl x)], .inl x :: sk, h) res := i_iload_n k_59_1 rfl
theorem e_59_2 {o : Nat} {v : Int32} : X xs L d 59 (2, lo, .inl v :: .inr (some o) :: sk, h) res ↔ (hK h o = 8 ∧ (v = 0 ∨ v = 1)) ∧ X xs L d 59 (5, lo, sk, sI h o 7 v) res := i_putZ k_59_2
theorem e_59_5 : X xs L d 59 (5, lo, [], h) res ↔ res = (none, h) := i_vret k_59_5 rfl
theorem k_60_0 : am_cd 60 0 = some (.iload_n 1, 1, [], [])   := rfl
theorem k_60_1 : am_cd 60 1 = some (.ifCond .lt 30, 3, [31], [])   := rfl
theorem k_60_4 : am_cd 60 4 = some (.iload_n 1, 1, [], [])   := rfl
theorem k_60_5 : am_cd 60 5 = some (.iconst 3, 1, [], [(3, 0)])   := rfl
theorem k_60_6 : am_cd 60 6 = some (.if_icmp .gt 25, 3, [31], [])   := rfl
theorem k_60_9 : am_cd 60 9 = some (.iload_n 2, 1, [], [])   := rfl
theorem k_60_10 : am_cd 60 10 = some (.iconst 1, 1, [], [(1, 0)])   := rfl
theorem k_60_11 : am_cd 60 11 = some (.if_icmp .lt 20, 3, [31], [])   := rfl
theorem k_60_14 : am_cd 60 14 = some (.iload_n 2, 1, [], [])   := rfl
theorem k_60_15 : am_cd 60 15 = some (.bipush 50, 2, [], [(50, 0)])   := rfl
theorem k_60_17 : am_cd 60 17 = some (.if_icmp .gt 14, 3, [31], [])   := rfl
theorem k_60_20 : am_cd 60 20 = some (.aload_n 0, 1, [], [])   := rfl
theorem k_60_21 : am_cd 60 21 = some (.getfield 26, 3, [8, 2, 2], [(0, 230)])   := rfl
theorem k_60_24 : am_cd 60 24 = some (.getfield 85, 3, [3, 4, 0], [(0, 193)])   := rfl
theorem k_60_27 : am_cd 60 27 = some (.iconst 1, 1, [], [(1, 0)])   := rfl
theorem k_60_28 : am_cd 60 28 = some (.if_icmp .eq 5, 3, [33], [])   := rfl
theorem k_60_31 : am_cd 60 31 = some (.iconst (-1), 1, [], [(-1, 0)])   := rfl
theorem k_60_32 : am_cd 60 32 = some (.ireturn, 1, [], [])   := rfl
theorem k_60_33 : am_cd 60 33 = some (.aload_n 0, 1, [], [])   := rfl
theorem k_60_34 : am_cd 60 34 = some (.getfield 26, 3, [8, 2, 2], [(0, 230)])   := rfl
theorem k_60_37 : am_cd 60 37 = some (.getfield 105, 3, [3, 6, 0], [(0, 197)])   := rfl
theorem k_60_40 : am_cd 60 40 = some (.istore_n 3, 1, [], [])   := rfl
theorem k_60_41 : am_cd 60 41 = some (.iconst 0, 1, [], [(0, 0)])   := rfl
theorem k_60_42 : am_cd 60 42 = some (.istore 4, 2, [], [])   := rfl
theorem k_60_44 : am_cd 60 44 = some (.iconst 0, 1, [], [(0, 0)])   := rfl
theorem k_60_45 : am_cd 60 45 = some (.istore 5, 2, [], [])   := rfl
theorem k_60_47 : am_cd 60 47 = some (.iload 5, 2, [], [])   := rfl
theorem k_60_49 : am_cd 60 49 = some (.iload_n 2, 1, [], [])   := rfl
theorem k_60_50 : am_cd 60 50 = some (.if_icmp .ge 37, 3, [87], [])   := rfl
theorem k_60_53 : am_cd 60 53 = some (.iload 4, 2, [], [])   := rfl
theorem k_60_55 : am_cd 60 55 = some (.ifCond .ne 32, 3, [87], [])   := rfl
theorem k_60_58 : am_cd 60 58 = some (.aload_n 0, 1, [], [])   := rfl
theorem k_60_59 : am_cd 60 59 = some (.getfield 26, 3, [8, 2, 2], [(0, 230)])   := rfl
theorem k_60_62 : am_cd 60 62 = some (.invokevirtual 108, 3, [9, 1, 3], [(0, 626), (0, 627), (0, 628)])   := rfl
theorem k_60_65 : am_cd 60 65 = some (.aload_n 0, 1, [], [])   := rfl
theorem k_60_66 : am_cd 60 66 = some (.invokevirtual 111, 3, [74, 1, 8], [(0, 630), (0, 632), (0, 26)])   := rfl
theorem k_60_69 : am_cd 60 69 = some (.istore 6, 2, [], [])   := rfl
theorem k_60_71 : am_cd 60 71 = some (.aload_n 0, 1, [], [])   := rfl
theorem k_60_72 : am_cd 60 72 = some (.iload_n 1, 1, [], [])   := rfl
theorem k_60_73 : am_cd 60 73 = some (.iload_n 3, 1, [], [])   := rfl
theorem k_60_74 : am_cd 60 74 = some (.iload 6, 2, [], [])   := rfl
theorem k_60_76 : am_cd 60 76 = some (.invokevirtual 115, 3, [72, 4, 8], [(0, 644), (0, 646), (0, 27)])   := rfl
theorem k_60_79 : am_cd 60 79 = some (.istore 4, 2, [], [])   := rfl
theorem k_60_81 : am_cd 60 81 = some (.iinc 5 1, 3, [], [(1, 0)])   := rfl
theorem k_60_84 : am_cd 60 84 = some (.goto (-37), 3, [47], [])   := rfl
theorem k_60_87 : am_cd 60 87 = some (.iload 4, 2, [], [])   := rfl
theorem k_60_89 : am_cd 60 89 = some (.ireturn, 1, [], [])   := rfl
theorem e_60_0 {x : Int32} {a0 a2 a3 a4 a5 a6 : Option AV} : X xs L d 60 (0, [a0, some (.inl x), a2, a3, a4, a5, a6], sk, h) res ↔ X xs L d 60 (1, [a0, some (.inl x), a2, a3, a4, a5, a6], .inl x :: sk, h) res := i_iload_n k_60_0 rfl
theorem e_60_1 {x : Int32} : X xs L d 60 (1, lo, .inl x :: sk, h) res ↔ (if x < 0 then X xs L d 60 (31, lo, sk, h) res else X xs L d 60 (4, lo, sk, h) res) := i_if_lt k_60_1
theorem e_60_4 {x : Int32} {a0 a2 a3 a4 a5 a6 : Option AV} : X xs L d 60 (4, [a0, some (.inl x), a2, a3, a4, a5, a6], sk, h) res ↔ X xs L d 60 (5, [a0, some (.inl x), a2, a3, a4, a5, a6], .inl x :: sk, h) res := i_iload_n k_60_4 rfl
theorem e_60_5 : X xs L d 60 (5, lo, sk, h) res ↔ X xs L d 60 (6, lo, .inl 3 :: sk, h) res := i_iconst k_60_5
theorem e_60_6 {x y : Int32} : X xs L d 60 (6, lo, .inl y :: .inl x :: sk, h) res ↔ (if y < x then X xs L d 60 (31, lo, sk, h) res else X xs L d 60 (9, lo, sk, h) res) := i_icmp_gt k_60_6
theorem e_60_9 {x : Int32} {a0 a1 a3 a4 a5 a6 : Option AV} : X xs L d 60 (9, [a0, a1, some (.inl x), a3, a4, a5, a6], sk, h) res ↔ X xs L d 60 (10, [a0, a1, some (.inl x), a3, a4, a5, a6], .inl x :: sk, h) res := i_iload_n k_60_9 rfl
theorem e_60_10 : X xs L d 60 (10, lo, sk, h) res ↔ X xs L d 60 (11, lo, .inl 1 :: sk, h) res := i_iconst k_60_10
theorem e_60_11 {x y : Int32} : X xs L d 60 (11, lo, .inl y :: .inl x :: sk, h) res ↔ (if x < y then X xs L d 60 (31, lo, sk, h) res else X xs L d 60 (14, lo, sk, h) res) := i_icmp_lt k_60_11
theorem e_60_14 {x : Int32} {a0 a1 a3 a4 a5 a6 : Option AV} : X xs L d 60 (14, [a0, a1, some (.inl x), a3, a4, a5, a6], sk, h) res ↔ X xs L d 60 (15, [a0, a1, some (.inl x), a3, a4, a5, a6], .inl x :: sk, h) res := i_iload_n k_60_14 rfl
theorem e_60_15 : X xs L d 60 (15, lo, sk, h) res ↔ X xs L d 60 (17, lo, .inl 50 :: sk, h) res := i_bipush k_60_15
theorem e_60_17 {x y : Int32} : X xs L d 60 (17, lo, .inl y :: .inl x :: sk, h) res ↔ (if y < x then X xs L d 60 (31, lo, sk, h) res else X xs L d 60 (20, lo, sk, h) res) := i_icmp_gt k_60_17
theorem e_60_20 {x : Option Nat} {a1 a2 a3 a4 a5 a6 : Option AV} : X xs L d 60 (20, [some (.inr x), a1, a2, a3, a4, a5, a6], sk, h) res ↔ X xs L d 60 (21, [some (.inr x), a1, a2, a3, a4, a5, a6], .inr x :: sk, h) res := i_aload_n k_60_20 rfl
theorem e_60_21 {o : Nat} : X xs L d 60 (21, lo, .inr (some o) :: sk, h) res ↔ hK h o = 8 ∧ X xs L d 60 (24, lo, .inr (hR h o 2) :: sk, h) res := i_getR k_60_21
theorem e_60_24 {o : Nat} : X xs L d 60 (24, lo, .inr (some o) :: sk, h) res ↔ hK h o = 3 ∧ X xs L d 60 (27, lo, .inl (hI h o 4) :: sk, h) res := i_getI k_60_24
theorem e_60_27 : X xs L d 60 (27, lo, sk, h) res ↔ X xs L d 60 (28, lo, .inl 1 :: sk, h) res := i_iconst k_60_27
theorem e_60_28 {x y : Int32} : X xs L d 60 (28, lo, .inl y :: .inl x :: sk, h) res ↔ (if x = y then X xs L d 60 (33, lo, sk, h) res else X xs L d 60 (31, lo, sk, h) res) := i_icmp_eq k_60_28
theorem e_60_31 : X xs L d 60 (31, lo, sk, h) res ↔ X xs L d 60 (32, lo, .inl (-1) :: sk, h) res := i_iconst k_60_31
theorem e_60_32 {v : Int32} : X xs L d 60 (32, lo, [.inl v], h) res ↔ res = (some (.inl v), h) := i_iret k_60_32 rfl
theorem e_60_33 {x : Option Nat} {a1 a2 a3 a4 a5 a6 : Option AV} : X xs L d 60 (33, [some (.inr x), a1, a2, a3, a4, a5, a6], sk, h) res ↔ X xs L d 60 (34, [some (.inr x), a1, a2, a3, a4, a5, a6], .inr x :: sk, h) res := i_aload_n k_60_33 rfl
theorem e_60_34 {o : Nat} : X xs L d 60 (34, lo, .inr (some o) :: sk, h) res ↔ hK h o = 8 ∧ X xs L d 60 (37, lo, .inr (hR h o 2) :: sk, h) res := i_getR k_60_34
theorem e_60_37 {o : Nat} : X xs L d 60 (37, lo, .inr (some o) :: sk, h) res ↔ hK h o = 3 ∧ X xs L d 60 (40, lo, .inl (hI h o 6) :: sk, h) res := i_getI k_60_37
theorem e_60_40 {x : Int32} {a0 a1 a2 a3 a4 a5 a6 : Option AV} : X xs L d 60 (40, [a0, a1, a2, a3, a4, a5, a6], .inl x :: sk, h) res ↔ X xs L d 60 (41, [a0, a1, a2, some (.inl x), a4, a5, a6], sk, h) res := i_istore_n k_60_40 (Nat.le_of_ble_eq_true rfl) rfl
theorem e_60_41 : X xs L d 60 (41, lo, sk, h) res ↔ X xs L d 60 (42, lo, .inl 0 :: sk, h) res := i_iconst k_60_41
theorem e_60_42 {x : Int32} {a0 a1 a2 a3 a4 a5 a6 : Option AV} : X xs L d 60 (42, [a0, a1, a2, a3, a4, a5, a6], .inl x :: sk, h) res ↔ X xs L d 60 (44, [a0, a1, a2, a3, some (.inl x), a5, a6], sk, h) res := i_istore k_60_42 (Nat.le_of_ble_eq_true rfl) rfl
theorem e_60_44 : X xs L d 60 (44, lo, sk, h) res ↔ X xs L d 60 (45, lo, .inl 0 :: sk, h) res := i_iconst k_60_44
theorem e_60_45 {x : Int32} {a0 a1 a2 a3 a4 a5 a6 : Option AV} : X xs L d 60 (45, [a0, a1, a2, a3, a4, a5, a6], .inl x :: sk, h) res ↔ X xs L d 60 (47, [a0, a1, a2, a3, a4, some (.inl x), a6], sk, h) res := i_istore k_60_45 (Nat.le_of_ble_eq_true rfl) rfl
theorem e_60_47 {x : Int32} {a0 a1 a2 a3 a4 a6 : Option AV} : X xs L d 60 (47, [a0, a1, a2, a3, a4, some (.inl x), a6], sk, h) res ↔ X xs L d 60 (49, [a0, a1, a2, a3, a4, some (.inl x), a6], .inl x :: sk, h) res := i_iload k_60_47 rfl
theorem e_60_49 {x : Int32} {a0 a1 a3 a4 a5 a6 : Option AV} : X xs L d 60 (49, [a0, a1, some (.inl x), a3, a4, a5, a6], sk, h) res ↔ X xs L d 60 (50, [a0, a1, some (.inl x), a3, a4, a5, a6], .inl x :: sk, h) res := i_iload_n k_60_49 rfl
theorem e_60_50 {x y : Int32} : X xs L d 60 (50, lo, .inl y :: .inl x :: sk, h) res ↔ (if y ≤ x then X xs L d 60 (87, lo, sk, h) res else X xs L d 60 (53, lo, sk, h) res) := i_icmp_ge k_60_50
theorem e_60_53 {x : Int32} {a0 a1 a2 a3 a5 a6 : Option AV} : X xs L d 60 (53, [a0, a1, a2, a3, some (.inl x), a5, a6], sk, h) res ↔ X xs L d 60 (55, [a0, a1, a2, a3, some (.inl x), a5, a6], .inl x :: sk, h) res := i_iload k_60_53 rfl
theorem e_60_55 {x : Int32} : X xs L d 60 (55, lo, .inl x :: sk, h) res ↔ (if x = 0 then X xs L d 60 (58, lo, sk, h) res else X xs L d 60 (87, lo, sk, h) res) := i_if_ne k_60_55
theorem e_60_58 {x : Option Nat} {a1 a2 a3 a4 a5 a6 : Option AV} : X xs L d 60 (58, [some (.inr x), a1, a2, a3, a4, a5, a6], sk, h) res ↔ X xs L d 60 (59, [some (.inr x), a1, a2, a3, a4, a5, a6], .inr x :: sk, h) res := i_aload_n k_60_58 rfl
theorem e_60_59 {o : Nat} : X xs L d 60 (59, lo, .inr (some o) :: sk, h) res ↔ hK h o = 8 ∧ X xs L d 60 (62, lo, .inr (hR h o 2) :: sk, h) res := i_getR k_60_59
theorem e_60_62 {o : Nat} (hs : sk.length ≤ 8) : X xs L d 60 (62, lo, .inr (some o) :: sk, h) res ↔ hK h o = 3 ∧ ∃ q : Res, Rn xs L d 9 [.inr (some o)] h q ∧ X xs L d 60 (65, lo, q.1.toList ++ sk, q.2) res := i_callV k_60_62 rfl ⟨Nat.le_add_left 1 sk.length, Nat.le_trans (Nat.add_le_add_right hs 1) (Nat.le_of_eq (Nat.add_comm 8 1))⟩
theorem e_60_65 {x : Option Nat} {a1 a2 a3 a4 a5 a6 : Option AV} : X xs L d 60 (65, [some (.inr x), a1, a2, a3, a4, a5, a6], sk, h) res ↔ X xs L d 60 (66, [some (.inr x), a1, a2, a3, a4, a5, a6], .inr x :: sk, h) res := i_aload_n k_60_65 rfl
theorem e_60_66 {o : Nat} (hs : sk.length ≤ 8) : X xs L d 60 (66, lo, .inr (some o) :: sk, h) res ↔ hK h o = 8 ∧ ∃ q : Res, Rn xs L d 74 [.inr (some o)] h q ∧ X xs L d 60 (69, lo, q.1.toList ++ sk, q.2) res := i_callV k_60_66 rfl ⟨Nat.le_add_left 1 sk.length, Nat.le_trans (Nat.add_le_add_right hs 1) (Nat.le_of_eq (Nat.add_comm 8 1))⟩
theorem e_60_69 {x : Int32} {a0 a1 a2 a3 a4 a5 a6 : Option AV} : X xs L d 60 (69, [a0, a1, a2, a3, a4, a5, a6], .inl x :: sk, h) res ↔ X xs L d 60 (71, [a0, a1, a2, a3, a4, a5, some (.inl x)], sk, h) res := i_istore k_60_69 (Nat.le_of_ble_eq_true rfl) rfl
theorem e_60_71 {x : Option Nat} {a1 a2 a3 a4 a5 a6 : Option AV} : X xs L d 60 (71, [some (.inr x), a1, a2, a3, a4, a5, a6], sk, h) res ↔ X xs L d 60 (72, [some (.inr x), a1, a2, a3, a4, a5, a6], .inr x :: sk, h) res := i_aload_n k_60_71 rfl
theorem e_60_72 {x : Int32} {a0 a2 a3 a4 a5 a6 : Option AV} : X xs L d 60 (72, [a0, some (.inl x), a2, a3, a4, a5, a6], sk, h) res ↔ X xs L d 60 (73, [a0, some (.inl x), a2, a3, a4, a5, a6], .inl x :: sk, h) res := i_iload_n k_60_72 rfl
theorem e_60_73 {x : Int32} {a0 a1 a2 a4 a5 a6 : Option AV} : X xs L d 60 (73, [a0, a1, a2, some (.inl x), a4, a5, a6], sk, h) res ↔ X xs L d 60 (74, [a0, a1, a2, some (.inl x), a4, a5, a6], .inl x :: sk, h) res := i_iload_n k_60_73 rfl
theorem e_60_74 {x : Int32} {a0 a1 a2 a3 a4 a5 : Option AV} : X xs L d 60 (74, [a0, a1, a2, a3, a4, a5, some (.inl x)], sk, h) res ↔ X xs L d 60 (76, [a0, a1, a2, a3, a4, a5, some (.inl x)], .inl x :: sk, h) res := i_iload k_60_74 rfl
theorem e_60_76 {o : Nat} {v0 : Int32} {v1 : Int32} {v2 : Int32} (hs : sk.length ≤ 8) : X xs L d 60 (76, lo, .inl v2 :: .inl v1 :: .inl v0 :: .inr (some o) :: sk, h) res ↔ hK h o = 8 ∧ ∃ q : Res, Rn xs L d 72 [.inr (some o), .inl v0, .inl v1, .inl v2] h q ∧ X xs L d 60 (79, lo, q.1.toList ++ sk, q.2) res := i_callV k_60_76 rfl ⟨Nat.le_add_left 4 sk.length, Nat.le_trans (Nat.add_le_add_right hs 4) (Nat.le_of_eq (Nat.add_comm 8 4))⟩
theorem e_60_79 {x : Int32} {a0 a1 a2 a3 a4 a5 a6 : Option AV} : X xs L d 60 (79, [a0, a1, a2, a3, a4, a5, a6], .inl x :: sk, h) res ↔ X xs L d 60 (81, [a0, a1, a2, a3, some (.inl x), a5, a6], sk, h) res := i_istore k_60_79 (Nat.le_of_ble_eq_true rfl) rfl
theorem e_60_81 {x : Int32} {a0 a1 a2 a3 a4 a6 : Option AV} : X xs L d 60 (81, [a0, a1, a2, a3, a4, some (.inl x), a6], sk, h) res ↔ X xs L d 60 (84, [a0, a1, a2, a3, a4, some (.inl (x + 1)), a6], sk, h) res := i_iinc k_60_81 rfl rfl
theorem e_60_84 : X xs L d 60 (84, lo, sk, h) res ↔ X xs L d 60 (47, lo, sk, h) res := i_goto k_60_84
theorem e_60_87 {x : Int32} {a0 a1 a2 a3 a5 a6 : Option AV} : X xs L d 60 (87, [a0, a1, a2, a3, some (.inl x), a5, a6], sk, h) res ↔ X xs L d 60 (89, [a0, a1, a2, a3, some (.inl x), a5, a6], .inl x :: sk, h) res := i_iload k_60_87 rfl
theorem e_60_89 {v : Int32} : X xs L d 60 (89, lo, [.inl v], h) res ↔ res = (some (.inl v), h) := i_iret k_60_89 rfl
theorem k_61_0 : am_cd 61 0 = some (.aload_n 0, 1, [], [])   := rfl
theorem k_61_1 : am_cd 61 1 = some (.getfield 26, 3, [8, 2, 2], [(0, 230)])   := rfl
theorem k_61_4 : am_cd 61 4 = some (.getfield 119, 3, [3, 8, 0], [(0, 200)])   := rfl
theorem k_61_7 : am_cd 61 7 = some (.ireturn, 1, [], [])   := rfl
theorem e_61_0 {x : Option Nat} : X xs L d 61 (0, [some (.inr x)], sk, h) res ↔ X xs L d 61 (1, [some (.inr x)], .inr x :: sk, h) res := i_aload_n k_61_0 rfl
theorem e_61_1 {o : Nat} : X xs L d 61 (1, lo, .inr (some o) :: sk, h) res ↔ hK h o = 8 ∧ X xs L d 61 (4, lo, .inr (hR h o 2) :: sk, h) res := i_getR k_61_1
theorem e_61_4 {o : Nat} : X xs L d 61 (4, lo, .inr (some o) :: sk, h) res ↔ hK h o = 3 ∧ X xs L d 61 (7, lo, .inl (hI h o 8) :: sk, h) res := i_getI k_61_4
theorem e_61_7 {v : Int32} : X xs L d 61 (7, lo, [.inl v], h) res ↔ res = (some (.inl v), h) := i_iret k_61_7 rfl
theorem k_62_0 : am_cd 62 0 = some (.aload_n 0, 1, [], [])   := rfl
theorem k_62_1 : am_cd 62 1 = some (.getfield 26, 3, [8, 2, 2], [(0, 230)])   := rfl
theorem k_62_4 : am_cd 62 4 = some (.getfield 105, 3, [3, 6, 0], [(0, 197)])   := rfl
theorem k_62_7 : am_cd 62 7 = some (.ireturn, 1, [], [])   := rfl
theorem e_62_0 {x : Option Nat} : X xs L d 62 (0, [some (.inr x)], sk, h) res ↔ X xs L d 62 (1, [some (.inr x)], .inr x :: sk, h) res := i_aload_n k_62_0 rfl
theorem e_62_1 {o : Nat} : X xs L d 62 (1, lo, .inr (some o) :: sk, h) res ↔ hK h o = 8 ∧ X xs L d 62 (4, lo, .inr (hR h o 2) :: sk, h) res := i_getR k_62_1
theorem e_62_4 {o : Nat} : X xs L d 62 (4, lo, .inr (some o) :: sk, h) res ↔ hK h o = 3 ∧ X xs L d 62 (7, lo, .inl (hI h o 6) :: sk, h) res := i_getI k_62_4
theorem e_62_7 {v : Int32} : X xs L d 62 (7, lo, [.inl v], h) res ↔ res = (some (.inl v), h) := i_iret k_62_7 rfl
theorem k_63_0 : am_cd 63 0 = some (.aload_n 0, 1, [], [])   := rfl
theorem k_63_1 : am_cd 63 1 = some (.getfield 26, 3, [8, 2, 2], [(0, 230)])   := rfl
theorem k_63_4 : am_cd 63 4 = some (.iload_n 1, 1, [], [])   := rfl
theorem k_63_5 : am_cd 63 5 = some (.invokevirtual 122, 3, [11, 2, 3], [(0, 634), (0, 635), (0, 636)])   := rfl
theorem k_63_8 : am_cd 63 8 = some (.astore_n 2, 1, [], [])   := rfl
theorem k_63_9 : am_cd 63 9 = some (.aload_n 2, 1, [], [])   := rfl
theorem k_63_10 : am_cd 63 10 = some (.ifnonnull 7, 3, [17], [])   := rfl
theorem k_63_13 : am_cd 63 13 = some (.iconst (-1), 1, [], [(-1, 0)])   := rfl
theorem k_63_14 : am_cd 63 14 = some (.goto 7, 3, [21], [])   := rfl
theorem k_63_17 : am_cd 63 17 = some (.aload_n 2, 1, [], [])   := rfl
theorem k_63_18 : am_cd 63 18 = some (.getfield 126, 3, [2, 5, 0], [(0, 160)])   := rfl
theorem k_63_21 : am_cd 63 21 = some (.ireturn, 1, [], [])   := rfl
theorem e_63_0 {x : Option Nat} {a1 a2 : Option AV} : X xs L d 63 (0, [some (.inr x), a1, a2], sk, h) res ↔ X xs L d 63 (1, [some (.inr x), a1, a2], .inr x :: sk, h) res := i_aload_n k_63_0 rfl
theorem e_63_1 {o : Nat} : X xs L d 63 (1, lo, .inr (some o) :: sk, h) res ↔ hK h o = 8 ∧ X xs L d 63 (4, lo, .inr (hR h o 2) :: sk, h) res := i_getR k_63_1
theorem e_63_4 {x : Int32} {a0 a2 : Option AV} : X xs L d 63 (4, [a0, some (.inl x), a2], sk, h) res ↔ X xs L d 63 (5, [a0, some (.inl x), a2], .inl x :: sk, h) res := i_iload_n k_63_4 rfl
theorem e_63_5 {o : Nat} {v0 : Int32} (hs : sk.length ≤ 8) : X xs L d 63 (5, lo, .inl v0 :: .inr (some o) :: sk, h) res ↔ hK h o = 3 ∧ ∃ q : Res, Rn xs L d 11 [.inr (some o), .inl v0] h q ∧ X xs L d 63 (8, lo, q.1.toList ++ sk, q.2) res := i_callV k_63_5 rfl ⟨Nat.le_add_left 2 sk.length, Nat.le_trans (Nat.add_le_add_right hs 2) (Nat.le_of_eq (Nat.add_comm 8 2))⟩
theorem e_63_8 {x : Option Nat} {a0 a1 a2 : Option AV} : X xs L d 63 (8, [a0, a1, a2], .inr x :: sk, h) res ↔ X xs L d 63 (9, [a0, a1, some (.inr x)], sk, h) res := i_astore_n k_63_8 (Nat.le_of_ble_eq_true rfl) rfl
theorem e_63_9 {x : Option Nat} {a0 a1 : Option AV} : X xs L d 63 (9, [a0, a1, some (.inr x)], sk, h) res ↔ X xs L d 63 (10, [a0, a1, some (.inr x)], .inr x :: sk, h) res := i_aload_n k_63_9 rfl
theorem e_63_10 {v : Option Nat} : X xs L d 63 (10, lo, .inr v :: sk, h) res ↔ X xs L d 63 (if v = none then 13 else 17, lo, sk, h) res := i_ifnonnull k_63_10
theorem e_63_13 : X xs L d 63 (13, lo, sk, h) res ↔ X xs L d 63 (14, lo, .inl (-1) :: sk, h) res := i_iconst k_63_13
theorem e_63_14 : X xs L d 63 (14, lo, sk, h) res ↔ X xs L d 63 (21, lo, sk, h) res := i_goto k_63_14
theorem e_63_17 {x : Option Nat} {a0 a1 : Option AV} : X xs L d 63 (17, [a0, a1, some (.inr x)], sk, h) res ↔ X xs L d 63 (18, [a0, a1, some (.inr x)], .inr x :: sk, h) res := i_aload_n k_63_17 rfl
theorem e_63_18 {o : Nat} : X xs L d 63 (18, lo, .inr (some o) :: sk, h) res ↔ hK h o = 2 ∧ X xs L d 63 (21, lo, .inl (hI h o 5) :: sk, h) res := i_getI k_63_18
theorem e_63_21 {v : Int32} : X xs L d 63 (21, lo, [.inl v], h) res ↔ res = (some (.inl v), h) := i_iret k_63_21 rfl
theorem k_64_0 : am_cd 64 0 = some (.aload_n 0, 1, [], [])   := rfl
theorem k_64_1 : am_cd 64 1 = some (.getfield 26, 3, [8, 2, 2], [(0, 230)])   := rfl
theorem k_64_4 : am_cd 64 4 = some (.iload_n 1, 1, [], [])   := rfl
theorem k_64_5 : am_cd 64 5 = some (.invokevirtual 122, 3, [11, 2, 3], [(0, 634), (0, 635), (0, 636)])   := rfl
theorem k_64_8 : am_cd 64 8 = some (.astore_n 2, 1, [], [])   := rfl
theorem k_64_9 : am_cd 64 9 = some (.aload_n 2, 1, [], [])   := rfl
theorem k_64_10 : am_cd 64 10 = some (.ifnonnull 7, 3, [17], [])   := rfl
theorem k_64_13 : am_cd 64 13 = some (.iconst (-1), 1, [], [(-1, 0)])   := rfl
theorem k_64_14 : am_cd 64 14 = some (.goto 7, 3, [21], [])   := rfl
theorem k_64_17 : am_cd 64 17 = some (.aload_n 2, 1, [], [])   := rfl
theorem k_64_18 : am_cd 64 18 = some (.getfield 131, 3, [2, 4, 0], [(0, 158)])   := rfl
theorem k_64_21 : am_cd 64 21 = some (.ireturn, 1, [], [])   := rfl
theorem e_64_0 {x : Option Nat} {a1 a2 : Option AV} : X xs L d 64 (0, [some (.inr x), a1, a2], sk, h) res ↔ X xs L d 64 (1, [some (.inr x), a1, a2], .inr x :: sk, h) res := i_aload_n k_64_0 rfl
theorem e_64_1 {o : Nat} : X xs L d 64 (1, lo, .inr (some o) :: sk, h) res ↔ hK h o = 8 ∧ X xs L d 64 (4, lo, .inr (hR h o 2) :: sk, h) res := i_getR k_64_1
theorem e_64_4 {x : Int32} {a0 a2 : Option AV} : X xs L d 64 (4, [a0, some (.inl x), a2], sk, h) res ↔ X xs L d 64 (5, [a0, some (.inl x), a2], .inl x :: sk, h) res := i_iload_n k_64_4 rfl
theorem e_64_5 {o : Nat} {v0 : Int32} (hs : sk.length ≤ 8) : X xs L d 64 (5, lo, .inl v0 :: .inr (some o) :: sk, h) res ↔ hK h o = 3 ∧ ∃ q : Res, Rn xs L d 11 [.inr (some o), .inl v0] h q ∧ X xs L d 64 (8, lo, q.1.toList ++ sk, q.2) res := i_callV k_64_5 rfl ⟨Nat.le_add_left 2 sk.length, Nat.le_trans (Nat.add_le_add_right hs 2) (Nat.le_of_eq (Nat.add_comm 8 2))⟩
theorem e_64_8 {x : Option Nat} {a0 a1 a2 : Option AV} : X xs L d 64 (8, [a0, a1, a2], .inr x :: sk, h) res ↔ X xs L d 64 (9, [a0, a1, some (.inr x)], sk, h) res := i_astore_n k_64_8 (Nat.le_of_ble_eq_true rfl) rfl
theorem e_64_9 {x : Option Nat} {a0 a1 : Option AV} : X xs L d 64 (9, [a0, a1, some (.inr x)], sk, h) res ↔ X xs L d 64 (10, [a0, a1, some (.inr x)], .inr x :: sk, h) res := i_aload_n k_64_9 rfl
theorem e_64_10 {v : Option Nat} : X xs L d 64 (10, lo, .inr v :: sk, h) res ↔ X xs L d 64 (if v = none then 13 else 17, lo, sk, h) res := i_ifnonnull k_64_10
theorem e_64_13 : X xs L d 64 (13, lo, sk, h) res ↔ X xs L d 64 (14, lo, .inl (-1) :: sk, h) res := i_iconst k_64_13
theorem e_64_14 : X xs L d 64 (14, lo, sk, h) res ↔ X xs L d 64 (21, lo, sk, h) res := i_goto k_64_14
theorem e_64_17 {x : Option Nat} {a0 a1 : Option AV} : X xs L d 64 (17, [a0, a1, some (.inr x)], sk, h) res ↔ X xs L d 64 (18, [a0, a1, some (.inr x)], .inr x :: sk, h) res := i_aload_n k_64_17 rfl
theorem e_64_18 {o : Nat} : X xs L d 64 (18, lo, .inr (some o) :: sk, h) res ↔ hK h o = 2 ∧ X xs L d 64 (21, lo, .inl (hI h o 4) :: sk, h) res := i_getI k_64_18
theorem e_64_21 {v : Int32} : X xs L d 64 (21, lo, [.inl v], h) res ↔ res = (some (.inl v), h) := i_iret k_64_21 rfl
theorem k_65_0 : am_cd 65 0 = some (.aload_n 0, 1, [], [])   := rfl
theorem k_65_1 : am_cd 65 1 = some (.getfield 26, 3, [8, 2, 2], [(0, 230)])   := rfl
theorem k_65_4 : am_cd 65 4 = some (.iload_n 1, 1, [], [])   := rfl
theorem k_65_5 : am_cd 65 5 = some (.invokevirtual 122, 3, [11, 2, 3], [(0, 634), (0, 635), (0, 636)])   := rfl
theorem k_65_8 : am_cd 65 8 = some (.astore_n 3, 1, [], [])   := rfl
theorem k_65_9 : am_cd 65 9 = some (.aload_n 3, 1, [], [])   := rfl
theorem k_65_10 : am_cd 65 10 = some (.ifnonnull 7, 3, [17], [])   := rfl
theorem k_65_13 : am_cd 65 13 = some (.iconst 0, 1, [], [(0, 0)])   := rfl
theorem k_65_14 : am_cd 65 14 = some (.goto 8, 3, [22], [])   := rfl
theorem k_65_17 : am_cd 65 17 = some (.aload_n 3, 1, [], [])   := rfl
theorem k_65_18 : am_cd 65 18 = some (.iload_n 2, 1, [], [])   := rfl
theorem k_65_19 : am_cd 65 19 = some (.invokevirtual 134, 3, [4, 2, 2], [(0, 672), (0, 546), (0, 547)])   := rfl
theorem k_65_22 : am_cd 65 22 = some (.ireturn, 1, [], [])   := rfl
theorem e_65_0 {x : Option Nat} {a1 a2 a3 : Option AV} : X xs L d 65 (0, [some (.inr x), a1, a2, a3], sk, h) res ↔ X xs L d 65 (1, [some (.inr x), a1, a2, a3], .inr x :: sk, h) res := i_aload_n k_65_0 rfl
theorem e_65_1 {o : Nat} : X xs L d 65 (1, lo, .inr (some o) :: sk, h) res ↔ hK h o = 8 ∧ X xs L d 65 (4, lo, .inr (hR h o 2) :: sk, h) res := i_getR k_65_1
theorem e_65_4 {x : Int32} {a0 a2 a3 : Option AV} : X xs L d 65 (4, [a0, some (.inl x), a2, a3], sk, h) res ↔ X xs L d 65 (5, [a0, some (.inl x), a2, a3], .inl x :: sk, h) res := i_iload_n k_65_4 rfl
theorem e_65_5 {o : Nat} {v0 : Int32} (hs : sk.length ≤ 8) : X xs L d 65 (5, lo, .inl v0 :: .inr (some o) :: sk, h) res ↔ hK h o = 3 ∧ ∃ q : Res, Rn xs L d 11 [.inr (some o), .inl v0] h q ∧ X xs L d 65 (8, lo, q.1.toList ++ sk, q.2) res := i_callV k_65_5 rfl ⟨Nat.le_add_left 2 sk.length, Nat.le_trans (Nat.add_le_add_right hs 2) (Nat.le_of_eq (Nat.add_comm 8 2))⟩
theorem e_65_8 {x : Option Nat} {a0 a1 a2 a3 : Option AV} : X xs L d 65 (8, [a0, a1, a2, a3], .inr x :: sk, h) res ↔ X xs L d 65 (9, [a0, a1, a2, some (.inr x)], sk, h) res := i_astore_n k_65_8 (Nat.le_of_ble_eq_true rfl) rfl
theorem e_65_9 {x : Option Nat} {a0 a1 a2 : Option AV} : X xs L d 65 (9, [a0, a1, a2, some (.inr x)], sk, h) res ↔ X xs L d 65 (10, [a0, a1, a2, some (.inr x)], .inr x :: sk, h) res := i_aload_n k_65_9 rfl
theorem e_65_10 {v : Option Nat} : X xs L d 65 (10, lo, .inr v :: sk, h) res ↔ X xs L d 65 (if v = none then 13 else 17, lo, sk, h) res := i_ifnonnull k_65_10
theorem e_65_13 : X xs L d 65 (13, lo, sk, h) res ↔ X xs L d 65 (14, lo, .inl 0 :: sk, h) res := i_iconst k_65_13
theorem e_65_14 : X xs L d 65 (14, lo, sk, h) res ↔ X xs L d 65 (22, lo, sk, h) res := i_goto k_65_14
theorem e_65_17 {x : Option Nat} {a0 a1 a2 : Option AV} : X xs L d 65 (17, [a0, a1, a2, some (.inr x)], sk, h) res ↔ X xs L d 65 (18, [a0, a1, a2, some (.inr x)], .inr x :: sk, h) res := i_aload_n k_65_17 rfl
theorem e_65_18 {x : Int32} {a0 a1 a3 : Option AV} : X xs L d 65 (18, [a0, a1, some (.inl x), a3], sk, h) res ↔ X xs L d 65 (19, [a0, a1, some (.inl x), a3], .inl x :: sk, h) res := i_iload_n k_65_18 rfl
theorem e_65_19 {o : Nat} {v0 : Int32} (hs : sk.length ≤ 8) : X xs L d 65 (19, lo, .inl v0 :: .inr (some o) :: sk, h) res ↔ hK h o = 2 ∧ ∃ q : Res, Rn xs L d 4 [.inr (some o), .inl v0] h q ∧ X xs L d 65 (22, lo, q.1.toList ++ sk, q.2) res := i_callV k_65_19 rfl ⟨Nat.le_add_left 2 sk.length, Nat.le_trans (Nat.add_le_add_right hs 2) (Nat.le_of_eq (Nat.add_comm 8 2))⟩
theorem e_65_22 {v : Int32} : X xs L d 65 (22, lo, [.inl v], h) res ↔ res = (some (.inl v), h) := i_iret k_65_22 rfl
theorem k_66_0 : am_cd 66 0 = some (.aload_n 0, 1, [], [])   := rfl
theorem k_66_1 : am_cd 66 1 = some (.getfield 26, 3, [8, 2, 2], [(0, 230)])   := rfl
theorem k_66_4 : am_cd 66 4 = some (.iload_n 1, 1, [], [])   := rfl
theorem k_66_5 : am_cd 66 5 = some (.invokevirtual 122, 3, [11, 2, 3], [(0, 634), (0, 635), (0, 636)])   := rfl
theorem k_66_8 : am_cd 66 8 = some (.astore 4, 2, [], [])   := rfl
theorem k_66_10 : am_cd 66 10 = some (.aload 4, 2, [], [])   := rfl
theorem k_66_12 : am_cd 66 12 = some (.ifnull 17, 3, [29], [])   := rfl
theorem k_66_15 : am_cd 66 15 = some (.aload 4, 2, [], [])   := rfl
theorem k_66_17 : am_cd 66 17 = some (.iload_n 2, 1, [], [])   := rfl
theorem k_66_18 : am_cd 66 18 = some (.iload_n 3, 1, [], [])   := rfl
theorem k_66_19 : am_cd 66 19 = some (.invokevirtual 138, 3, [5, 3, 2], [(0, 677), (0, 558), (0, 559)])   := rfl
theorem k_66_22 : am_cd 66 22 = some (.ifCond .eq 7, 3, [29], [])   := rfl
theorem k_66_25 : am_cd 66 25 = some (.iconst 1, 1, [], [(1, 0)])   := rfl
theorem k_66_26 : am_cd 66 26 = some (.goto 4, 3, [30], [])   := rfl
theorem k_66_29 : am_cd 66 29 = some (.iconst 0, 1, [], [(0, 0)])   := rfl
theorem k_66_30 : am_cd 66 30 = some (.ireturn, 1, [], [])   := rfl
theorem e_66_0 {x : Option Nat} {a1 a2 a3 a4 : Option AV} : X xs L d 66 (0, [some (.inr x), a1, a2, a3, a4], sk, h) res ↔ X xs L d 66 (1, [some (.inr x), a1, a2, a3, a4], .inr x :: sk, h) res := i_aload_n k_66_0 rfl
theorem e_66_1 {o : Nat} : X xs L d 66 (1, lo, .inr (some o) :: sk, h) res ↔ hK h o = 8 ∧ X xs L d 66 (4, lo, .inr (hR h o 2) :: sk, h) res := i_getR k_66_1
theorem e_66_4 {x : Int32} {a0 a2 a3 a4 : Option AV} : X xs L d 66 (4, [a0, some (.inl x), a2, a3, a4], sk, h) res ↔ X xs L d 66 (5, [a0, some (.inl x), a2, a3, a4], .inl x :: sk, h) res := i_iload_n k_66_4 rfl
theorem e_66_5 {o : Nat} {v0 : Int32} (hs : sk.length ≤ 8) : X xs L d 66 (5, lo, .inl v0 :: .inr (some o) :: sk, h) res ↔ hK h o = 3 ∧ ∃ q : Res, Rn xs L d 11 [.inr (some o), .inl v0] h q ∧ X xs L d 66 (8, lo, q.1.toList ++ sk, q.2) res := i_callV k_66_5 rfl ⟨Nat.le_add_left 2 sk.length, Nat.le_trans (Nat.add_le_add_right hs 2) (Nat.le_of_eq (Nat.add_comm 8 2))⟩
theorem e_66_8 {x : Option Nat} {a0 a1 a2 a3 a4 : Option AV} : X xs L d 66 (8, [a0, a1, a2, a3, a4], .inr x :: sk, h) res ↔ X xs L d 66 (10, [a0, a1, a2, a3, some (.inr x)], sk, h) res := i_astore k_66_8 (Nat.le_of_ble_eq_true rfl) rfl
theorem e_66_10 {x : Option Nat} {a0 a1 a2 a3 : Option AV} : X xs L d 66 (10, [a0, a1, a2, a3, some (.inr x)], sk, h) res ↔ X xs L d 66 (12, [a0, a1, a2, a3, some (.inr x)], .inr x :: sk, h) res := i_aload k_66_10 rfl
theorem e_66_12 {v : Option Nat} : X xs L d 66 (12, lo, .inr v :: sk, h) res ↔ X xs L d 66 (if v = none then 29 else 15, lo, sk, h) res := i_ifnull k_66_12
theorem e_66_15 {x : Option Nat} {a0 a1 a2 a3 : Option AV} : X xs L d 66 (15, [a0, a1, a2, a3, some (.inr x)], sk, h) res ↔ X xs L d 66 (17, [a0, a1, a2, a3, some (.inr x)], .inr x :: sk, h) res := i_aload k_66_15 rfl
theorem e_66_17 {x : Int32} {a0 a1 a3 a4 : Option AV} : X xs L d 66 (17, [a0, a1, some (.inl x), a3, a4], sk, h) res ↔ X xs L d 66 (18, [a0, a1, some (.inl x), a3, a4], .inl x :: sk, h) res := i_iload_n k_66_17 rfl
theorem e_66_18 {x : Int32} {a0 a1 a2 a4 : Option AV} : X xs L d 66 (18, [a0, a1, a2, some (.inl x), a4], sk, h) res ↔ X xs L d 66 (19, [a0, a1, a2, some (.inl x), a4], .inl x :: sk, h) res := i_iload_n k_66_18 rfl
theorem e_66_19 {o : Nat} {v0 : Int32} {v1 : Int32} (hs : sk.length ≤ 8) : X xs L d 66 (19, lo, .inl v1 :: .inl v0 :: .inr (some o) :: sk, h) res ↔ hK h o = 2 ∧ ∃ q : Res, Rn xs L d 5 [.inr (some o), .inl v0, .inl v1] h q ∧ X xs L d 66 (22, lo, q.1.toList ++ sk, q.2) res := i_callV k_66_19 rfl ⟨Nat.le_add_left 3 sk.length, Nat.le_trans (Nat.add_le_add_right hs 3) (Nat.le_of_eq (Nat.add_comm 8 3))⟩
theorem e_66_22 {x : Int32} : X xs L d 66 (22, lo, .inl x :: sk, h) res ↔ (if x = 0 then X xs L d 66 (29, lo, sk, h) res else X xs L d 66 (25, lo, sk, h) res) := i_if_eq k_66_22
theorem e_66_25 : X xs L d 66 (25, lo, sk, h) res ↔ X xs L d 66 (26, lo, .inl 1 :: sk, h) res := i_iconst k_66_25
theorem e_66_26 : X xs L d 66 (26, lo, sk, h) res ↔ X xs L d 66 (30, lo, sk, h) res := i_goto k_66_26
theorem e_66_29 : X xs L d 66 (29, lo, sk, h) res ↔ X xs L d 66 (30, lo, .inl 0 :: sk, h) res := i_iconst k_66_29
theorem e_66_30 {v : Int32} : X xs L d 66 (30, lo, [.inl v], h) res ↔ (v = 0 ∨ v = 1) ∧ res = (some (.inl v), h) := i_zret k_66_30 rfl
theorem k_67_0 : am_cd 67 0 = some (.aload_n 0, 1, [], [])   := rfl
theorem k_67_1 : am_cd 67 1 = some (.getfield 26, 3, [8, 2, 2], [(0, 230)])   := rfl
theorem k_67_4 : am_cd 67 4 = some (.iload_n 1, 1, [], [])   := rfl
theorem k_67_5 : am_cd 67 5 = some (.invokevirtual 122, 3, [11, 2, 3], [(0, 634), (0, 635), (0, 636)])   := rfl
theorem k_67_8 : am_cd 67 8 = some (.astore_n 2, 1, [], [])   := rfl
theorem k_67_9 : am_cd 67 9 = some (.aload_n 2, 1, [], [])   := rfl
theorem k_67_10 : am_cd 67 10 = some (.ifnonnull 7, 3, [17], [])   := rfl
theorem k_67_13 : am_cd 67 13 = some (.aconst_null, 1, [], [])   := rfl
theorem k_67_14 : am_cd 67 14 = some (.goto 18, 3, [32], [])   := rfl
theorem k_67_17 : am_cd 67 17 = some (.aload_n 0, 1, [], [])   := rfl
theorem k_67_18 : am_cd 67 18 = some (.getfield 19, 3, [8, 1, 2], [(0, 229)])   := rfl
theorem k_67_21 : am_cd 67 21 = some (.aload_n 0, 1, [], [])   := rfl
theorem k_67_22 : am_cd 67 22 = some (.getfield 12, 3, [8, 0, 2], [(0, 228)])   := rfl
theorem k_67_25 : am_cd 67 25 = some (.aload_n 0, 1, [], [])   := rfl
theorem k_67_26 : am_cd 67 26 = some (.getfield 57, 3, [8, 6, 2], [(0, 234)])   := rfl
theorem k_67_29 : am_cd 67 29 = some (.invokevirtual 94, 3, [30, 3, 7], [(0, 581), (0, 582), (0, 583)])   := rfl
theorem k_67_32 : am_cd 67 32 = some (.astore_n 3, 1, [], [])   := rfl
theorem k_67_33 : am_cd 67 33 = some (.aload_n 0, 1, [], [])   := rfl
theorem k_67_34 : am_cd 67 34 = some (.getfield 12, 3, [8, 0, 2], [(0, 228)])   := rfl
theorem k_67_37 : am_cd 67 37 = some (.invokevirtual 54, 3, [27, 1, 6], [(0, 497), (0, 498), (0, 499)])   := rfl
theorem k_67_40 : am_cd 67 40 = some (.aload_n 2, 1, [], [])   := rfl
theorem k_67_41 : am_cd 67 41 = some (.ifnull 7, 3, [48], [])   := rfl
theorem k_67_44 : am_cd 67 44 = some (.aload_n 3, 1, [], [])   := rfl
theorem k_67_45 : am_cd 67 45 = some (.ifnonnull 5, 3, [50], [])   := rfl
theorem k_67_48 : am_cd 67 48 = some (.iconst (-1), 1, [], [(-1, 0)])   := rfl
theorem k_67_49 : am_cd 67 49 = some (.ireturn, 1, [], [])   := rfl
theorem k_67_50 : am_cd 67 50 = some (.aload_n 0, 1, [], [])   := rfl
theorem k_67_51 : am_cd 67 51 = some (.getfield 30, 3, [8, 3, 2], [(0, 231)])   := rfl
theorem k_67_54 : am_cd 67 54 = some (.aload_n 0, 1, [], [])   := rfl
theorem k_67_55 : am_cd 67 55 = some (.getfield 57, 3, [8, 6, 2], [(0, 234)])   := rfl
theorem k_67_58 : am_cd 67 58 = some (.aload_n 2, 1, [], [])   := rfl
theorem k_67_59 : am_cd 67 59 = some (.aload_n 3, 1, [], [])   := rfl
theorem k_67_60 : am_cd 67 60 = some (.invokevirtual 142, 3, [10, 4, 3], [(0, 638), (0, 639), (0, 640)])   := rfl
theorem k_67_63 : am_cd 67 63 = some (.aload_n 0, 1, [], [])   := rfl
theorem k_67_64 : am_cd 67 64 = some (.getfield 30, 3, [8, 3, 2], [(0, 231)])   := rfl
theorem k_67_67 : am_cd 67 67 = some (.getfield 85, 3, [3, 4, 0], [(0, 193)])   := rfl
theorem k_67_70 : am_cd 67 70 = some (.iconst 2, 1, [], [(2, 0)])   := rfl
theorem k_67_71 : am_cd 67 71 = some (.if_icmp .ne 16, 3, [87], [])   := rfl
theorem k_67_74 : am_cd 67 74 = some (.aload_n 0, 1, [], [])   := rfl
theorem k_67_75 : am_cd 67 75 = some (.aload_n 0, 1, [], [])   := rfl
theorem k_67_76 : am_cd 67 76 = some (.getfield 30, 3, [8, 3, 2], [(0, 231)])   := rfl
theorem k_67_79 : am_cd 67 79 = some (.getfield 88, 3, [3, 5, 0], [(0, 195)])   := rfl
theorem k_67_82 : am_cd 67 82 = some (.putfield 69, 3, [8, 8, 0], [(0, 236)])   := rfl
theorem k_67_85 : am_cd 67 85 = some (.iconst 0, 1, [], [(0, 0)])   := rfl
theorem k_67_86 : am_cd 67 86 = some (.ireturn, 1, [], [])   := rfl
theorem k_67_87 : am_cd 67 87 = some (.aload_n 0, 1, [], [])   := rfl
theorem k_67_88 : am_cd 67 88 = some (.getfield 30, 3, [8, 3, 2], [(0, 231)])   := rfl
theorem k_67_91 : am_cd 67 91 = some (.getfield 85, 3, [3, 4, 0], [(0, 193)])   := rfl
theorem k_67_94 : am_cd 67 94 = some (.iconst 3, 1, [], [(3, 0)])   := rfl
theorem k_67_95 : am_cd 67 95 = some (.if_icmp .ne 8, 3, [103], [])   := rfl
theorem k_67_98 : am_cd 67 98 = some (.bipush (-2), 2, [], [(-2, 0)])   := rfl
theorem k_67_100 : am_cd 67 100 = some (.goto 5, 3, [105], [])   := rfl
theorem k_67_103 : am_cd 67 103 = some (.bipush (-3), 2, [], [(-3, 0)])   := rfl
theorem k_67_105 : am_cd 67 105 = some (.ireturn, 1, [], [])   := rfl
theorem e_67_0 {x : Option Nat} {a1 a2 a3 : Option AV} : X xs L d 67 (0, [some (.inr x), a1, a2, a3], sk, h) res ↔ X xs L d 67 (1, [some (.inr x), a1, a2, a3], .inr x :: sk, h) res := i_aload_n k_67_0 rfl
theorem e_67_1 {o : Nat} : X xs L d 67 (1, lo, .inr (some o) :: sk, h) res ↔ hK h o = 8 ∧ X xs L d 67 (4, lo, .inr (hR h o 2) :: sk, h) res := i_getR k_67_1
theorem e_67_4 {x : Int32} {a0 a2 a3 : Option AV} : X xs L d 67 (4, [a0, some (.inl x), a2, a3], sk, h) res ↔ X xs L d 67 (5, [a0, some (.inl x), a2, a3], .inl x :: sk, h) res := i_iload_n k_67_4 rfl
theorem e_67_5 {o : Nat} {v0 : Int32} (hs : sk.length ≤ 8) : X xs L d 67 (5, lo, .inl v0 :: .inr (some o) :: sk, h) res ↔ hK h o = 3 ∧ ∃ q : Res, Rn xs L d 11 [.inr (some o), .inl v0] h q ∧ X xs L d 67 (8, lo, q.1.toList ++ sk, q.2) res := i_callV k_67_5 rfl ⟨Nat.le_add_left 2 sk.length, Nat.le_trans (Nat.add_le_add_right hs 2) (Nat.le_of_eq (Nat.add_comm 8 2))⟩
theorem e_67_8 {x : Option Nat} {a0 a1 a2 a3 : Option AV} : X xs L d 67 (8, [a0, a1, a2, a3], .inr x :: sk, h) res ↔ X xs L d 67 (9, [a0, a1, some (.inr x), a3], sk, h) res := i_astore_n k_67_8 (Nat.le_of_ble_eq_true rfl) rfl
theorem e_67_9 {x : Option Nat} {a0 a1 a3 : Option AV} : X xs L d 67 (9, [a0, a1, some (.inr x), a3], sk, h) res ↔ X xs L d 67 (10, [a0, a1, some (.inr x), a3], .inr x :: sk, h) res := i_aload_n k_67_9 rfl
theorem e_67_10 {v : Option Nat} : X xs L d 67 (10, lo, .inr v :: sk, h) res ↔ X xs L d 67 (if v = none then 13 else 17, lo, sk, h) res := i_ifnonnull k_67_10
theorem e_67_13 : X xs L d 67 (13, lo, sk, h) res ↔ X xs L d 67 (14, lo, .inr none :: sk, h) res := i_null k_67_13
theorem e_67_14 : X xs L d 67 (14, lo, sk, h) res ↔ X xs L d 67 (32, lo, sk, h) res := i_goto k_67_14
theorem e_67_17 {x : Option Nat} {a1 a2 a3 : Option AV} : X xs L d 67 (17, [some (.inr x), a1, a2, a3], sk, h) res ↔ X xs L d 67 (18, [some (.inr x), a1, a2, a3], .inr x :: sk, h) res := i_aload_n k_67_17 rfl
theorem e_67_18 {o : Nat} : X xs L d 67 (18, lo, .inr (some o) :: sk, h) res ↔ hK h o = 8 ∧ X xs L d 67 (21, lo, .inr (hR h o 1) :: sk, h) res := i_getR k_67_18
theorem e_67_21 {x : Option Nat} {a1 a2 a3 : Option AV} : X xs L d 67 (21, [some (.inr x), a1, a2, a3], sk, h) res ↔ X xs L d 67 (22, [some (.inr x), a1, a2, a3], .inr x :: sk, h) res := i_aload_n k_67_21 rfl
theorem e_67_22 {o : Nat} : X xs L d 67 (22, lo, .inr (some o) :: sk, h) res ↔ hK h o = 8 ∧ X xs L d 67 (25, lo, .inr (hR h o 0) :: sk, h) res := i_getR k_67_22
theorem e_67_25 {x : Option Nat} {a1 a2 a3 : Option AV} : X xs L d 67 (25, [some (.inr x), a1, a2, a3], sk, h) res ↔ X xs L d 67 (26, [some (.inr x), a1, a2, a3], .inr x :: sk, h) res := i_aload_n k_67_25 rfl
theorem e_67_26 {o : Nat} : X xs L d 67 (26, lo, .inr (some o) :: sk, h) res ↔ hK h o = 8 ∧ X xs L d 67 (29, lo, .inr (hR h o 6) :: sk, h) res := i_getR k_67_26
theorem e_67_29 {o : Nat} {v0 : Option Nat} {v1 : Option Nat} (hs : sk.length ≤ 8) : X xs L d 67 (29, lo, .inr v1 :: .inr v0 :: .inr (some o) :: sk, h) res ↔ hK h o = 7 ∧ ∃ q : Res, Rn xs L d 30 [.inr (some o), .inr v0, .inr v1] h q ∧ X xs L d 67 (32, lo, q.1.toList ++ sk, q.2) res := i_callV k_67_29 rfl ⟨Nat.le_add_left 3 sk.length, Nat.le_trans (Nat.add_le_add_right hs 3) (Nat.le_of_eq (Nat.add_comm 8 3))⟩
theorem e_67_32 {x : Option Nat} {a0 a1 a2 a3 : Option AV} : X xs L d 67 (32, [a0, a1, a2, a3], .inr x :: sk, h) res ↔ X xs L d 67 (33, [a0, a1, a2, some (.inr x)], sk, h) res := i_astore_n k_67_32 (Nat.le_of_ble_eq_true rfl) rfl
theorem e_67_33 {x : Option Nat} {a1 a2 a3 : Option AV} : X xs L d 67 (33, [some (.inr x), a1, a2, a3], sk, h) res ↔ X xs L d 67 (34, [some (.inr x), a1, a2, a3], .inr x :: sk, h) res := i_aload_n k_67_33 rfl
theorem e_67_34 {o : Nat} : X xs L d 67 (34, lo, .inr (some o) :: sk, h) res ↔ hK h o = 8 ∧ X xs L d 67 (37, lo, .inr (hR h o 0) :: sk, h) res := i_getR k_67_34
theorem e_67_37 {o : Nat} (hs : sk.length ≤ 8) : X xs L d 67 (37, lo, .inr (some o) :: sk, h) res ↔ hK h o = 6 ∧ ∃ q : Res, Rn xs L d 27 [.inr (some o)] h q ∧ X xs L d 67 (40, lo, q.1.toList ++ sk, q.2) res := i_callV k_67_37 rfl ⟨Nat.le_add_left 1 sk.length, Nat.le_trans (Nat.add_le_add_right hs 1) (Nat.le_of_eq (Nat.add_comm 8 1))⟩
theorem e_67_40 {x : Option Nat} {a0 a1 a3 : Option AV} : X xs L d 67 (40, [a0, a1, some (.inr x), a3], sk, h) res ↔ X xs L d 67 (41, [a0, a1, some (.inr x), a3], .inr x :: sk, h) res := i_aload_n k_67_40 rfl
theorem e_67_41 {v : Option Nat} : X xs L d 67 (41, lo, .inr v :: sk, h) res ↔ X xs L d 67 (if v = none then 48 else 44, lo, sk, h) res := i_ifnull k_67_41
theorem e_67_44 {x : Option Nat} {a0 a1 a2 : Option AV} : X xs L d 67 (44, [a0, a1, a2, some (.inr x)], sk, h) res ↔ X xs L d 67 (45, [a0, a1, a2, some (.inr x)], .inr x :: sk, h) res := i_aload_n k_67_44 rfl
theorem e_67_45 {v : Option Nat} : X xs L d 67 (45, lo, .inr v :: sk, h) res ↔ X xs L d 67 (if v = none then 48 else 50, lo, sk, h) res := i_ifnonnull k_67_45
theorem e_67_48 : X xs L d 67 (48, lo, sk, h) res ↔ X xs L d 67 (49, lo, .inl (-1) :: sk, h) res := i_iconst k_67_48
theorem e_67_49 {v : Int32} : X xs L d 67 (49, lo, [.inl v], h) res ↔ res = (some (.inl v), h) := i_iret k_67_49 rfl
theorem e_67_50 {x : Option Nat} {a1 a2 a3 : Option AV} : X xs L d 67 (50, [some (.inr x), a1, a2, a3], sk, h) res ↔ X xs L d 67 (51, [some (.inr x), a1, a2, a3], .inr x :: sk, h) res := i_aload_n k_67_50 rfl
theorem e_67_51 {o : Nat} : X xs L d 67 (51, lo, .inr (some o) :: sk, h) res ↔ hK h o = 8 ∧ X xs L d 67 (54, lo, .inr (hR h o 3) :: sk, h) res := i_getR k_67_51
theorem e_67_54 {x : Option Nat} {a1 a2 a3 : Option AV} : X xs L d 67 (54, [some (.inr x), a1, a2, a3], sk, h) res ↔ X xs L d 67 (55, [some (.inr x), a1, a2, a3], .inr x :: sk, h) res := i_aload_n k_67_54 rfl
theorem e_67_55 {o : Nat} : X xs L d 67 (55, lo, .inr (some o) :: sk, h) res ↔ hK h o = 8 ∧ X xs L d 67 (58, lo, .inr (hR h o 6) :: sk, h) res := i_getR k_67_55
theorem e_67_58 {x : Option Nat} {a0 a1 a3 : Option AV} : X xs L d 67 (58, [a0, a1, some (.inr x), a3], sk, h) res ↔ X xs L d 67 (59, [a0, a1, some (.inr x), a3], .inr x :: sk, h) res := i_aload_n k_67_58 rfl
theorem e_67_59 {x : Option Nat} {a0 a1 a2 : Option AV} : X xs L d 67 (59, [a0, a1, a2, some (.inr x)], sk, h) res ↔ X xs L d 67 (60, [a0, a1, a2, some (.inr x)], .inr x :: sk, h) res := i_aload_n k_67_59 rfl
theorem e_67_60 {o : Nat} {v0 : Option Nat} {v1 : Option Nat} {v2 : Option Nat} (hs : sk.length ≤ 8) : X xs L d 67 (60, lo, .inr v2 :: .inr v1 :: .inr v0 :: .inr (some o) :: sk, h) res ↔ hK h o = 3 ∧ ∃ q : Res, Rn xs L d 10 [.inr (some o), .inr v0, .inr v1, .inr v2] h q ∧ X xs L d 67 (63, lo, q.1.toList ++ sk, q.2) res := i_callV k_67_60 rfl ⟨Nat.le_add_left 4 sk.length, Nat.le_trans (Nat.add_le_add_right hs 4) (Nat.le_of_eq (Nat.add_comm 8 4))⟩
theorem e_67_63 {x : Option Nat} {a1 a2 a3 : Option AV} : X xs L d 67 (63, [some (.inr x), a1, a2, a3], sk, h) res ↔ X xs L d 67 (64, [some (.inr x), a1, a2, a3], .inr x :: sk, h) res := i_aload_n k_67_63 rfl
theorem e_67_64 {o : Nat} : X xs L d 67 (64, lo, .inr (some o) :: sk, h) res ↔ hK h o = 8 ∧ X xs L d 67 (67, lo, .inr (hR h o 3) :: sk, h) res := i_getR k_67_64
theorem e_67_67 {o : Nat} : X xs L d 67 (67, lo, .inr (some o) :: sk, h) res ↔ hK h o = 3 ∧ X xs L d 67 (70, lo, .inl (hI h o 4) :: sk, h) res := i_getI k_67_67
theorem e_67_70 : X xs L d 67 (70, lo, sk, h) res ↔ X xs L d 67 (71, lo, .inl 2 :: sk, h) res := i_iconst k_67_70
theorem e_67_71 {x y : Int32} : X xs L d 67 (71, lo, .inl y :: .inl x :: sk, h) res ↔ (if x = y then X xs L d 67 (74, lo, sk, h) res else X xs L d 67 (87, lo, sk, h) res) := i_icmp_ne k_67_71
theorem e_67_74 {x : Option Nat} {a1 a2 a3 : Option AV} : X xs L d 67 (74, [some (.inr x), a1, a2, a3], sk, h) res ↔ X xs L d 67 (75, [some (.inr x), a1, a2, a3], .inr x :: sk, h) res := i_aload_n k_67_74 rfl
theorem e_67_75 {x : Option Nat} {a1 a2 a3 : Option AV} : X xs L d 67 (75, [some (.inr x), a1, a2, a3], sk, h) res ↔ X xs L d 67 (76, [some (.inr x), a1, a2, a3], .inr x :: sk, h) res := i_aload_n k_67_75 rfl
theorem e_67_76 {o : Nat} : X xs L d 67 (76, lo, .inr (some o) :: sk, h) res ↔ hK h o = 8 ∧ X xs L d 67 (79, lo, .inr (hR h o 3) :: sk, h) res := i_getR k_67_76
theorem e_67_79 {o : Nat} : X xs L d 67 (79, lo, .inr (some o) :: sk, h) res ↔ hK h o = 3 ∧ X xs L d 67 (82, lo, .inl (hI h o 5) :: sk, h) res := i_getI k_67_79
theorem e_67_82 {o : Nat} {v : Int32} : X xs L d 67 (82, lo, .inl v :: .inr (some o) :: sk, h) res ↔ hK h o = 8 ∧ X xs L d 67 (85, lo, sk, sI h o 8 v) res := i_putI k_67_82
theorem e_67_85 : X xs L d 67 (85, lo, sk, h) res ↔ X xs L d 67 (86, lo, .inl 0 :: sk, h) res := i_iconst k_67_85
theorem e_67_86 {v : Int32} : X xs L d 67 (86, lo, [.inl v], h) res ↔ res = (some (.inl v), h) := i_iret k_67_86 rfl
theorem e_67_87 {x : Option Nat} {a1 a2 a3 : Option AV} : X xs L d 67 (87, [some (.inr x), a1, a2, a3], sk, h) res ↔ X xs L d 67 (88, [some (.inr x), a1, a2, a3], .inr x :: sk, h) res := i_aload_n k_67_87 rfl
theorem e_67_88 {o : Nat} : X xs L d 67 (88, lo, .inr (some o) :: sk, h) res ↔ hK h o = 8 ∧ X xs L d 67 (91, lo, .inr (hR h o 3) :: sk, h) res := i_getR k_67_88
theorem e_67_91 {o : Nat} : X xs L d 67 (91, lo, .inr (some o) :: sk, h) res ↔ hK h o = 3 ∧ X xs L d 67 (94, lo, .inl (hI h o 4) :: sk, h) res := i_getI k_67_91
theorem e_67_94 : X xs L d 67 (94, lo, sk, h) res ↔ X xs L d 67 (95, lo, .inl 3 :: sk, h) res := i_iconst k_67_94
theorem e_67_95 {x y : Int32} : X xs L d 67 (95, lo, .inl y :: .inl x :: sk, h) res ↔ (if x = y then X xs L d 67 (98, lo, sk, h) res else X xs L d 67 (103, lo, sk, h) res) := i_icmp_ne k_67_95
theorem e_67_98 : X xs L d 67 (98, lo, sk, h) res ↔ X xs L d 67 (100, lo, .inl (-2) :: sk, h) res := i_bipush k_67_98
theorem e_67_100 : X xs L d 67 (100, lo, sk, h) res ↔ X xs L d 67 (105, lo, sk, h) res := i_goto k_67_100
theorem e_67_103 : X xs L d 67 (103, lo, sk, h) res ↔ X xs L d 67 (105, lo, .inl (-3) :: sk, h) res := i_bipush k_67_103
theorem e_67_105 {v : Int32} : X xs L d 67 (105, lo, [.inl v], h) res ↔ res = (some (.inl v), h) := i_iret k_67_105 rfl
theorem k_68_0 : am_cd 68 0 = some (.aload_n 0, 1, [], [])   := rfl
theorem k_68_1 : am_cd 68 1 = some (.getfield 69, 3, [8, 8, 0], [(0, 236)])   := rfl
theorem k_68_4 : am_cd 68 4 = some (.ireturn, 1, [], [])   := rfl
theorem e_68_0 {x : Option Nat} : X xs L d 68 (0, [some (.inr x)], sk, h) res ↔ X xs L d 68 (1, [some (.inr x)], .inr x :: sk, h) res := i_aload_n k_68_0 rfl
theorem e_68_1 {o : Nat} : X xs L d 68 (1, lo, .inr (some o) :: sk, h) res ↔ hK h o = 8 ∧ X xs L d 68 (4, lo, .inl (hI h o 8) :: sk, h) res := i_getI k_68_1
theorem e_68_4 {v : Int32} : X xs L d 68 (4, lo, [.inl v], h) res ↔ res = (some (.inl v), h) := i_iret k_68_4 rfl
theorem k_69_0 : am_cd 69 0 = some (.aload_n 0, 1, [], [])   := rfl
theorem k_69_1 : am_cd 69 1 = some (.getfield 26, 3, [8, 2, 2], [(0, 230)])   := rfl
theorem k_69_4 : am_cd 69 4 = some (.getfield 146, 3, [3, 2, 2], [(0, 190)])   := rfl
theorem k_69_7 : am_cd 69 7 = some (.iload_n 1, 1, [], [])   := rfl
theorem k_69_8 : am_cd 69 8 = some (.invokevirtual 149, 3, [24, 2, 5], [(0, 690), (0, 691), (0, 692)])   := rfl
theorem k_69_11 : am_cd 69 11 = some (.ireturn, 1, [], [])   := rfl
theorem e_69_0 {x : Option Nat} {a1 : Option AV} : X xs L d 69 (0, [some (.inr x), a1], sk, h) res ↔ X xs L d 69 (1, [some (.inr x), a1], .inr x :: sk, h) res := i_aload_n k_69_0 rfl
theorem e_69_1 {o : Nat} : X xs L d 69 (1, lo, .inr (some o) :: sk, h) res ↔ hK h o = 8 ∧ X xs L d 69 (4, lo, .inr (hR h o 2) :: sk, h) res := i_getR k_69_1
theorem e_69_4 {o : Nat} : X xs L d 69 (4, lo, .inr (some o) :: sk, h) res ↔ hK h o = 3 ∧ X xs L d 69 (7, lo, .inr (hR h o 2) :: sk, h) res := i_getR k_69_4
theorem e_69_7 {x : Int32} {a0 : Option AV} : X xs L d 69 (7, [a0, some (.inl x)], sk, h) res ↔ X xs L d 69 (8, [a0, some (.inl x)], .inl x :: sk, h) res := i_iload_n k_69_7 rfl
theorem e_69_8 {o : Nat} {v0 : Int32} (hs : sk.length ≤ 8) : X xs L d 69 (8, lo, .inl v0 :: .inr (some o) :: sk, h) res ↔ hK h o = 5 ∧ ∃ q : Res, Rn xs L d 24 [.inr (some o), .inl v0] h q ∧ X xs L d 69 (11, lo, q.1.toList ++ sk, q.2) res := i_callV k_69_8 rfl ⟨Nat.le_add_left 2 sk.length, Nat.le_trans (Nat.add_le_add_right hs 2) (Nat.le_of_eq (Nat.add_comm 8 2))⟩
theorem e_69_11 {v : Int32} : X xs L d 69 (11, lo, [.inl v], h) res ↔ res = (some (.inl v), h) := i_iret k_69_11 rfl
theorem k_70_0 : am_cd 70 0 = some (.aload_n 0, 1, [], [])   := rfl
theorem k_70_1 : am_cd 70 1 = some (.getfield 36, 3, [8, 4, 2], [(0, 232)])   := rfl
theorem k_70_4 : am_cd 70 4 = some (.iload_n 1, 1, [], [])   := rfl
theorem k_70_5 : am_cd 70 5 = some (.invokevirtual 149, 3, [24, 2, 5], [(0, 690), (0, 691), (0, 692)])   := rfl
theorem k_70_8 : am_cd 70 8 = some (.ireturn, 1, [], [])   := rfl
theorem e_70_0 {x : Option Nat} {a1 : Option AV} : X xs L d 70 (0, [some (.inr x), a1], sk, h) res ↔ X xs L d 70 (1, [some (.inr x), a1], .inr x :: sk, h) res := i_aload_n k_70_0 rfl
theorem e_70_1 {o : Nat} : X xs L d 70 (1, lo, .inr (some o) :: sk, h) res ↔ hK h o = 8 ∧ X xs L d 70 (4, lo, .inr (hR h o 4) :: sk, h) res := i_getR k_70_1
theorem e_70_4 {x : Int32} {a0 : Option AV} : X xs L d 70 (4, [a0, some (.inl x)], sk, h) res ↔ X xs L d 70 (5, [a0, some (.inl x)], .inl x :: sk, h) res := i_iload_n k_70_4 rfl
theorem e_70_5 {o : Nat} {v0 : Int32} (hs : sk.length ≤ 8) : X xs L d 70 (5, lo, .inl v0 :: .inr (some o) :: sk, h) res ↔ hK h o = 5 ∧ ∃ q : Res, Rn xs L d 24 [.inr (some o), .inl v0] h q ∧ X xs L d 70 (8, lo, q.1.toList ++ sk, q.2) res := i_callV k_70_5 rfl ⟨Nat.le_add_left 2 sk.length, Nat.le_trans (Nat.add_le_add_right hs 2) (Nat.le_of_eq (Nat.add_comm 8 2))⟩
theorem e_70_8 {v : Int32} : X xs L d 70 (8, lo, [.inl v], h) res ↔ res = (some (.inl v), h) := i_iret k_70_8 rfl
theorem k_71_0 : am_cd 71 0 = some (.aload_n 0, 1, [], [])   := rfl
theorem k_71_1 : am_cd 71 1 = some (.getfield 57, 3, [8, 6, 2], [(0, 234)])   := rfl
theorem k_71_4 : am_cd 71 4 = some (.ifnull 22, 3, [26], [])   := rfl
theorem k_71_7 : am_cd 71 7 = some (.iload_n 1, 1, [], [])   := rfl
theorem k_71_8 : am_cd 71 8 = some (.ifCond .lt 18, 3, [26], [])   := rfl
theorem k_71_11 : am_cd 71 11 = some (.iload_n 1, 1, [], [])   := rfl
theorem k_71_12 : am_cd 71 12 = some (.aload_n 0, 1, [], [])   := rfl
theorem k_71_13 : am_cd 71 13 = some (.getfield 57, 3, [8, 6, 2], [(0, 234)])   := rfl
theorem k_71_16 : am_cd 71 16 = some (.getfield 73, 3, [4, 3, 0], [(0, 487)])   := rfl
theorem k_71_19 : am_cd 71 19 = some (.if_icmp .ge 7, 3, [26], [])   := rfl
theorem k_71_22 : am_cd 71 22 = some (.iconst 1, 1, [], [(1, 0)])   := rfl
theorem k_71_23 : am_cd 71 23 = some (.goto 4, 3, [27], [])   := rfl
theorem k_71_26 : am_cd 71 26 = some (.iconst 0, 1, [], [(0, 0)])   := rfl
theorem k_71_27 : am_cd 71 27 = some (.ireturn, 1, [], [])   := rfl
theorem e_71_0 {x : Option Nat} {a1 : Option AV} : X xs L d 71 (0, [some (.inr x), a1], sk, h) res ↔ X xs L d 71 (1, [some (.inr x), a1], .inr x :: sk, h) res := i_aload_n k_71_0 rfl
theorem e_71_1 {o : Nat} : X xs L d 71 (1, lo, .inr (some o) :: sk, h) res ↔ hK h o = 8 ∧ X xs L d 71 (4, lo, .inr (hR h o 6) :: sk, h) res := i_getR k_71_1
theorem e_71_4 {v : Option Nat} : X xs L d 71 (4, lo, .inr v :: sk, h) res ↔ X xs L d 71 (if v = none then 26 else 7, lo, sk, h) res := i_ifnull k_71_4
theorem e_71_7 {x : Int32} {a0 : Option AV} : X xs L d 71 (7, [a0, some (.inl x)], sk, h) res ↔ X xs L d 71 (8, [a0, some (.inl x)], .inl x :: sk, h) res := i_iload_n k_71_7 rfl
theorem e_71_8 {x : Int32} : X xs L d 71 (8, lo, .inl x :: sk, h) res ↔ (if x < 0 then X xs L d 71 (26, lo, sk, h) res else X xs L d 71 (11, lo, sk, h) res) := i_if_lt k_71_8
theorem e_71_11 {x : Int32} {a0 : Option AV} : X xs L d 71 (11, [a0, some (.inl x)], sk, h) res ↔ X xs L d 71 (12, [a0, some (.inl x)], .inl x :: sk, h) res := i_iload_n k_71_11 rfl
theorem e_71_12 {x : Option Nat} {a1 : Option AV} : X xs L d 71 (12, [some (.inr x), a1], sk, h) res ↔ X xs L d 71 (13, [some (.inr x), a1], .inr x :: sk, h) res := i_aload_n k_71_12 rfl
theorem e_71_13 {o : Nat} : X xs L d 71 (13, lo, .inr (some o) :: sk, h) res ↔ hK h o = 8 ∧ X xs L d 71 (16, lo, .inr (hR h o 6) :: sk, h) res := i_getR k_71_13
theorem e_71_16 {o : Nat} : X xs L d 71 (16, lo, .inr (some o) :: sk, h) res ↔ hK h o = 4 ∧ X xs L d 71 (19, lo, .inl (hI h o 3) :: sk, h) res := i_getI k_71_16
theorem e_71_19 {x y : Int32} : X xs L d 71 (19, lo, .inl y :: .inl x :: sk, h) res ↔ (if y ≤ x then X xs L d 71 (26, lo, sk, h) res else X xs L d 71 (22, lo, sk, h) res) := i_icmp_ge k_71_19
theorem e_71_22 : X xs L d 71 (22, lo, sk, h) res ↔ X xs L d 71 (23, lo, .inl 1 :: sk, h) res := i_iconst k_71_22
theorem e_71_23 : X xs L d 71 (23, lo, sk, h) res ↔ X xs L d 71 (27, lo, sk, h) res := i_goto k_71_23
theorem e_71_26 : X xs L d 71 (26, lo, sk, h) res ↔ X xs L d 71 (27, lo, .inl 0 :: sk, h) res := i_iconst k_71_26
theorem e_71_27 {v : Int32} : X xs L d 71 (27, lo, [.inl v], h) res ↔ (v = 0 ∨ v = 1) ∧ res = (some (.inl v), h) := i_zret k_71_27 rfl
theorem k_72_0 : am_cd 72 0 = some (.aload_n 0, 1, [], [])   := rfl
theorem k_72_1 : am_cd 72 1 = some (.getfield 26, 3, [8, 2, 2], [(0, 230)])   := rfl
theorem k_72_4 : am_cd 72 4 = some (.getfield 85, 3, [3, 4, 0], [(0, 193)])   := rfl
theorem k_72_7 : am_cd 72 7 = some (.iconst 3, 1, [], [(3, 0)])   := rfl
theorem k_72_8 : am_cd 72 8 = some (.if_icmp .ne 5, 3, [13], [])   := rfl
theorem k_72_11 : am_cd 72 11 = some (.iconst 5, 1, [], [(5, 0)])   := rfl
theorem k_72_12 : am_cd 72 12 = some (.ireturn, 1, [], [])   := rfl
theorem k_72_13 : am_cd 72 13 = some (.aload_n 0, 1, [], [])   := rfl
theorem k_72_14 : am_cd 72 14 = some (.getfield 26, 3, [8, 2, 2], [(0, 230)])   := rfl
theorem k_72_17 : am_cd 72 17 = some (.getfield 85, 3, [3, 4, 0], [(0, 193)])   := rfl
theorem k_72_20 : am_cd 72 20 = some (.iconst 2, 1, [], [(2, 0)])   := rfl
theorem k_72_21 : am_cd 72 21 = some (.if_icmp .ne 5, 3, [26], [])   := rfl
theorem k_72_24 : am_cd 72 24 = some (.iconst 4, 1, [], [(4, 0)])   := rfl
theorem k_72_25 : am_cd 72 25 = some (.ireturn, 1, [], [])   := rfl
theorem k_72_26 : am_cd 72 26 = some (.aload_n 0, 1, [], [])   := rfl
theorem k_72_27 : am_cd 72 27 = some (.getfield 65, 3, [8, 7, 1], [(0, 235)])   := rfl
theorem k_72_30 : am_cd 72 30 = some (.ifCond .eq 15, 3, [45], [])   := rfl
theorem k_72_33 : am_cd 72 33 = some (.aload_n 0, 1, [], [])   := rfl
theorem k_72_34 : am_cd 72 34 = some (.getfield 26, 3, [8, 2, 2], [(0, 230)])   := rfl
theorem k_72_37 : am_cd 72 37 = some (.getfield 152, 3, [3, 9, 1], [(0, 202)])   := rfl
theorem k_72_40 : am_cd 72 40 = some (.ifCond .eq 5, 3, [45], [])   := rfl
theorem k_72_43 : am_cd 72 43 = some (.iconst 3, 1, [], [(3, 0)])   := rfl
theorem k_72_44 : am_cd 72 44 = some (.ireturn, 1, [], [])   := rfl
theorem k_72_45 : am_cd 72 45 = some (.iload_n 3, 1, [], [])   := rfl
theorem k_72_46 : am_cd 72 46 = some (.ifCond .eq 5, 3, [51], [])   := rfl
theorem k_72_49 : am_cd 72 49 = some (.iconst 1, 1, [], [(1, 0)])   := rfl
theorem k_72_50 : am_cd 72 50 = some (.ireturn, 1, [], [])   := rfl
theorem k_72_51 : am_cd 72 51 = some (.aload_n 0, 1, [], [])   := rfl
theorem k_72_52 : am_cd 72 52 = some (.iload_n 1, 1, [], [])   := rfl
theorem k_72_53 : am_cd 72 53 = some (.iload_n 2, 1, [], [])   := rfl
theorem k_72_54 : am_cd 72 54 = some (.invokevirtual 155, 3, [73, 3, 8], [(0, 648), (0, 650), (0, 28)])   := rfl
theorem k_72_57 : am_cd 72 57 = some (.ifCond .eq 7, 3, [64], [])   := rfl
theorem k_72_60 : am_cd 72 60 = some (.iconst 2, 1, [], [(2, 0)])   := rfl
theorem k_72_61 : am_cd 72 61 = some (.goto 4, 3, [65], [])   := rfl
theorem k_72_64 : am_cd 72 64 = some (.iconst 0, 1, [], [(0, 0)])   := rfl
theorem k_72_65 : am_cd 72 65 = some (.ireturn, 1, [], [])   := rfl
theorem e_72_0 {x : Option Nat} {a1 a2 a3 : Option AV} : X xs L d 72 (0, [some (.inr x), a1, a2, a3], sk, h) res ↔ X xs L d 72 (1, [some (.inr x), a1, a2, a3], .inr x :: sk, h) res := i_aload_n k_72_0 rfl
theorem e_72_1 {o : Nat} : X xs L d 72 (1, lo, .inr (some o) :: sk, h) res ↔ hK h o = 8 ∧ X xs L d 72 (4, lo, .inr (hR h o 2) :: sk, h) res := i_getR k_72_1
theorem e_72_4 {o : Nat} : X xs L d 72 (4, lo, .inr (some o) :: sk, h) res ↔ hK h o = 3 ∧ X xs L d 72 (7, lo, .inl (hI h o 4) :: sk, h) res := i_getI k_72_4
theorem e_72_7 : X xs L d 72 (7, lo, sk, h) res ↔ X xs L d 72 (8, lo, .inl 3 :: sk, h) res := i_iconst k_72_7
theorem e_72_8 {x y : Int32} : X xs L d 72 (8, lo, .inl y :: .inl x :: sk, h) res ↔ (if x = y then X xs L d 72 (11, lo, sk, h) res else X xs L d 72 (13, lo, sk, h) res) := i_icmp_ne k_72_8
theorem e_72_11 : X xs L d 72 (11, lo, sk, h) res ↔ X xs L d 72 (12, lo, .inl 5 :: sk, h) res := i_iconst k_72_11
theorem e_72_12 {v : Int32} : X xs L d 72 (12, lo, [.inl v], h) res ↔ res = (some (.inl v), h) := i_iret k_72_12 rfl
theorem e_72_13 {x : Option Nat} {a1 a2 a3 : Option AV} : X xs L d 72 (13, [some (.inr x), a1, a2, a3], sk, h) res ↔ X xs L d 72 (14, [some (.inr x), a1, a2, a3], .inr x :: sk, h) res := i_aload_n k_72_13 rfl
theorem e_72_14 {o : Nat} : X xs L d 72 (14, lo, .inr (some o) :: sk, h) res ↔ hK h o = 8 ∧ X xs L d 72 (17, lo, .inr (hR h o 2) :: sk, h) res := i_getR k_72_14
theorem e_72_17 {o : Nat} : X xs L d 72 (17, lo, .inr (some o) :: sk, h) res ↔ hK h o = 3 ∧ X xs L d 72 (20, lo, .inl (hI h o 4) :: sk, h) res := i_getI k_72_17
theorem e_72_20 : X xs L d 72 (20, lo, sk, h) res ↔ X xs L d 72 (21, lo, .inl 2 :: sk, h) res := i_iconst k_72_20
theorem e_72_21 {x y : Int32} : X xs L d 72 (21, lo, .inl y :: .inl x :: sk, h) res ↔ (if x = y then X xs L d 72 (24, lo, sk, h) res else X xs L d 72 (26, lo, sk, h) res) := i_icmp_ne k_72_21
theorem e_72_24 : X xs L d 72 (24, lo, sk, h) res ↔ X xs L d 72 (25, lo, .inl 4 :: sk, h) res := i_iconst k_72_24
theorem e_72_25 {v : Int32} : X xs L d 72 (25, lo, [.inl v], h) res ↔ res = (some (.inl v), h) := i_iret k_72_25 rfl
theorem e_72_26 {x : Option Nat} {a1 a2 a3 : Option AV} : X xs L d 72 (26, [some (.inr x), a1, a2, a3], sk, h) res ↔ X xs L d 72 (27, [some (.inr x), a1, a2, a3], .inr x :: sk, h) res := i_aload_n k_72_26 rfl
theorem e_72_27 {o : Nat} : X xs L d 72 (27, lo, .inr (some o) :: sk, h) res ↔ hK h o = 8 ∧ X xs L d 72 (30, lo, .inl (hI h o 7) :: sk, h) res := i_getZ k_72_27
theorem e_72_30 {x : Int32} : X xs L d 72 (30, lo, .inl x :: sk, h) res ↔ (if x = 0 then X xs L d 72 (45, lo, sk, h) res else X xs L d 72 (33, lo, sk, h) res) := i_if_eq k_72_30
theorem e_72_33 {x : Option Nat} {a1 a2 a3 : Option AV} : X xs L d 72 (33, [some (.inr x), a1, a2, a3], sk, h) res ↔ X xs L d 72 (34, [some (.inr x), a1, a2, a3], .inr x :: sk, h) res := i_aload_n k_72_33 rfl
theorem e_72_34 {o : Nat} : X xs L d 72 (34, lo, .inr (some o) :: sk, h) res ↔ hK h o = 8 ∧ X xs L d 72 (37, lo, .inr (hR h o 2) :: sk, h) res := i_getR k_72_34
theorem e_72_37 {o : Nat} : X xs L d 72 (37, lo, .inr (some o) :: sk, h) res ↔ hK h o = 3 ∧ X xs L d 72 (40, lo, .inl (hI h o 9) :: sk, h) res := i_getZ k_72_37
theorem e_72_40 {x : Int32} : X xs L d 72 (40, lo, .inl x :: sk, h) res ↔ (if x = 0 then X xs L d 72 (45, lo, sk, h) res else X xs L d 72 (43, lo, sk, h) res) := i_if_eq k_72_40
theorem e_72_43 : X xs L d 72 (43, lo, sk, h) res ↔ X xs L d 72 (44, lo, .inl 3 :: sk, h) res := i_iconst k_72_43
theorem e_72_44 {v : Int32} : X xs L d 72 (44, lo, [.inl v], h) res ↔ res = (some (.inl v), h) := i_iret k_72_44 rfl
theorem e_72_45 {x : Int32} {a0 a1 a2 : Option AV} : X xs L d 72 (45, [a0, a1, a2, some (.inl x)], sk, h) res ↔ X xs L d 72 (46, [a0, a1, a2, some (.inl x)], .inl x :: sk, h) res := i_iload_n k_72_45 rfl
theorem e_72_46 {x : Int32} : X xs L d 72 (46, lo, .inl x :: sk, h) res ↔ (if x = 0 then X xs L d 72 (51, lo, sk, h) res else X xs L d 72 (49, lo, sk, h) res) := i_if_eq k_72_46
theorem e_72_49 : X xs L d 72 (49, lo, sk, h) res ↔ X xs L d 72 (50, lo, .inl 1 :: sk, h) res := i_iconst k_72_49
theorem e_72_50 {v : Int32} : X xs L d 72 (50, lo, [.inl v], h) res ↔ res = (some (.inl v), h) := i_iret k_72_50 rfl
theorem e_72_51 {x : Option Nat} {a1 a2 a3 : Option AV} : X xs L d 72 (51, [some (.inr x), a1, a2, a3], sk, h) res ↔ X xs L d 72 (52, [some (.inr x), a1, a2, a3], .inr x :: sk, h) res := i_aload_n k_72_51 rfl
theorem e_72_52 {x : Int32} {a0 a2 a3 : Option AV} : X xs L d 72 (52, [a0, some (.inl x), a2, a3], sk, h) res ↔ X xs L d 72 (53, [a0, some (.inl x), a2, a3], .inl x :: sk, h) res := i_iload_n k_72_52 rfl
theorem e_72_53 {x : Int32} {a0 a1 a3 : Option AV} : X xs L d 72 (53, [a0, a1, some (.inl x), a3], sk, h) res ↔ X xs L d 72 (54, [a0, a1, some (.inl x), a3], .inl x :: sk, h) res := i_iload_n k_72_53 rfl
theorem e_72_54 {o : Nat} {v0 : Int32} {v1 : Int32} (hs : sk.length ≤ 8) : X xs L d 72 (54, lo, .inl v1 :: .inl v0 :: .inr (some o) :: sk, h) res ↔ hK h o = 8 ∧ ∃ q : Res, Rn xs L d 73 [.inr (some o), .inl v0, .inl v1] h q ∧ X xs L d 72 (57, lo, q.1.toList ++ sk, q.2) res := i_callV k_72_54 rfl ⟨Nat.le_add_left 3 sk.length, Nat.le_trans (Nat.add_le_add_right hs 3) (Nat.le_of_eq (Nat.add_comm 8 3))⟩
theorem e_72_57 {x : Int32} : X xs L d 72 (57, lo, .inl x :: sk, h) res ↔ (if x = 0 then X xs L d 72 (64, lo, sk, h) res else X xs L d 72 (60, lo, sk, h) res) := i_if_eq k_72_57
theorem e_72_60 : X xs L d 72 (60, lo, sk, h) res ↔ X xs L d 72 (61, lo, .inl 2 :: sk, h) res := i_iconst k_72_60
theorem e_72_61 : X xs L d 72 (61, lo, sk, h) res ↔ X xs L d 72 (65, lo, sk, h) res := i_goto k_72_61
theorem e_72_64 : X xs L d 72 (64, lo, sk, h) res ↔ X xs L d 72 (65, lo, .inl 0 :: sk, h) res := i_iconst k_72_64
theorem e_72_65 {v : Int32} : X xs L d 72 (65, lo, [.inl v], h) res ↔ res = (some (.inl v), h) := i_iret k_72_65 rfl
theorem k_73_0 : am_cd 73 0 = some (.iload_n 1, 1, [], [])   := rfl
theorem k_73_1 : am_cd 73 1 = some (.iconst 1, 1, [], [(1, 0)])   := rfl
theorem k_73_2 : am_cd 73 2 = some (.if_icmp .eq 35, 3, [37], [])   := rfl
theorem k_73_5 : am_cd 73 5 = some (.iload_n 1, 1, [], [])   := rfl
theorem k_73_6 : am_cd 73 6 = some (.iconst 2, 1, [], [(2, 0)])   := rfl
theorem k_73_7 : am_cd 73 7 = some (.if_icmp .ne 14, 3, [21], [])   := rfl
theorem k_73_10 : am_cd 73 10 = some (.aload_n 0, 1, [], [])   := rfl
theorem k_73_11 : am_cd 73 11 = some (.getfield 26, 3, [8, 2, 2], [(0, 230)])   := rfl
theorem k_73_14 : am_cd 73 14 = some (.getfield 105, 3, [3, 6, 0], [(0, 197)])   := rfl
theorem k_73_17 : am_cd 73 17 = some (.iload_n 2, 1, [], [])   := rfl
theorem k_73_18 : am_cd 73 18 = some (.if_icmp .le 19, 3, [37], [])   := rfl
theorem k_73_21 : am_cd 73 21 = some (.iload_n 1, 1, [], [])   := rfl
theorem k_73_22 : am_cd 73 22 = some (.iconst 3, 1, [], [(3, 0)])   := rfl
theorem k_73_23 : am_cd 73 23 = some (.if_icmp .ne 18, 3, [41], [])   := rfl
theorem k_73_26 : am_cd 73 26 = some (.aload_n 0, 1, [], [])   := rfl
theorem k_73_27 : am_cd 73 27 = some (.getfield 26, 3, [8, 2, 2], [(0, 230)])   := rfl
theorem k_73_30 : am_cd 73 30 = some (.getfield 105, 3, [3, 6, 0], [(0, 197)])   := rfl
theorem k_73_33 : am_cd 73 33 = some (.iload_n 2, 1, [], [])   := rfl
theorem k_73_34 : am_cd 73 34 = some (.if_icmp .ge 7, 3, [41], [])   := rfl
theorem k_73_37 : am_cd 73 37 = some (.iconst 1, 1, [], [(1, 0)])   := rfl
theorem k_73_38 : am_cd 73 38 = some (.goto 4, 3, [42], [])   := rfl
theorem k_73_41 : am_cd 73 41 = some (.iconst 0, 1, [], [(0, 0)])   := rfl
theorem k_73_42 : am_cd 73 42 = some (.ireturn, 1, [], [])   := rfl
theorem e_73_0 {x : Int32} {a0 a2 : Option AV} : X xs L d 73 (0, [a0, some (.inl x), a2], sk, h) res ↔ X xs L d 73 (1, [a0, some (.inl x), a2], .inl x :: sk, h) res := i_iload_n k_73_0 rfl
theorem e_73_1 : X xs L d 73 (1, lo, sk, h) res ↔ X xs L d 73 (2, lo, .inl 1 :: sk, h) res := i_iconst k_73_1
theorem e_73_2 {x y : Int32} : X xs L d 73 (2, lo, .inl y :: .inl x :: sk, h) res ↔ (if x = y then X xs L d 73 (37, lo, sk, h) res else X xs L d 73 (5, lo, sk, h) res) := i_icmp_eq k_73_2
theorem e_73_5 {x : Int32} {a0 a2 : Option AV} : X xs L d 73 (5, [a0, some (.inl x), a2], sk, h) res ↔ X xs L d 73 (6, [a0, some (.inl x), a2], .inl x :: sk, h) res := i_iload_n k_73_5 rfl
theorem e_73_6 : X xs L d 73 (6, lo, sk, h) res ↔ X xs L d 73 (7, lo, .inl 2 :: sk, h) res := i_iconst k_73_6
theorem e_73_7 {x y : Int32} : X xs L d 73 (7, lo, .inl y :: .inl x :: sk, h) res ↔ (if x = y then X xs L d 73 (10, lo, sk, h) res else X xs L d 73 (21, lo, sk, h) res) := i_icmp_ne k_73_7
theorem e_73_10 {x : Option Nat} {a1 a2 : Option AV} : X xs L d 73 (10, [some (.inr x), a1, a2], sk, h) res ↔ X xs L d 73 (11, [some (.inr x), a1, a2], .inr x :: sk, h) res := i_aload_n k_73_10 rfl
theorem e_73_11 {o : Nat} : X xs L d 73 (11, lo, .inr (some o) :: sk, h) res ↔ hK h o = 8 ∧ X xs L d 73 (14, lo, .inr (hR h o 2) :: sk, h) res := i_getR k_73_11
theorem e_73_14 {o : Nat} : X xs L d 73 (14, lo, .inr (some o) :: sk, h) res ↔ hK h o = 3 ∧ X xs L d 73 (17, lo, .inl (hI h o 6) :: sk, h) res := i_getI k_73_14
theorem e_73_17 {x : Int32} {a0 a1 : Option AV} : X xs L d 73 (17, [a0, a1, some (.inl x)], sk, h) res ↔ X xs L d 73 (18, [a0, a1, some (.inl x)], .inl x :: sk, h) res := i_iload_n k_73_17 rfl
theorem e_73_18 {x y : Int32} : X xs L d 73 (18, lo, .inl y :: .inl x :: sk, h) res ↔ (if x ≤ y then X xs L d 73 (37, lo, sk, h) res else X xs L d 73 (21, lo, sk, h) res) := i_icmp_le k_73_18
theorem e_73_21 {x : Int32} {a0 a2 : Option AV} : X xs L d 73 (21, [a0, some (.inl x), a2], sk, h) res ↔ X xs L d 73 (22, [a0, some (.inl x), a2], .inl x :: sk, h) res := i_iload_n k_73_21 rfl
theorem e_73_22 : X xs L d 73 (22, lo, sk, h) res ↔ X xs L d 73 (23, lo, .inl 3 :: sk, h) res := i_iconst k_73_22
theorem e_73_23 {x y : Int32} : X xs L d 73 (23, lo, .inl y :: .inl x :: sk, h) res ↔ (if x = y then X xs L d 73 (26, lo, sk, h) res else X xs L d 73 (41, lo, sk, h) res) := i_icmp_ne k_73_23
theorem e_73_26 {x : Option Nat} {a1 a2 : Option AV} : X xs L d 73 (26, [some (.inr x), a1, a2], sk, h) res ↔ X xs L d 73 (27, [some (.inr x), a1, a2], .inr x :: sk, h) res := i_aload_n k_73_26 rfl
theorem e_73_27 {o : Nat} : X xs L d 73 (27, lo, .inr (some o) :: sk, h) res ↔ hK h o = 8 ∧ X xs L d 73 (30, lo, .inr (hR h o 2) :: sk, h) res := i_getR k_73_27
theorem e_73_30 {o : Nat} : X xs L d 73 (30, lo, .inr (some o) :: sk, h) res ↔ hK h o = 3 ∧ X xs L d 73 (33, lo, .inl (hI h o 6) :: sk, h) res := i_getI k_73_30
theorem e_73_33 {x : Int32} {a0 a1 : Option AV} : X xs L d 73 (33, [a0, a1, some (.inl x)], sk, h) res ↔ X xs L d 73 (34, [a0, a1, some (.inl x)], .inl x :: sk, h) res := i_iload_n k_73_33 rfl
theorem e_73_34 {x y : Int32} : X xs L d 73 (34, lo, .inl y :: .inl x :: sk, h) res ↔ (if y ≤ x then X xs L d 73 (41, lo, sk, h) res else X xs L d 73 (37, lo, sk, h) res) := i_icmp_ge k_73_34
theorem e_73_37 : X xs L d 73 (37, lo, sk, h) res ↔ X xs L d 73 (38, lo, .inl 1 :: sk, h) res := i_iconst k_73_37
theorem e_73_38 : X xs L d 73 (38, lo, sk, h) res ↔ X xs L d 73 (42, lo, sk, h) res := i_goto k_73_38
theorem e_73_41 : X xs L d 73 (41, lo, sk, h) res ↔ X xs L d 73 (42, lo, .inl 0 :: sk, h) res := i_iconst k_73_41
theorem e_73_42 {v : Int32} : X xs L d 73 (42, lo, [.inl v], h) res ↔ (v = 0 ∨ v = 1) ∧ res = (some (.inl v), h) := i_zret k_73_42 rfl
theorem k_74_0 : am_cd 74 0 = some (.aload_n 0, 1, [], [])   := rfl
theorem k_74_1 : am_cd 74 1 = some (.getfield 26, 3, [8, 2, 2], [(0, 230)])   := rfl
theorem k_74_4 : am_cd 74 4 = some (.iconst 0, 1, [], [(0, 0)])   := rfl
theorem k_74_5 : am_cd 74 5 = some (.invokevirtual 122, 3, [11, 2, 3], [(0, 634), (0, 635), (0, 636)])   := rfl
theorem k_74_8 : am_cd 74 8 = some (.astore_n 1, 1, [], [])   := rfl
theorem k_74_9 : am_cd 74 9 = some (.aload_n 1, 1, [], [])   := rfl
theorem k_74_10 : am_cd 74 10 = some (.ifnull 14, 3, [24], [])   := rfl
theorem k_74_13 : am_cd 74 13 = some (.aload_n 0, 1, [], [])   := rfl
theorem k_74_14 : am_cd 74 14 = some (.aload_n 1, 1, [], [])   := rfl
theorem k_74_15 : am_cd 74 15 = some (.getfield 126, 3, [2, 5, 0], [(0, 160)])   := rfl
theorem k_74_18 : am_cd 74 18 = some (.invokevirtual 98, 3, [71, 2, 8], [(0, 585), (0, 587), (0, 25)])   := rfl
theorem k_74_21 : am_cd 74 21 = some (.ifCond .ne 7, 3, [28], [])   := rfl
theorem k_74_24 : am_cd 74 24 = some (.aconst_null, 1, [], [])   := rfl
theorem k_74_25 : am_cd 74 25 = some (.goto 12, 3, [37], [])   := rfl
theorem k_74_28 : am_cd 74 28 = some (.aload_n 0, 1, [], [])   := rfl
theorem k_74_29 : am_cd 74 29 = some (.getfield 42, 3, [8, 5, 2], [(0, 233)])   := rfl
theorem k_74_32 : am_cd 74 32 = some (.aload_n 1, 1, [], [])   := rfl
theorem k_74_33 : am_cd 74 33 = some (.getfield 126, 3, [2, 5, 0], [(0, 160)])   := rfl
theorem k_74_36 : am_cd 74 36 = some (.aaload, 1, [], [])   := rfl
theorem k_74_37 : am_cd 74 37 = some (.astore_n 2, 1, [], [])   := rfl
theorem k_74_38 : am_cd 74 38 = some (.aload_n 2, 1, [], [])   := rfl
theorem k_74_39 : am_cd 74 39 = some (.ifnonnull 5, 3, [44], [])   := rfl
theorem k_74_42 : am_cd 74 42 = some (.iconst 0, 1, [], [(0, 0)])   := rfl
theorem k_74_43 : am_cd 74 43 = some (.ireturn, 1, [], [])   := rfl
theorem k_74_44 : am_cd 74 44 = some (.iconst 0, 1, [], [(0, 0)])   := rfl
theorem k_74_45 : am_cd 74 45 = some (.istore_n 3, 1, [], [])   := rfl
theorem k_74_46 : am_cd 74 46 = some (.aload_n 2, 1, [], [])   := rfl
theorem k_74_47 : am_cd 74 47 = some (.getfield 158, 3, [0, 0, 2], [(0, 595)])   := rfl
theorem k_74_50 : am_cd 74 50 = some (.ifnull 44, 3, [94], [])   := rfl
theorem k_74_53 : am_cd 74 53 = some (.aload_n 0, 1, [], [])   := rfl
theorem k_74_54 : am_cd 74 54 = some (.getfield 30, 3, [8, 3, 2], [(0, 231)])   := rfl
theorem k_74_57 : am_cd 74 57 = some (.aload_n 0, 1, [], [])   := rfl
theorem k_74_58 : am_cd 74 58 = some (.getfield 57, 3, [8, 6, 2], [(0, 234)])   := rfl
theorem k_74_61 : am_cd 74 61 = some (.aload_n 1, 1, [], [])   := rfl
theorem k_74_62 : am_cd 74 62 = some (.aload_n 2, 1, [], [])   := rfl
theorem k_74_63 : am_cd 74 63 = some (.getfield 158, 3, [0, 0, 2], [(0, 595)])   := rfl
theorem k_74_66 : am_cd 74 66 = some (.invokevirtual 142, 3, [10, 4, 3], [(0, 638), (0, 639), (0, 640)])   := rfl
theorem k_74_69 : am_cd 74 69 = some (.aload_n 0, 1, [], [])   := rfl
theorem k_74_70 : am_cd 74 70 = some (.getfield 30, 3, [8, 3, 2], [(0, 231)])   := rfl
theorem k_74_73 : am_cd 74 73 = some (.getfield 88, 3, [3, 5, 0], [(0, 195)])   := rfl
theorem k_74_76 : am_cd 74 76 = some (.istore_n 3, 1, [], [])   := rfl
theorem k_74_77 : am_cd 74 77 = some (.aload_n 0, 1, [], [])   := rfl
theorem k_74_78 : am_cd 74 78 = some (.getfield 30, 3, [8, 3, 2], [(0, 231)])   := rfl
theorem k_74_81 : am_cd 74 81 = some (.getfield 85, 3, [3, 4, 0], [(0, 193)])   := rfl
theorem k_74_84 : am_cd 74 84 = some (.iconst 2, 1, [], [(2, 0)])   := rfl
theorem k_74_85 : am_cd 74 85 = some (.if_icmp .ne 7, 3, [92], [])   := rfl
theorem k_74_88 : am_cd 74 88 = some (.iload_n 3, 1, [], [])   := rfl
theorem k_74_89 : am_cd 74 89 = some (.ifCond .ne 5, 3, [94], [])   := rfl
theorem k_74_92 : am_cd 74 92 = some (.iconst 0, 1, [], [(0, 0)])   := rfl
theorem k_74_93 : am_cd 74 93 = some (.ireturn, 1, [], [])   := rfl
theorem k_74_94 : am_cd 74 94 = some (.aload_n 2, 1, [], [])   := rfl
theorem k_74_95 : am_cd 74 95 = some (.dup, 1, [], [])   := rfl
theorem k_74_96 : am_cd 74 96 = some (.getfield 78, 3, [0, 3, 0], [(0, 600)])   := rfl
theorem k_74_99 : am_cd 74 99 = some (.iconst 1, 1, [], [(1, 0)])   := rfl
theorem k_74_100 : am_cd 74 100 = some (.iadd, 1, [], [])   := rfl
theorem k_74_101 : am_cd 74 101 = some (.putfield 78, 3, [0, 3, 0], [(0, 600)])   := rfl
theorem k_74_104 : am_cd 74 104 = some (.aload_n 2, 1, [], [])   := rfl
theorem k_74_105 : am_cd 74 105 = some (.getfield 78, 3, [0, 3, 0], [(0, 600)])   := rfl
theorem k_74_108 : am_cd 74 108 = some (.aload_n 2, 1, [], [])   := rfl
theorem k_74_109 : am_cd 74 109 = some (.getfield 162, 3, [0, 1, 0], [(0, 597)])   := rfl
theorem k_74_112 : am_cd 74 112 = some (.if_icmp .gt 5, 3, [117], [])   := rfl
theorem k_74_115 : am_cd 74 115 = some (.iconst 0, 1, [], [(0, 0)])   := rfl
theorem k_74_116 : am_cd 74 116 = some (.ireturn, 1, [], [])   := rfl
theorem k_74_117 : am_cd 74 117 = some (.aload_n 2, 1, [], [])   := rfl
theorem k_74_118 : am_cd 74 118 = some (.getfield 165, 3, [0, 2, 1], [(0, 599)])   := rfl
theorem k_74_121 : am_cd 74 121 = some (.ifCond .eq 11, 3, [132], [])   := rfl
theorem k_74_124 : am_cd 74 124 = some (.aload_n 0, 1, [], [])   := rfl
theorem k_74_125 : am_cd 74 125 = some (.getfield 36, 3, [8, 4, 2], [(0, 232)])   := rfl
theorem k_74_128 : am_cd 74 128 = some (.iload_n 3, 1, [], [])   := rfl
theorem k_74_129 : am_cd 74 129 = some (.invokevirtual 168, 3, [22, 2, 5], [(0, 643), (0, 562), (0, 563)])   := rfl
theorem k_74_132 : am_cd 74 132 = some (.aload_n 2, 1, [], [])   := rfl
theorem k_74_133 : am_cd 74 133 = some (.getfield 165, 3, [0, 2, 1], [(0, 599)])   := rfl
theorem k_74_136 : am_cd 74 136 = some (.ifCond .ne 7, 3, [143], [])   := rfl
theorem k_74_139 : am_cd 74 139 = some (.iconst 1, 1, [], [(1, 0)])   := rfl
theorem k_74_140 : am_cd 74 140 = some (.goto 4, 3, [144], [])   := rfl
theorem k_74_143 : am_cd 74 143 = some (.iconst 0, 1, [], [(0, 0)])   := rfl
theorem k_74_144 : am_cd 74 144 = some (.ireturn, 1, [], [])   := rfl
theorem e_74_0 {x : Option Nat} {a1 a2 a3 : Option AV} : X xs L d 74 (0, [some (.inr x), a1, a2, a3], sk, h) res ↔ X xs L d 74 (1, [some (.inr x), a1, a2, a3], .inr x :: sk, h) res := i_aload_n k_74_0 rfl
theorem e_74_1 {o : Nat} : X xs L d 74 (1, lo, .inr (some o) :: sk, h) res ↔ hK h o = 8 ∧ X xs L d 74 (4, lo, .inr (hR h o 2) :: sk, h) res := i_getR k_74_1
theorem e_74_4 : X xs L d 74 (4, lo, sk, h) res ↔ X xs L d 74 (5, lo, .inl 0 :: sk, h) res := i_iconst k_74_4
theorem e_74_5 {o : Nat} {v0 : Int32} (hs : sk.length ≤ 8) : X xs L d 74 (5, lo, .inl v0 :: .inr (some o) :: sk, h) res ↔ hK h o = 3 ∧ ∃ q : Res, Rn xs L d 11 [.inr (some o), .inl v0] h q ∧ X xs L d 74 (8, lo, q.1.toList ++ sk, q.2) res := i_callV k_74_5 rfl ⟨Nat.le_add_left 2 sk.length, Nat.le_trans (Nat.add_le_add_right hs 2) (Nat.le_of_eq (Nat.add_comm 8 2))⟩
theorem e_74_8 {x : Option Nat} {a0 a1 a2 a3 : Option AV} : X xs L d 74 (8, [a0, a1, a2, a3], .inr x :: sk, h) res ↔ X xs L d 74 (9, [a0, some (.inr x), a2, a3], sk, h) res := i_astore_n k_74_8 (Nat.le_of_ble_eq_true rfl) rfl
theorem e_74_9 {x : Option Nat} {a0 a2 a3 : Option AV} : X xs L d 74 (9, [a0, some (.inr x), a2, a3], sk, h) res ↔ X xs L d 74 (10, [a0, some (.inr x), a2, a3], .inr x :: sk, h) res := i_aload_n k_74_9 rfl
theorem e_74_10 {v : Option Nat} : X xs L d 74 (10, lo, .inr v :: sk, h) res ↔ X xs L d 74 (if v = none then 24 else 13, lo, sk, h) res := i_ifnull k_74_10
theorem e_74_13 {x : Option Nat} {a1 a2 a3 : Option AV} : X xs L d 74 (13, [some (.inr x), a1, a2, a3], sk, h) res ↔ X xs L d 74 (14, [some (.inr x), a1, a2, a3], .inr x :: sk, h) res := i_aload_n k_74_13 rfl
theorem e_74_14 {x : Option Nat} {a0 a2 a3 : Option AV} : X xs L d 74 (14, [a0, some (.inr x), a2, a3], sk, h) res ↔ X xs L d 74 (15, [a0, some (.inr x), a2, a3], .inr x :: sk, h) res := i_aload_n k_74_14 rfl
theorem e_74_15 {o : Nat} : X xs L d 74 (15, lo, .inr (some o) :: sk, h) res ↔ hK h o = 2 ∧ X xs L d 74 (18, lo, .inl (hI h o 5) :: sk, h) res := i_getI k_74_15
theorem e_74_18 {o : Nat} {v0 : Int32} (hs : sk.length ≤ 8) : X xs L d 74 (18, lo, .inl v0 :: .inr (some o) :: sk, h) res ↔ hK h o = 8 ∧ ∃ q : Res, Rn xs L d 71 [.inr (some o), .inl v0] h q ∧ X xs L d 74 (21, lo, q.1.toList ++ sk, q.2) res := i_callV k_74_18 rfl ⟨Nat.le_add_left 2 sk.length, Nat.le_trans (Nat.add_le_add_right hs 2) (Nat.le_of_eq (Nat.add_comm 8 2))⟩
theorem e_74_21 {x : Int32} : X xs L d 74 (21, lo, .inl x :: sk, h) res ↔ (if x = 0 then X xs L d 74 (24, lo, sk, h) res else X xs L d 74 (28, lo, sk, h) res) := i_if_ne k_74_21
theorem e_74_24 : X xs L d 74 (24, lo, sk, h) res ↔ X xs L d 74 (25, lo, .inr none :: sk, h) res := i_null k_74_24
theorem e_74_25 : X xs L d 74 (25, lo, sk, h) res ↔ X xs L d 74 (37, lo, sk, h) res := i_goto k_74_25
theorem e_74_28 {x : Option Nat} {a1 a2 a3 : Option AV} : X xs L d 74 (28, [some (.inr x), a1, a2, a3], sk, h) res ↔ X xs L d 74 (29, [some (.inr x), a1, a2, a3], .inr x :: sk, h) res := i_aload_n k_74_28 rfl
theorem e_74_29 {o : Nat} : X xs L d 74 (29, lo, .inr (some o) :: sk, h) res ↔ hK h o = 8 ∧ X xs L d 74 (32, lo, .inr (hR h o 5) :: sk, h) res := i_getR k_74_29
theorem e_74_32 {x : Option Nat} {a0 a2 a3 : Option AV} : X xs L d 74 (32, [a0, some (.inr x), a2, a3], sk, h) res ↔ X xs L d 74 (33, [a0, some (.inr x), a2, a3], .inr x :: sk, h) res := i_aload_n k_74_32 rfl
theorem e_74_33 {o : Nat} : X xs L d 74 (33, lo, .inr (some o) :: sk, h) res ↔ hK h o = 2 ∧ X xs L d 74 (36, lo, .inl (hI h o 5) :: sk, h) res := i_getI k_74_33
theorem e_74_36 {o : Nat} {i : Int32} : X xs L d 74 (36, lo, .inl i :: .inr (some o) :: sk, h) res ↔ ((hK h o = 23 ∨ hK h o = 24) ∧ vp_in i (hL h o)) ∧ X xs L d 74 (37, lo, .inr (hR h o i.toNatClampNeg) :: sk, h) res := i_aaload k_74_36
theorem e_74_37 {x : Option Nat} {a0 a1 a2 a3 : Option AV} : X xs L d 74 (37, [a0, a1, a2, a3], .inr x :: sk, h) res ↔ X xs L d 74 (38, [a0, a1, some (.inr x), a3], sk, h) res := i_astore_n k_74_37 (Nat.le_of_ble_eq_true rfl) rfl
theorem e_74_38 {x : Option Nat} {a0 a1 a3 : Option AV} : X xs L d 74 (38, [a0, a1, some (.inr x), a3], sk, h) res ↔ X xs L d 74 (39, [a0, a1, some (.inr x), a3], .inr x :: sk, h) res := i_aload_n k_74_38 rfl
theorem e_74_39 {v : Option Nat} : X xs L d 74 (39, lo, .inr v :: sk, h) res ↔ X xs L d 74 (if v = none then 42 else 44, lo, sk, h) res := i_ifnonnull k_74_39
theorem e_74_42 : X xs L d 74 (42, lo, sk, h) res ↔ X xs L d 74 (43, lo, .inl 0 :: sk, h) res := i_iconst k_74_42
theorem e_74_43 {v : Int32} : X xs L d 74 (43, lo, [.inl v], h) res ↔ (v = 0 ∨ v = 1) ∧ res = (some (.inl v), h) := i_zret k_74_43 rfl
theorem e_74_44 : X xs L d 74 (44, lo, sk, h) res ↔ X xs L d 74 (45, lo, .inl 0 :: sk, h) res := i_iconst k_74_44
theorem e_74_45 {x : Int32} {a0 a1 a2 a3 : Option AV} : X xs L d 74 (45, [a0, a1, a2, a3], .inl x :: sk, h) res ↔ X xs L d 74 (46, [a0, a1, a2, some (.inl x)], sk, h) res := i_istore_n k_74_45 (Nat.le_of_ble_eq_true rfl) rfl
theorem e_74_46 {x : Option Nat} {a0 a1 a3 : Option AV} : X xs L d 74 (46, [a0, a1, some (.inr x), a3], sk, h) res ↔ X xs L d 74 (47, [a0, a1, some (.inr x), a3], .inr x :: sk, h) res := i_aload_n k_74_46 rfl
theorem e_74_47 {o : Nat} : X xs L d 74 (47, lo, .inr (some o) :: sk, h) res ↔ hK h o = 0 ∧ X xs L d 74 (50, lo, .inr (hR h o 0) :: sk, h) res := i_getR k_74_47
theorem e_74_50 {v : Option Nat} : X xs L d 74 (50, lo, .inr v :: sk, h) res ↔ X xs L d 74 (if v = none then 94 else 53, lo, sk, h) res := i_ifnull k_74_50
theorem e_74_53 {x : Option Nat} {a1 a2 a3 : Option AV} : X xs L d 74 (53, [some (.inr x), a1, a2, a3], sk, h) res ↔ X xs L d 74 (54, [some (.inr x), a1, a2, a3], .inr x :: sk, h) res := i_aload_n k_74_53 rfl
theorem e_74_54 {o : Nat} : X xs L d 74 (54, lo, .inr (some o) :: sk, h) res ↔ hK h o = 8 ∧ X xs L d 74 (57, lo, .inr (hR h o 3) :: sk, h) res := i_getR k_74_54
theorem e_74_57 {x : Option Nat} {a1 a2 a3 : Option AV} : X xs L d 74 (57, [some (.inr x), a1, a2, a3], sk, h) res ↔ X xs L d 74 (58, [some (.inr x), a1, a2, a3], .inr x :: sk, h) res := i_aload_n k_74_57 rfl
theorem e_74_58 {o : Nat} : X xs L d 74 (58, lo, .inr (some o) :: sk, h) res ↔ hK h o = 8 ∧ X xs L d 74 (61, lo, .inr (hR h o 6) :: sk, h) res := i_getR k_74_58
theorem e_74_61 {x : Option Nat} {a0 a2 a3 : Option AV} : X xs L d 74 (61, [a0, some (.inr x), a2, a3], sk, h) res ↔ X xs L d 74 (62, [a0, some (.inr x), a2, a3], .inr x :: sk, h) res := i_aload_n k_74_61 rfl
theorem e_74_62 {x : Option Nat} {a0 a1 a3 : Option AV} : X xs L d 74 (62, [a0, a1, some (.inr x), a3], sk, h) res ↔ X xs L d 74 (63, [a0, a1, some (.inr x), a3], .inr x :: sk, h) res := i_aload_n k_74_62 rfl
theorem e_74_63 {o : Nat} : X xs L d 74 (63, lo, .inr (some o) :: sk, h) res ↔ hK h o = 0 ∧ X xs L d 74 (66, lo, .inr (hR h o 0) :: sk, h) res := i_getR k_74_63
theorem e_74_66 {o : Nat} {v0 : Option Nat} {v1 : Option Nat} {v2 : Option Nat} (hs : sk.length ≤ 8) : X xs L d 74 (66, lo, .inr v2 :: .inr v1 :: .inr v0 :: .inr (some o) :: sk, h) res ↔ hK h o = 3 ∧ ∃ q : Res, Rn xs L d 10 [.inr (some o), .inr v0, .inr v1, .inr v2] h q ∧ X xs L d 74 (69, lo, q.1.toList ++ sk, q.2) res := i_callV k_74_66 rfl ⟨Nat.le_add_left 4 sk.length, Nat.le_trans (Nat.add_le_add_right hs 4) (Nat.le_of_eq (Nat.add_comm 8 4))⟩
theorem e_74_69 {x : Option Nat} {a1 a2 a3 : Option AV} : X xs L d 74 (69, [some (.inr x), a1, a2, a3], sk, h) res ↔ X xs L d 74 (70, [some (.inr x), a1, a2, a3], .inr x :: sk, h) res := i_aload_n k_74_69 rfl
theorem e_74_70 {o : Nat} : X xs L d 74 (70, lo, .inr (some o) :: sk, h) res ↔ hK h o = 8 ∧ X xs L d 74 (73, lo, .inr (hR h o 3) :: sk, h) res := i_getR k_74_70
theorem e_74_73 {o : Nat} : X xs L d 74 (73, lo, .inr (some o) :: sk, h) res ↔ hK h o = 3 ∧ X xs L d 74 (76, lo, .inl (hI h o 5) :: sk, h) res := i_getI k_74_73
theorem e_74_76 {x : Int32} {a0 a1 a2 a3 : Option AV} : X xs L d 74 (76, [a0, a1, a2, a3], .inl x :: sk, h) res ↔ X xs L d 74 (77, [a0, a1, a2, some (.inl x)], sk, h) res := i_istore_n k_74_76 (Nat.le_of_ble_eq_true rfl) rfl
theorem e_74_77 {x : Option Nat} {a1 a2 a3 : Option AV} : X xs L d 74 (77, [some (.inr x), a1, a2, a3], sk, h) res ↔ X xs L d 74 (78, [some (.inr x), a1, a2, a3], .inr x :: sk, h) res := i_aload_n k_74_77 rfl
theorem e_74_78 {o : Nat} : X xs L d 74 (78, lo, .inr (some o) :: sk, h) res ↔ hK h o = 8 ∧ X xs L d 74 (81, lo, .inr (hR h o 3) :: sk, h) res := i_getR k_74_78
theorem e_74_81 {o : Nat} : X xs L d 74 (81, lo, .inr (some o) :: sk, h) res ↔ hK h o = 3 ∧ X xs L d 74 (84, lo, .inl (hI h o 4) :: sk, h) res := i_getI k_74_81
theorem e_74_84 : X xs L d 74 (84, lo, sk, h) res ↔ X xs L d 74 (85, lo, .inl 2 :: sk, h) res := i_iconst k_74_84
theorem e_74_85 {x y : Int32} : X xs L d 74 (85, lo, .inl y :: .inl x :: sk, h) res ↔ (if x = y then X xs L d 74 (88, lo, sk, h) res else X xs L d 74 (92, lo, sk, h) res) := i_icmp_ne k_74_85
theorem e_74_88 {x : Int32} {a0 a1 a2 : Option AV} : X xs L d 74 (88, [a0, a1, a2, some (.inl x)], sk, h) res ↔ X xs L d 74 (89, [a0, a1, a2, some (.inl x)], .inl x :: sk, h) res := i_iload_n k_74_88 rfl
theorem e_74_89 {x : Int32} : X xs L d 74 (89, lo, .inl x :: sk, h) res ↔ (if x = 0 then X xs L d 74 (92, lo, sk, h) res else X xs L d 74 (94, lo, sk, h) res) := i_if_ne k_74_89
theorem e_74_92 : X xs L d 74 (92, lo, sk, h) res ↔ X xs L d 74 (93, lo, .inl 0 :: sk, h) res := i_iconst k_74_92
theorem e_74_93 {v : Int32} : X xs L d 74 (93, lo, [.inl v], h) res ↔ (v = 0 ∨ v = 1) ∧ res = (some (.inl v), h) := i_zret k_74_93 rfl
theorem e_74_94 {x : Option Nat} {a0 a1 a3 : Option AV} : X xs L d 74 (94, [a0, a1, some (.inr x), a3], sk, h) res ↔ X xs L d 74 (95, [a0, a1, some (.inr x), a3], .inr x :: sk, h) res := i_aload_n k_74_94 rfl
theorem e_74_95 {v : AV} : X xs L d 74 (95, lo, v :: sk, h) res ↔ X xs L d 74 (96, lo, v :: v :: sk, h) res := i_dup k_74_95
theorem e_74_96 {o : Nat} : X xs L d 74 (96, lo, .inr (some o) :: sk, h) res ↔ hK h o = 0 ∧ X xs L d 74 (99, lo, .inl (hI h o 3) :: sk, h) res := i_getI k_74_96
theorem e_74_99 : X xs L d 74 (99, lo, sk, h) res ↔ X xs L d 74 (100, lo, .inl 1 :: sk, h) res := i_iconst k_74_99
theorem e_74_100 {x y : Int32} : X xs L d 74 (100, lo, .inl y :: .inl x :: sk, h) res ↔ X xs L d 74 (101, lo, .inl (x + y) :: sk, h) res := i_iadd k_74_100
theorem e_74_101 {o : Nat} {v : Int32} : X xs L d 74 (101, lo, .inl v :: .inr (some o) :: sk, h) res ↔ hK h o = 0 ∧ X xs L d 74 (104, lo, sk, sI h o 3 v) res := i_putI k_74_101
theorem e_74_104 {x : Option Nat} {a0 a1 a3 : Option AV} : X xs L d 74 (104, [a0, a1, some (.inr x), a3], sk, h) res ↔ X xs L d 74 (105, [a0, a1, some (.inr x), a3], .inr x :: sk, h) res := i_aload_n k_74_104 rfl
theorem e_74_105 {o : Nat} : X xs L d 74 (105, lo, .inr (some o) :: sk, h) res ↔ hK h o = 0 ∧ X xs L d 74 (108, lo, .inl (hI h o 3) :: sk, h) res := i_getI k_74_105
theorem e_74_108 {x : Option Nat} {a0 a1 a3 : Option AV} : X xs L d 74 (108, [a0, a1, some (.inr x), a3], sk, h) res ↔ X xs L d 74 (109, [a0, a1, some (.inr x), a3], .inr x :: sk, h) res := i_aload_n k_74_108 rfl
theorem e_74_109 {o : Nat} : X xs L d 74 (109, lo, .inr (some o) :: sk, h) res ↔ hK h o = 0 ∧ X xs L d 74 (112, lo, .inl (hI h o 1) :: sk, h) res := i_getI k_74_109
theorem e_74_112 {x y : Int32} : X xs L d 74 (112, lo, .inl y :: .inl x :: sk, h) res ↔ (if y < x then X xs L d 74 (117, lo, sk, h) res else X xs L d 74 (115, lo, sk, h) res) := i_icmp_gt k_74_112
theorem e_74_115 : X xs L d 74 (115, lo, sk, h) res ↔ X xs L d 74 (116, lo, .inl 0 :: sk, h) res := i_iconst k_74_115
theorem e_74_116 {v : Int32} : X xs L d 74 (116, lo, [.inl v], h) res ↔ (v = 0 ∨ v = 1) ∧ res = (some (.inl v), h) := i_zret k_74_116 rfl
theorem e_74_117 {x : Option Nat} {a0 a1 a3 : Option AV} : X xs L d 74 (117, [a0, a1, some (.inr x), a3], sk, h) res ↔ X xs L d 74 (118, [a0, a1, some (.inr x), a3], .inr x :: sk, h) res := i_aload_n k_74_117 rfl
theorem e_74_118 {o : Nat} : X xs L d 74 (118, lo, .inr (some o) :: sk, h) res ↔ hK h o = 0 ∧ X xs L d 74 (121, lo, .inl (hI h o 2) :: sk, h) res := i_getZ k_74_118
theorem e_74_121 {x : Int32} : X xs L d 74 (121, lo, .inl x :: sk, h) res ↔ (if x = 0 then X xs L d 74 (132, lo, sk, h) res else X xs L d 74 (124, lo, sk, h) res) := i_if_eq k_74_121
theorem e_74_124 {x : Option Nat} {a1 a2 a3 : Option AV} : X xs L d 74 (124, [some (.inr x), a1, a2, a3], sk, h) res ↔ X xs L d 74 (125, [some (.inr x), a1, a2, a3], .inr x :: sk, h) res := i_aload_n k_74_124 rfl
theorem e_74_125 {o : Nat} : X xs L d 74 (125, lo, .inr (some o) :: sk, h) res ↔ hK h o = 8 ∧ X xs L d 74 (128, lo, .inr (hR h o 4) :: sk, h) res := i_getR k_74_125
theorem e_74_128 {x : Int32} {a0 a1 a2 : Option AV} : X xs L d 74 (128, [a0, a1, a2, some (.inl x)], sk, h) res ↔ X xs L d 74 (129, [a0, a1, a2, some (.inl x)], .inl x :: sk, h) res := i_iload_n k_74_128 rfl
theorem e_74_129 {o : Nat} {v0 : Int32} (hs : sk.length ≤ 8) : X xs L d 74 (129, lo, .inl v0 :: .inr (some o) :: sk, h) res ↔ hK h o = 5 ∧ ∃ q : Res, Rn xs L d 22 [.inr (some o), .inl v0] h q ∧ X xs L d 74 (132, lo, q.1.toList ++ sk, q.2) res := i_callV k_74_129 rfl ⟨Nat.le_add_left 2 sk.length, Nat.le_trans (Nat.add_le_add_right hs 2) (Nat.le_of_eq (Nat.add_comm 8 2))⟩
theorem e_74_132 {x : Option Nat} {a0 a1 a3 : Option AV} : X xs L d 74 (132, [a0, a1, some (.inr x), a3], sk, h) res ↔ X xs L d 74 (133, [a0, a1, some (.inr x), a3], .inr x :: sk, h) res := i_aload_n k_74_132 rfl
theorem e_74_133 {o : Nat} : X xs L d 74 (133, lo, .inr (some o) :: sk, h) res ↔ hK h o = 0 ∧ X xs L d 74 (136, lo, .inl (hI h o 2) :: sk, h) res := i_getZ k_74_133
theorem e_74_136 {x : Int32} : X xs L d 74 (136, lo, .inl x :: sk, h) res ↔ (if x = 0 then X xs L d 74 (139, lo, sk, h) res else X xs L d 74 (143, lo, sk, h) res) := i_if_ne k_74_136
theorem e_74_139 : X xs L d 74 (139, lo, sk, h) res ↔ X xs L d 74 (140, lo, .inl 1 :: sk, h) res := i_iconst k_74_139
theorem e_74_140 : X xs L d 74 (140, lo, sk, h) res ↔ X xs L d 74 (144, lo, sk, h) res := i_goto k_74_140
theorem e_74_143 : X xs L d 74 (143, lo, sk, h) res ↔ X xs L d 74 (144, lo, .inl 0 :: sk, h) res := i_iconst k_74_143
theorem e_74_144 {v : Int32} : X xs L d 74 (144, lo, [.inl v], h) res ↔ (v = 0 ∨ v = 1) ∧ res = (some (.inl v), h) := i_zret k_74_144 rfl
end ER

-- instructions at their places, for simp: by program (wip/whole/prog/erows.py)
section ER
variable {xs : Nat → Int32} {L d : Nat} {lo : Lo} {sk : List AV} {h : Hp} {res : Res}
theorem k_75_0 : am_cd 75 0 = some (.aload_n 0, 1, [], [])   := rfl
theorem k_75_1 : am_cd 75 1 = some (.invokespecial 1, 3, [], [(0, 703), (0, 80)])   := rfl
theorem k_75_4 : am_cd 75 4 = some (.aload_n 0, 1, [], [])   := rfl
theorem k_75_5 : am_cd 75 5 = some (.sipush 150, 3, [], [(150, 0)])   := rfl
theorem k_75_8 : am_cd 75 8 = some (.newarray .char, 2, [21], [(0, 98)])   := rfl
theorem k_75_10 : am_cd 75 10 = some (.putfield 7, 3, [9, 1, 2], [(0, 705)])   := rfl
theorem k_75_13 : am_cd 75 13 = some (.aload_n 0, 1, [], [])   := rfl
theorem k_75_14 : am_cd 75 14 = some (.sipush 6384, 3, [], [(6384, 0)])   := rfl
theorem k_75_17 : am_cd 75 17 = some (.newarray .char, 2, [21], [(0, 98)])   := rfl
theorem k_75_19 : am_cd 75 19 = some (.putfield 13, 3, [9, 2, 2], [(0, 706)])   := rfl
theorem k_75_22 : am_cd 75 22 = some (.aload_n 0, 1, [], [])   := rfl
theorem k_75_23 : am_cd 75 23 = some (.sipush 152, 3, [], [(152, 0)])   := rfl
theorem k_75_26 : am_cd 75 26 = some (.newarray .int, 2, [20], [(0, 136)])   := rfl
theorem k_75_28 : am_cd 75 28 = some (.putfield 16, 3, [9, 6, 2], [(0, 710)])   := rfl
theorem k_75_31 : am_cd 75 31 = some (.aload_n 0, 1, [], [])   := rfl
theorem k_75_32 : am_cd 75 32 = some (.sipush 152, 3, [], [(152, 0)])   := rfl
theorem k_75_35 : am_cd 75 35 = some (.newarray .int, 2, [20], [(0, 136)])   := rfl
theorem k_75_37 : am_cd 75 37 = some (.putfield 20, 3, [9, 7, 2], [(0, 711)])   := rfl
theorem k_75_40 : am_cd 75 40 = some (.aload_n 0, 1, [], [])   := rfl
theorem k_75_41 : am_cd 75 41 = some (.sipush 152, 3, [], [(152, 0)])   := rfl
theorem k_75_44 : am_cd 75 44 = some (.newarray .int, 2, [20], [(0, 136)])   := rfl
theorem k_75_46 : am_cd 75 46 = some (.putfield 23, 3, [9, 8, 2], [(0, 712)])   := rfl
theorem k_75_49 : am_cd 75 49 = some (.aload_n 0, 1, [], [])   := rfl
theorem k_75_50 : am_cd 75 50 = some (.sipush 152, 3, [], [(152, 0)])   := rfl
theorem k_75_53 : am_cd 75 53 = some (.newarray .int, 2, [20], [(0, 136)])   := rfl
theorem k_75_55 : am_cd 75 55 = some (.putfield 26, 3, [9, 9, 2], [(0, 713)])   := rfl
theorem k_75_58 : am_cd 75 58 = some (.aload_n 0, 1, [], [])   := rfl
theorem k_75_59 : am_cd 75 59 = some (.iconst 4, 1, [], [(4, 0)])   := rfl
theorem k_75_60 : am_cd 75 60 = some (.newarray .int, 2, [20], [(0, 136)])   := rfl
theorem k_75_62 : am_cd 75 62 = some (.putfield 29, 3, [9, 10, 2], [(0, 714)])   := rfl
theorem k_75_65 : am_cd 75 65 = some (.aload_n 0, 1, [], [])   := rfl
theorem k_75_66 : am_cd 75 66 = some (.iconst 4, 1, [], [(4, 0)])   := rfl
theorem k_75_67 : am_cd 75 67 = some (.newarray .int, 2, [20], [(0, 136)])   := rfl
theorem k_75_69 : am_cd 75 69 = some (.putfield 32, 3, [9, 11, 2], [(0, 715)])   := rfl
theorem k_75_72 : am_cd 75 72 = some (.aload_n 0, 1, [], [])   := rfl
theorem k_75_73 : am_cd 75 73 = some (.bipush 8, 2, [], [(8, 0)])   := rfl
theorem k_75_75 : am_cd 75 75 = some (.newarray .int, 2, [20], [(0, 136)])   := rfl
theorem k_75_77 : am_cd 75 77 = some (.putfield 35, 3, [9, 12, 2], [(0, 716)])   := rfl
theorem k_75_80 : am_cd 75 80 = some (.aload_n 0, 1, [], [])   := rfl
theorem k_75_81 : am_cd 75 81 = some (.bipush 8, 2, [], [(8, 0)])   := rfl
theorem k_75_83 : am_cd 75 83 = some (.newarray .int, 2, [20], [(0, 136)])   := rfl
theorem k_75_85 : am_cd 75 85 = some (.putfield 38, 3, [9, 13, 2], [(0, 717)])   := rfl
theorem k_75_88 : am_cd 75 88 = some (.aload_n 0, 1, [], [])   := rfl
theorem k_75_89 : am_cd 75 89 = some (.bipush 6, 2, [], [(6, 0)])   := rfl
theorem k_75_91 : am_cd 75 91 = some (.newarray .int, 2, [20], [(0, 136)])   := rfl
theorem k_75_93 : am_cd 75 93 = some (.putfield 41, 3, [9, 14, 2], [(0, 718)])   := rfl
theorem k_75_96 : am_cd 75 96 = some (.aload_n 0, 1, [], [])   := rfl
theorem k_75_97 : am_cd 75 97 = some (.bipush 6, 2, [], [(6, 0)])   := rfl
theorem k_75_99 : am_cd 75 99 = some (.newarray .int, 2, [20], [(0, 136)])   := rfl
theorem k_75_101 : am_cd 75 101 = some (.putfield 44, 3, [9, 15, 2], [(0, 719)])   := rfl
theorem k_75_104 : am_cd 75 104 = some (.aload_n 0, 1, [], [])   := rfl
theorem k_75_105 : am_cd 75 105 = some (.iconst 2, 1, [], [(2, 0)])   := rfl
theorem k_75_106 : am_cd 75 106 = some (.newarray .int, 2, [20], [(0, 136)])   := rfl
theorem k_75_108 : am_cd 75 108 = some (.putfield 47, 3, [9, 16, 2], [(0, 720)])   := rfl
theorem k_75_111 : am_cd 75 111 = some (.aload_n 0, 1, [], [])   := rfl
theorem k_75_112 : am_cd 75 112 = some (.bipush 12, 2, [], [(12, 0)])   := rfl
theorem k_75_114 : am_cd 75 114 = some (.newarray .int, 2, [20], [(0, 136)])   := rfl
theorem k_75_116 : am_cd 75 116 = some (.putfield 50, 3, [9, 17, 2], [(0, 721)])   := rfl
theorem k_75_119 : am_cd 75 119 = some (.aload_n 0, 1, [], [])   := rfl
theorem k_75_120 : am_cd 75 120 = some (.bipush 12, 2, [], [(12, 0)])   := rfl
theorem k_75_122 : am_cd 75 122 = some (.newarray .int, 2, [20], [(0, 136)])   := rfl
theorem k_75_124 : am_cd 75 124 = some (.putfield 53, 3, [9, 18, 2], [(0, 722)])   := rfl
theorem k_75_127 : am_cd 75 127 = some (.aload_n 0, 1, [], [])   := rfl
theorem k_75_128 : am_cd 75 128 = some (.bipush 12, 2, [], [(12, 0)])   := rfl
theorem k_75_130 : am_cd 75 130 = some (.newarray .int, 2, [20], [(0, 136)])   := rfl
theorem k_75_132 : am_cd 75 132 = some (.putfield 56, 3, [9, 19, 2], [(0, 723)])   := rfl
theorem k_75_135 : am_cd 75 135 = some (.aload_n 0, 1, [], [])   := rfl
theorem k_75_136 : am_cd 75 136 = some (.bipush 72, 2, [], [(72, 0)])   := rfl
theorem k_75_138 : am_cd 75 138 = some (.newarray .int, 2, [20], [(0, 136)])   := rfl
theorem k_75_140 : am_cd 75 140 = some (.putfield 59, 3, [9, 20, 2], [(0, 724)])   := rfl
theorem k_75_143 : am_cd 75 143 = some (.aload_n 0, 1, [], [])   := rfl
theorem k_75_144 : am_cd 75 144 = some (.bipush 12, 2, [], [(12, 0)])   := rfl
theorem k_75_146 : am_cd 75 146 = some (.newarray .int, 2, [20], [(0, 136)])   := rfl
theorem k_75_148 : am_cd 75 148 = some (.putfield 62, 3, [9, 21, 2], [(0, 725)])   := rfl
theorem k_75_151 : am_cd 75 151 = some (.aload_n 0, 1, [], [])   := rfl
theorem k_75_152 : am_cd 75 152 = some (.bipush 72, 2, [], [(72, 0)])   := rfl
theorem k_75_154 : am_cd 75 154 = some (.newarray .int, 2, [20], [(0, 136)])   := rfl
theorem k_75_156 : am_cd 75 156 = some (.putfield 65, 3, [9, 22, 2], [(0, 726)])   := rfl
theorem k_75_159 : am_cd 75 159 = some (.aload_n 0, 1, [], [])   := rfl
theorem k_75_160 : am_cd 75 160 = some (.bipush 72, 2, [], [(72, 0)])   := rfl
theorem k_75_162 : am_cd 75 162 = some (.newarray .char, 2, [21], [(0, 98)])   := rfl
theorem k_75_164 : am_cd 75 164 = some (.putfield 68, 3, [9, 23, 2], [(0, 727)])   := rfl
theorem k_75_167 : am_cd 75 167 = some (.aload_n 0, 1, [], [])   := rfl
theorem k_75_168 : am_cd 75 168 = some (.bipush 72, 2, [], [(72, 0)])   := rfl
theorem k_75_170 : am_cd 75 170 = some (.newarray .int, 2, [20], [(0, 136)])   := rfl
theorem k_75_172 : am_cd 75 172 = some (.putfield 71, 3, [9, 24, 2], [(0, 728)])   := rfl
theorem k_75_175 : am_cd 75 175 = some (.aload_n 0, 1, [], [])   := rfl
theorem k_75_176 : am_cd 75 176 = some (.bipush 72, 2, [], [(72, 0)])   := rfl
theorem k_75_178 : am_cd 75 178 = some (.newarray .int, 2, [20], [(0, 136)])   := rfl
theorem k_75_180 : am_cd 75 180 = some (.putfield 74, 3, [9, 25, 2], [(0, 729)])   := rfl
theorem k_75_183 : am_cd 75 183 = some (.aload_n 0, 1, [], [])   := rfl
theorem k_75_184 : am_cd 75 184 = some (.sipush 216, 3, [], [(216, 0)])   := rfl
theorem k_75_187 : am_cd 75 187 = some (.newarray .int, 2, [20], [(0, 136)])   := rfl
theorem k_75_189 : am_cd 75 189 = some (.putfield 77, 3, [9, 26, 2], [(0, 730)])   := rfl
theorem k_75_192 : am_cd 75 192 = some (.aload_n 0, 1, [], [])   := rfl
theorem k_75_193 : am_cd 75 193 = some (.bipush 40, 2, [], [(40, 0)])   := rfl
theorem k_75_195 : am_cd 75 195 = some (.newarray .boolean, 2, [22], [(0, 837)])   := rfl
theorem k_75_197 : am_cd 75 197 = some (.putfield 80, 3, [9, 35, 2], [(0, 739)])   := rfl
theorem k_75_200 : am_cd 75 200 = some (.aload_n 0, 1, [], [])   := rfl
theorem k_75_201 : am_cd 75 201 = some (.bipush 40, 2, [], [(40, 0)])   := rfl
theorem k_75_203 : am_cd 75 203 = some (.newarray .boolean, 2, [22], [(0, 837)])   := rfl
theorem k_75_205 : am_cd 75 205 = some (.putfield 84, 3, [9, 36, 2], [(0, 740)])   := rfl
theorem k_75_208 : am_cd 75 208 = some (.aload_n 0, 1, [], [])   := rfl
theorem k_75_209 : am_cd 75 209 = some (.bipush 40, 2, [], [(40, 0)])   := rfl
theorem k_75_211 : am_cd 75 211 = some (.newarray .boolean, 2, [22], [(0, 837)])   := rfl
theorem k_75_213 : am_cd 75 213 = some (.putfield 87, 3, [9, 37, 2], [(0, 741)])   := rfl
theorem k_75_216 : am_cd 75 216 = some (.aload_n 0, 1, [], [])   := rfl
theorem k_75_217 : am_cd 75 217 = some (.bipush 40, 2, [], [(40, 0)])   := rfl
theorem k_75_219 : am_cd 75 219 = some (.newarray .int, 2, [20], [(0, 136)])   := rfl
theorem k_75_221 : am_cd 75 221 = some (.putfield 90, 3, [9, 38, 2], [(0, 742)])   := rfl
theorem k_75_224 : am_cd 75 224 = some (.aload_n 0, 1, [], [])   := rfl
theorem k_75_225 : am_cd 75 225 = some (.bipush 40, 2, [], [(40, 0)])   := rfl
theorem k_75_227 : am_cd 75 227 = some (.newarray .int, 2, [20], [(0, 136)])   := rfl
theorem k_75_229 : am_cd 75 229 = some (.putfield 93, 3, [9, 39, 2], [(0, 743)])   := rfl
theorem k_75_232 : am_cd 75 232 = some (.aload_n 0, 1, [], [])   := rfl
theorem k_75_233 : am_cd 75 233 = some (.bipush 16, 2, [], [(16, 0)])   := rfl
theorem k_75_235 : am_cd 75 235 = some (.newarray .int, 2, [20], [(0, 136)])   := rfl
theorem k_75_237 : am_cd 75 237 = some (.putfield 96, 3, [9, 41, 2], [(0, 745)])   := rfl
theorem k_75_240 : am_cd 75 240 = some (.aload_n 0, 1, [], [])   := rfl
theorem k_75_241 : am_cd 75 241 = some (.bipush 16, 2, [], [(16, 0)])   := rfl
theorem k_75_243 : am_cd 75 243 = some (.newarray .int, 2, [20], [(0, 136)])   := rfl
theorem k_75_245 : am_cd 75 245 = some (.putfield 99, 3, [9, 43, 2], [(0, 747)])   := rfl
theorem k_75_248 : am_cd 75 248 = some (.return_, 1, [], [])   := rfl
theorem e_75_0 {x : Option Nat} : X xs L d 75 (0, [some (.inr x)], sk, h) res ↔ X xs L d 75 (1, [some (.inr x)], .inr x :: sk, h) res := i_aload_n k_75_0 rfl
theorem e_75_1 {o : Nat} : X xs L d 75 (1, lo, .inr (some o) :: sk, h) res ↔ sk.length ≤ 8 ∧ X xs L d 75 (4, lo, sk, h) res := i_obj k_75_1
theorem e_75_4 {x : Option Nat} : X xs L d 75 (4, [some (.inr x)], sk, h) res ↔ X xs L d 75 (5, [some (.inr x)], .inr x :: sk, h) res := i_aload_n k_75_4 rfl
theorem e_75_5 : X xs L d 75 (5, lo, sk, h) res ↔ X xs L d 75 (8, lo, .inl 150 :: sk, h) res := i_sipush k_75_5
theorem e_75_8 {i : Int32} : X xs L d 75 (8, lo, .inl i :: sk, h) res ↔ (¬ i < 0 ∧ i.toNatClampNeg ≤ 100000) ∧ X xs L d 75 (10, lo, .inr (some (hN h)) :: sk, nw h 21 i.toNatClampNeg i.toNatClampNeg) res := i_newarray k_75_8
theorem e_75_10 {o : Nat} {v : Option Nat} : X xs L d 75 (10, lo, .inr v :: .inr (some o) :: sk, h) res ↔ hK h o = 9 ∧ X xs L d 75 (13, lo, sk, sR h o 1 v) res := i_putR k_75_10
theorem e_75_13 {x : Option Nat} : X xs L d 75 (13, [some (.inr x)], sk, h) res ↔ X xs L d 75 (14, [some (.inr x)], .inr x :: sk, h) res := i_aload_n k_75_13 rfl
theorem e_75_14 : X xs L d 75 (14, lo, sk, h) res ↔ X xs L d 75 (17, lo, .inl 6384 :: sk, h) res := i_sipush k_75_14
theorem e_75_17 {i : Int32} : X xs L d 75 (17, lo, .inl i :: sk, h) res ↔ (¬ i < 0 ∧ i.toNatClampNeg ≤ 100000) ∧ X xs L d 75 (19, lo, .inr (some (hN h)) :: sk, nw h 21 i.toNatClampNeg i.toNatClampNeg) res := i_newarray k_75_17
theorem e_75_19 {o : Nat} {v : Option Nat} : X xs L d 75 (19, lo, .inr v :: .inr (some o) :: sk, h) res ↔ hK h o = 9 ∧ X xs L d 75 (22, lo, sk, sR h o 2 v) res := i_putR k_75_19
theorem e_75_22 {x : Option Nat} : X xs L d 75 (22, [some (.inr x)], sk, h) res ↔ X xs L d 75 (23, [some (.inr x)], .inr x :: sk, h) res := i_aload_n k_75_22 rfl
theorem e_75_23 : X xs L d 75 (23, lo, sk, h) res ↔ X xs L d 75 (26, lo, .inl 152 :: sk, h) res := i_sipush k_75_23
theorem e_75_26 {i : Int32} : X xs L d 75 (26, lo, .inl i :: sk, h) res ↔ (¬ i < 0 ∧ i.toNatClampNeg ≤ 100000) ∧ X xs L d 75 (28, lo, .inr (some (hN h)) :: sk, nw h 20 i.toNatClampNeg i.toNatClampNeg) res := i_newarray k_75_26
theorem e_75_28 {o : Nat} {v : Option Nat} : X xs L d 75 (28, lo, .inr v :: .inr (some o) :: sk, h) res ↔ hK h o = 9 ∧ X xs L d 75 (31, lo, sk, sR h o 6 v) res := i_putR k_75_28
theorem e_75_31 {x : Option Nat} : X xs L d 75 (31, [some (.inr x)], sk, h) res ↔ X xs L d 75 (32, [some (.inr x)], .inr x :: sk, h) res := i_aload_n k_75_31 rfl
theorem e_75_32 : X xs L d 75 (32, lo, sk, h) res ↔ X xs L d 75 (35, lo, .inl 152 :: sk, h) res := i_sipush k_75_32
theorem e_75_35 {i : Int32} : X xs L d 75 (35, lo, .inl i :: sk, h) res ↔ (¬ i < 0 ∧ i.toNatClampNeg ≤ 100000) ∧ X xs L d 75 (37, lo, .inr (some (hN h)) :: sk, nw h 20 i.toNatClampNeg i.toNatClampNeg) res := i_newarray k_75_35
theorem e_75_37 {o : Nat} {v : Option Nat} : X xs L d 75 (37, lo, .inr v :: .inr (some o) :: sk, h) res ↔ hK h o = 9 ∧ X xs L d 75 (40, lo, sk, sR h o 7 v) res := i_putR k_75_37
theorem e_75_40 {x : Option Nat} : X xs L d 75 (40, [some (.inr x)], sk, h) res ↔ X xs L d 75 (41, [some (.inr x)], .inr x :: sk, h) res := i_aload_n k_75_40 rfl
theorem e_75_41 : X xs L d 75 (41, lo, sk, h) res ↔ X xs L d 75 (44, lo, .inl 152 :: sk, h) res := i_sipush k_75_41
theorem e_75_44 {i : Int32} : X xs L d 75 (44, lo, .inl i :: sk, h) res ↔ (¬ i < 0 ∧ i.toNatClampNeg ≤ 100000) ∧ X xs L d 75 (46, lo, .inr (some (hN h)) :: sk, nw h 20 i.toNatClampNeg i.toNatClampNeg) res := i_newarray k_75_44
theorem e_75_46 {o : Nat} {v : Option Nat} : X xs L d 75 (46, lo, .inr v :: .inr (some o) :: sk, h) res ↔ hK h o = 9 ∧ X xs L d 75 (49, lo, sk, sR h o 8 v) res := i_putR k_75_46
theorem e_75_49 {x : Option Nat} : X xs L d 75 (49, [some (.inr x)], sk, h) res ↔ X xs L d 75 (50, [some (.inr x)], .inr x :: sk, h) res := i_aload_n k_75_49 rfl
theorem e_75_50 : X xs L d 75 (50, lo, sk, h) res ↔ X xs L d 75 (53, lo, .inl 152 :: sk, h) res := i_sipush k_75_50
theorem e_75_53 {i : Int32} : X xs L d 75 (53, lo, .inl i :: sk, h) res ↔ (¬ i < 0 ∧ i.toNatClampNeg ≤ 100000) ∧ X xs L d 75 (55, lo, .inr (some (hN h)) :: sk, nw h 20 i.toNatClampNeg i.toNatClampNeg) res := i_newarray k_75_53
theorem e_75_55 {o : Nat} {v : Option Nat} : X xs L d 75 (55, lo, .inr v :: .inr (some o) :: sk, h) res ↔ hK h o = 9 ∧ X xs L d 75 (58, lo, sk, sR h o 9 v) res := i_putR k_75_55
theorem e_75_58 {x : Option Nat} : X xs L d 75 (58, [some (.inr x)], sk, h) res ↔ X xs L d 75 (59, [some (.inr x)], .inr x :: sk, h) res := i_aload_n k_75_58 rfl
theorem e_75_59 : X xs L d 75 (59, lo, sk, h) res ↔ X xs L d 75 (60, lo, .inl 4 :: sk, h) res := i_iconst k_75_59
theorem e_75_60 {i : Int32} : X xs L d 75 (60, lo, .inl i :: sk, h) res ↔ (¬ i < 0 ∧ i.toNatClampNeg ≤ 100000) ∧ X xs L d 75 (62, lo, .inr (some (hN h)) :: sk, nw h 20 i.toNatClampNeg i.toNatClampNeg) res := i_newarray k_75_60
theorem e_75_62 {o : Nat} {v : Option Nat} : X xs L d 75 (62, lo, .inr v :: .inr (some o) :: sk, h) res ↔ hK h o = 9 ∧ X xs L d 75 (65, lo, sk, sR h o 10 v) res := i_putR k_75_62
theorem e_75_65 {x : Option Nat} : X xs L d 75 (65, [some (.inr x)], sk, h) res ↔ X xs L d 75 (66, [some (.inr x)], .inr x :: sk, h) res := i_aload_n k_75_65 rfl
theorem e_75_66 : X xs L d 75 (66, lo, sk, h) res ↔ X xs L d 75 (67, lo, .inl 4 :: sk, h) res := i_iconst k_75_66
theorem e_75_67 {i : Int32} : X xs L d 75 (67, lo, .inl i :: sk, h) res ↔ (¬ i < 0 ∧ i.toNatClampNeg ≤ 100000) ∧ X xs L d 75 (69, lo, .inr (some (hN h)) :: sk, nw h 20 i.toNatClampNeg i.toNatClampNeg) res := i_newarray k_75_67
theorem e_75_69 {o : Nat} {v : Option Nat} : X xs L d 75 (69, lo, .inr v :: .inr (some o) :: sk, h) res ↔ hK h o = 9 ∧ X xs L d 75 (72, lo, sk, sR h o 11 v) res := i_putR k_75_69
theorem e_75_72 {x : Option Nat} : X xs L d 75 (72, [some (.inr x)], sk, h) res ↔ X xs L d 75 (73, [some (.inr x)], .inr x :: sk, h) res := i_aload_n k_75_72 rfl
theorem e_75_73 : X xs L d 75 (73, lo, sk, h) res ↔ X xs L d 75 (75, lo, .inl 8 :: sk, h) res := i_bipush k_75_73
theorem e_75_75 {i : Int32} : X xs L d 75 (75, lo, .inl i :: sk, h) res ↔ (¬ i < 0 ∧ i.toNatClampNeg ≤ 100000) ∧ X xs L d 75 (77, lo, .inr (some (hN h)) :: sk, nw h 20 i.toNatClampNeg i.toNatClampNeg) res := i_newarray k_75_75
theorem e_75_77 {o : Nat} {v : Option Nat} : X xs L d 75 (77, lo, .inr v :: .inr (some o) :: sk, h) res ↔ hK h o = 9 ∧ X xs L d 75 (80, lo, sk, sR h o 12 v) res := i_putR k_75_77
theorem e_75_80 {x : Option Nat} : X xs L d 75 (80, [some (.inr x)], sk, h) res ↔ X xs L d 75 (81, [some (.inr x)], .inr x :: sk, h) res := i_aload_n k_75_80 rfl
theorem e_75_81 : X xs L d 75 (81, lo, sk, h) res ↔ X xs L d 75 (83, lo, .inl 8 :: sk, h) res := i_bipush k_75_81
theorem e_75_83 {i : Int32} : X xs L d 75 (83, lo, .inl i :: sk, h) res ↔ (¬ i < 0 ∧ i.toNatClampNeg ≤ 100000) ∧ X xs L d 75 (85, lo, .inr (some (hN h)) :: sk, nw h 20 i.toNatClampNeg i.toNatClampNeg) res := i_newarray k_75_83
theorem e_75_85 {o : Nat} {v : Option Nat} : X xs L d 75 (85, lo, .inr v :: .inr (some o) :: sk, h) res ↔ hK h o = 9 ∧ X xs L d 75 (88, lo, sk, sR h o 13 v) res := i_putR k_75_85
theorem e_75_88 {x : Option Nat} : X xs L d 75 (88, [some (.inr x)], sk, h) res ↔ X xs L d 75 (89, [some (.inr x)], .inr x :: sk, h) res := i_aload_n k_75_88 rfl
theorem e_75_89 : X xs L d 75 (89, lo, sk, h) res ↔ X xs L d 75 (91, lo, .inl 6 :: sk, h) res := i_bipush k_75_89
theorem e_75_91 {i : Int32} : X xs L d 75 (91, lo, .inl i :: sk, h) res ↔ (¬ i < 0 ∧ i.toNatClampNeg ≤ 100000) ∧ X xs L d 75 (93, lo, .inr (some (hN h)) :: sk, nw h 20 i.toNatClampNeg i.toNatClampNeg) res := i_newarray k_75_91
theorem e_75_93 {o : Nat} {v : Option Nat} : X xs L d 75 (93, lo, .inr v :: .inr (some o) :: sk, h) res ↔ hK h o = 9 ∧ X xs L d 75 (96, lo, sk, sR h o 14 v) res := i_putR k_75_93
theorem e_75_96 {x : Option Nat} : X xs L d 75 (96, [some (.inr x)], sk, h) res ↔ X xs L d 75 (97, [some (.inr x)], .inr x :: sk, h) res := i_aload_n k_75_96 rfl
theorem e_75_97 : X xs L d 75 (97, lo, sk, h) res ↔ X xs L d 75 (99, lo, .inl 6 :: sk, h) res := i_bipush k_75_97
theorem e_75_99 {i : Int32} : X xs L d 75 (99, lo, .inl i :: sk, h) res ↔ (¬ i < 0 ∧ i.toNatClampNeg ≤ 100000) ∧ X xs L d 75 (101, lo, .inr (some (hN h)) :: sk, nw h 20 i.toNatClampNeg i.toNatClampNeg) res := i_newarray k_75_99
theorem e_75_101 {o : Nat} {v : Option Nat} : X xs L d 75 (101, lo, .inr v :: .inr (some o) :: sk, h) res ↔ hK h o = 9 ∧ X xs L d 75 (104, lo, sk, sR h o 15 v) res := i_putR k_75_101
theorem e_75_104 {x : Option Nat} : X xs L d 75 (104, [some (.inr x)], sk, h) res ↔ X xs L d 75 (105, [some (.inr x)], .inr x :: sk, h) res := i_aload_n k_75_104 rfl
theorem e_75_105 : X xs L d 75 (105, lo, sk, h) res ↔ X xs L d 75 (106, lo, .inl 2 :: sk, h) res := i_iconst k_75_105
theorem e_75_106 {i : Int32} : X xs L d 75 (106, lo, .inl i :: sk, h) res ↔ (¬ i < 0 ∧ i.toNatClampNeg ≤ 100000) ∧ X xs L d 75 (108, lo, .inr (some (hN h)) :: sk, nw h 20 i.toNatClampNeg i.toNatClampNeg) res := i_newarray k_75_106
theorem e_75_108 {o : Nat} {v : Option Nat} : X xs L d 75 (108, lo, .inr v :: .inr (some o) :: sk, h) res ↔ hK h o = 9 ∧ X xs L d 75 (111, lo, sk, sR h o 16 v) res := i_putR k_75_108
theorem e_75_111 {x : Option Nat} : X xs L d 75 (111, [some (.inr x)], sk, h) res ↔ X xs L d 75 (112, [some (.inr x)], .inr x :: sk, h) res := i_aload_n k_75_111 rfl
theorem e_75_112 : X xs L d 75 (112, lo, sk, h) res ↔ X xs L d 75 (114, lo, .inl 12 :: sk, h) res := i_bipush k_75_112
theorem e_75_114 {i : Int32} : X xs L d 75 (114, lo, .inl i :: sk, h) res ↔ (¬ i < 0 ∧ i.toNatClampNeg ≤ 100000) ∧ X xs L d 75 (116, lo, .inr (some (hN h)) :: sk, nw h 20 i.toNatClampNeg i.toNatClampNeg) res := i_newarray k_75_114
theorem e_75_116 {o : Nat} {v : Option Nat} : X xs L d 75 (116, lo, .inr v :: .inr (some o) :: sk, h) res ↔ hK h o = 9 ∧ X xs L d 75 (119, lo, sk, sR h o 17 v) res := i_putR k_75_116
theorem e_75_119 {x : Option Nat} : X xs L d 75 (119, [some (.inr x)], sk, h) res ↔ X xs L d 75 (120, [some (.inr x)], .inr x :: sk, h) res := i_aload_n k_75_119 rfl
theorem e_75_120 : X xs L d 75 (120, lo, sk, h) res ↔ X xs L d 75 (122, lo, .inl 12 :: sk, h) res := i_bipush k_75_120
theorem e_75_122 {i : Int32} : X xs L d 75 (122, lo, .inl i :: sk, h) res ↔ (¬ i < 0 ∧ i.toNatClampNeg ≤ 100000) ∧ X xs L d 75 (124, lo, .inr (some (hN h)) :: sk, nw h 20 i.toNatClampNeg i.toNatClampNeg) res := i_newarray k_75_122
theorem e_75_124 {o : Nat} {v : Option Nat} : X xs L d 75 (124, lo, .inr v :: .inr (some o) :: sk, h) res ↔ hK h o = 9 ∧ X xs L d 75 (127, lo, sk, sR h o 18 v) res := i_putR k_75_124
theorem e_75_127 {x : Option Nat} : X xs L d 75 (127, [some (.inr x)], sk, h) res ↔ X xs L d 75 (128, [some (.inr x)], .inr x :: sk, h) res := i_aload_n k_75_127 rfl
theorem e_75_128 : X xs L d 75 (128, lo, sk, h) res ↔ X xs L d 75 (130, lo, .inl 12 :: sk, h) res := i_bipush k_75_128
theorem e_75_130 {i : Int32} : X xs L d 75 (130, lo, .inl i :: sk, h) res ↔ (¬ i < 0 ∧ i.toNatClampNeg ≤ 100000) ∧ X xs L d 75 (132, lo, .inr (some (hN h)) :: sk, nw h 20 i.toNatClampNeg i.toNatClampNeg) res := i_newarray k_75_130
theorem e_75_132 {o : Nat} {v : Option Nat} : X xs L d 75 (132, lo, .inr v :: .inr (some o) :: sk, h) res ↔ hK h o = 9 ∧ X xs L d 75 (135, lo, sk, sR h o 19 v) res := i_putR k_75_132
theorem e_75_135 {x : Option Nat} : X xs L d 75 (135, [some (.inr x)], sk, h) res ↔ X xs L d 75 (136, [some (.inr x)], .inr x :: sk, h) res := i_aload_n k_75_135 rfl
theorem e_75_136 : X xs L d 75 (136, lo, sk, h) res ↔ X xs L d 75 (138, lo, .inl 72 :: sk, h) res := i_bipush k_75_136
theorem e_75_138 {i : Int32} : X xs L d 75 (138, lo, .inl i :: sk, h) res ↔ (¬ i < 0 ∧ i.toNatClampNeg ≤ 100000) ∧ X xs L d 75 (140, lo, .inr (some (hN h)) :: sk, nw h 20 i.toNatClampNeg i.toNatClampNeg) res := i_newarray k_75_138
theorem e_75_140 {o : Nat} {v : Option Nat} : X xs L d 75 (140, lo, .inr v :: .inr (some o) :: sk, h) res ↔ hK h o = 9 ∧ X xs L d 75 (143, lo, sk, sR h o 20 v) res := i_putR k_75_140
theorem e_75_143 {x : Option Nat} : X xs L d 75 (143, [some (.inr x)], sk, h) res ↔ X xs L d 75 (144, [some (.inr x)], .inr x :: sk, h) res := i_aload_n k_75_143 rfl
theorem e_75_144 : X xs L d 75 (144, lo, sk, h) res ↔ X xs L d 75 (146, lo, .inl 12 :: sk, h) res := i_bipush k_75_144
theorem e_75_146 {i : Int32} : X xs L d 75 (146, lo, .inl i :: sk, h) res ↔ (¬ i < 0 ∧ i.toNatClampNeg ≤ 100000) ∧ X xs L d 75 (148, lo, .inr (some (hN h)) :: sk, nw h 20 i.toNatClampNeg i.toNatClampNeg) res := i_newarray k_75_146
theorem e_75_148 {o : Nat} {v : Option Nat} : X xs L d 75 (148, lo, .inr v :: .inr (some o) :: sk, h) res ↔ hK h o = 9 ∧ X xs L d 75 (151, lo, sk, sR h o 21 v) res := i_putR k_75_148
theorem e_75_151 {x : Option Nat} : X xs L d 75 (151, [some (.inr x)], sk, h) res ↔ X xs L d 75 (152, [some (.inr x)], .inr x :: sk, h) res := i_aload_n k_75_151 rfl
theorem e_75_152 : X xs L d 75 (152, lo, sk, h) res ↔ X xs L d 75 (154, lo, .inl 72 :: sk, h) res := i_bipush k_75_152
theorem e_75_154 {i : Int32} : X xs L d 75 (154, lo, .inl i :: sk, h) res ↔ (¬ i < 0 ∧ i.toNatClampNeg ≤ 100000) ∧ X xs L d 75 (156, lo, .inr (some (hN h)) :: sk, nw h 20 i.toNatClampNeg i.toNatClampNeg) res := i_newarray k_75_154
theorem e_75_156 {o : Nat} {v : Option Nat} : X xs L d 75 (156, lo, .inr v :: .inr (some o) :: sk, h) res ↔ hK h o = 9 ∧ X xs L d 75 (159, lo, sk, sR h o 22 v) res := i_putR k_75_156
theorem e_75_159 {x : Option Nat} : X xs L d 75 (159, [some (.inr x)], sk, h) res ↔ X xs L d 75 (160, [some (.inr x)], .inr x :: sk, h) res := i_aload_n k_75_159 rfl
theorem e_75_160 : X xs L d 75 (160, lo, sk, h) res ↔ X xs L d 75 (162, lo, .inl 72 :: sk, h) res := i_bipush k_75_160
theorem e_75_162 {i : Int32} : X xs L d 75 (162, lo, .inl i :: sk, h) res ↔ (¬ i < 0 ∧ i.toNatClampNeg ≤ 100000) ∧ X xs L d 75 (164, lo, .inr (some (hN h)) :: sk, nw h 21 i.toNatClampNeg i.toNatClampNeg) res := i_newarray k_75_162
theorem e_75_164 {o : Nat} {v : Option Nat} : X xs L d 75 (164, lo, .inr v :: .inr (some o) :: sk, h) res ↔ hK h o = 9 ∧ X xs L d 75 (167, lo, sk, sR h o 23 v) res := i_putR k_75_164
theorem e_75_167 {x : Option Nat} : X xs L d 75 (167, [some (.inr x)], sk, h) res ↔ X xs L d 75 (168, [some (.inr x)], .inr x :: sk, h) res := i_aload_n k_75_167 rfl
theorem e_75_168 : X xs L d 75 (168, lo, sk, h) res ↔ X xs L d 75 (170, lo, .inl 72 :: sk, h) res := i_bipush k_75_168
theorem e_75_170 {i : Int32} : X xs L d 75 (170, lo, .inl i :: sk, h) res ↔ (¬ i < 0 ∧ i.toNatClampNeg ≤ 100000) ∧ X xs L d 75 (172, lo, .inr (some (hN h)) :: sk, nw h 20 i.toNatClampNeg i.toNatClampNeg) res := i_newarray k_75_170
theorem e_75_172 {o : Nat} {v : Option Nat} : X xs L d 75 (172, lo, .inr v :: .inr (some o) :: sk, h) res ↔ hK h o = 9 ∧ X xs L d 75 (175, lo, sk, sR h o 24 v) res := i_putR k_75_172
theorem e_75_175 {x : Option Nat} : X xs L d 75 (175, [some (.inr x)], sk, h) res ↔ X xs L d 75 (176, [some (.inr x)], .inr x :: sk, h) res := i_aload_n k_75_175 rfl
theorem e_75_176 : X xs L d 75 (176, lo, sk, h) res ↔ X xs L d 75 (178, lo, .inl 72 :: sk, h) res := i_bipush k_75_176
theorem e_75_178 {i : Int32} : X xs L d 75 (178, lo, .inl i :: sk, h) res ↔ (¬ i < 0 ∧ i.toNatClampNeg ≤ 100000) ∧ X xs L d 75 (180, lo, .inr (some (hN h)) :: sk, nw h 20 i.toNatClampNeg i.toNatClampNeg) res := i_newarray k_75_178
theorem e_75_180 {o : Nat} {v : Option Nat} : X xs L d 75 (180, lo, .inr v :: .inr (some o) :: sk, h) res ↔ hK h o = 9 ∧ X xs L d 75 (183, lo, sk, sR h o 25 v) res := i_putR k_75_180
theorem e_75_183 {x : Option Nat} : X xs L d 75 (183, [some (.inr x)], sk, h) res ↔ X xs L d 75 (184, [some (.inr x)], .inr x :: sk, h) res := i_aload_n k_75_183 rfl
theorem e_75_184 : X xs L d 75 (184, lo, sk, h) res ↔ X xs L d 75 (187, lo, .inl 216 :: sk, h) res := i_sipush k_75_184
theorem e_75_187 {i : Int32} : X xs L d 75 (187, lo, .inl i :: sk, h) res ↔ (¬ i < 0 ∧ i.toNatClampNeg ≤ 100000) ∧ X xs L d 75 (189, lo, .inr (some (hN h)) :: sk, nw h 20 i.toNatClampNeg i.toNatClampNeg) res := i_newarray k_75_187
theorem e_75_189 {o : Nat} {v : Option Nat} : X xs L d 75 (189, lo, .inr v :: .inr (some o) :: sk, h) res ↔ hK h o = 9 ∧ X xs L d 75 (192, lo, sk, sR h o 26 v) res := i_putR k_75_189
theorem e_75_192 {x : Option Nat} : X xs L d 75 (192, [some (.inr x)], sk, h) res ↔ X xs L d 75 (193, [some (.inr x)], .inr x :: sk, h) res := i_aload_n k_75_192 rfl
theorem e_75_193 : X xs L d 75 (193, lo, sk, h) res ↔ X xs L d 75 (195, lo, .inl 40 :: sk, h) res := i_bipush k_75_193
theorem e_75_195 {i : Int32} : X xs L d 75 (195, lo, .inl i :: sk, h) res ↔ (¬ i < 0 ∧ i.toNatClampNeg ≤ 100000) ∧ X xs L d 75 (197, lo, .inr (some (hN h)) :: sk, nw h 22 i.toNatClampNeg i.toNatClampNeg) res := i_newarray k_75_195
theorem e_75_197 {o : Nat} {v : Option Nat} : X xs L d 75 (197, lo, .inr v :: .inr (some o) :: sk, h) res ↔ hK h o = 9 ∧ X xs L d 75 (200, lo, sk, sR h o 35 v) res := i_putR k_75_197
theorem e_75_200 {x : Option Nat} : X xs L d 75 (200, [some (.inr x)], sk, h) res ↔ X xs L d 75 (201, [some (.inr x)], .inr x :: sk, h) res := i_aload_n k_75_200 rfl
theorem e_75_201 : X xs L d 75 (201, lo, sk, h) res ↔ X xs L d 75 (203, lo, .inl 40 :: sk, h) res := i_bipush k_75_201
theorem e_75_203 {i : Int32} : X xs L d 75 (203, lo, .inl i :: sk, h) res ↔ (¬ i < 0 ∧ i.toNatClampNeg ≤ 100000) ∧ X xs L d 75 (205, lo, .inr (some (hN h)) :: sk, nw h 22 i.toNatClampNeg i.toNatClampNeg) res := i_newarray k_75_203
theorem e_75_205 {o : Nat} {v : Option Nat} : X xs L d 75 (205, lo, .inr v :: .inr (some o) :: sk, h) res ↔ hK h o = 9 ∧ X xs L d 75 (208, lo, sk, sR h o 36 v) res := i_putR k_75_205
theorem e_75_208 {x : Option Nat} : X xs L d 75 (208, [some (.inr x)], sk, h) res ↔ X xs L d 75 (209, [some (.inr x)], .inr x :: sk, h) res := i_aload_n k_75_208 rfl
theorem e_75_209 : X xs L d 75 (209, lo, sk, h) res ↔ X xs L d 75 (211, lo, .inl 40 :: sk, h) res := i_bipush k_75_209
theorem e_75_211 {i : Int32} : X xs L d 75 (211, lo, .inl i :: sk, h) res ↔ (¬ i < 0 ∧ i.toNatClampNeg ≤ 100000) ∧ X xs L d 75 (213, lo, .inr (some (hN h)) :: sk, nw h 22 i.toNatClampNeg i.toNatClampNeg) res := i_newarray k_75_211
theorem e_75_213 {o : Nat} {v : Option Nat} : X xs L d 75 (213, lo, .inr v :: .inr (some o) :: sk, h) res ↔ hK h o = 9 ∧ X xs L d 75 (216, lo, sk, sR h o 37 v) res := i_putR k_75_213
theorem e_75_216 {x : Option Nat} : X xs L d 75 (216, [some (.inr x)], sk, h) res ↔ X xs L d 75 (217, [some (.inr x)], .inr x :: sk, h) res := i_aload_n k_75_216 rfl
theorem e_75_217 : X xs L d 75 (217, lo, sk, h) res ↔ X xs L d 75 (219, lo, .inl 40 :: sk, h) res := i_bipush k_75_217
theorem e_75_219 {i : Int32} : X xs L d 75 (219, lo, .inl i :: sk, h) res ↔ (¬ i < 0 ∧ i.toNatClampNeg ≤ 100000) ∧ X xs L d 75 (221, lo, .inr (some (hN h)) :: sk, nw h 20 i.toNatClampNeg i.toNatClampNeg) res := i_newarray k_75_219
theorem e_75_221 {o : Nat} {v : Option Nat} : X xs L d 75 (221, lo, .inr v :: .inr (some o) :: sk, h) res ↔ hK h o = 9 ∧ X xs L d 75 (224, lo, sk, sR h o 38 v) res := i_putR k_75_221
theorem e_75_224 {x : Option Nat} : X xs L d 75 (224, [some (.inr x)], sk, h) res ↔ X xs L d 75 (225, [some (.inr x)], .inr x :: sk, h) res := i_aload_n k_75_224 rfl
theorem e_75_225 : X xs L d 75 (225, lo, sk, h) res ↔ X xs L d 75 (227, lo, .inl 40 :: sk, h) res := i_bipush k_75_225
theorem e_75_227 {i : Int32} : X xs L d 75 (227, lo, .inl i :: sk, h) res ↔ (¬ i < 0 ∧ i.toNatClampNeg ≤ 100000) ∧ X xs L d 75 (229, lo, .inr (some (hN h)) :: sk, nw h 20 i.toNatClampNeg i.toNatClampNeg) res := i_newarray k_75_227
theorem e_75_229 {o : Nat} {v : Option Nat} : X xs L d 75 (229, lo, .inr v :: .inr (some o) :: sk, h) res ↔ hK h o = 9 ∧ X xs L d 75 (232, lo, sk, sR h o 39 v) res := i_putR k_75_229
theorem e_75_232 {x : Option Nat} : X xs L d 75 (232, [some (.inr x)], sk, h) res ↔ X xs L d 75 (233, [some (.inr x)], .inr x :: sk, h) res := i_aload_n k_75_232 rfl
theorem e_75_233 : X xs L d 75 (233, lo, sk, h) res ↔ X xs L d 75 (235, lo, .inl 16 :: sk, h) res := i_bipush k_75_233
theorem e_75_235 {i : Int32} : X xs L d 75 (235, lo, .inl i :: sk, h) res ↔ (¬ i < 0 ∧ i.toNatClampNeg ≤ 100000) ∧ X xs L d 75 (237, lo, .inr (some (hN h)) :: sk, nw h 20 i.toNatClampNeg i.toNatClampNeg) res := i_newarray k_75_235
theorem e_75_237 {o : Nat} {v : Option Nat} : X xs L d 75 (237, lo, .inr v :: .inr (some o) :: sk, h) res ↔ hK h o = 9 ∧ X xs L d 75 (240, lo, sk, sR h o 41 v) res := i_putR k_75_237
theorem e_75_240 {x : Option Nat} : X xs L d 75 (240, [some (.inr x)], sk, h) res ↔ X xs L d 75 (241, [some (.inr x)], .inr x :: sk, h) res := i_aload_n k_75_240 rfl
theorem e_75_241 : X xs L d 75 (241, lo, sk, h) res ↔ X xs L d 75 (243, lo, .inl 16 :: sk, h) res := i_bipush k_75_241
theorem e_75_243 {i : Int32} : X xs L d 75 (243, lo, .inl i :: sk, h) res ↔ (¬ i < 0 ∧ i.toNatClampNeg ≤ 100000) ∧ X xs L d 75 (245, lo, .inr (some (hN h)) :: sk, nw h 20 i.toNatClampNeg i.toNatClampNeg) res := i_newarray k_75_243
theorem e_75_245 {o : Nat} {v : Option Nat} : X xs L d 75 (245, lo, .inr v :: .inr (some o) :: sk, h) res ↔ hK h o = 9 ∧ X xs L d 75 (248, lo, sk, sR h o 43 v) res := i_putR k_75_245
theorem e_75_248 : X xs L d 75 (248, lo, [], h) res ↔ res = (none, h) := i_vret k_75_248 rfl
theorem k_76_0 : am_cd 76 0 = some (.aload_n 0, 1, [], [])   := rfl
theorem k_76_1 : am_cd 76 1 = some (.getfield 102, 3, [9, 0, 0], [(0, 704)])   := rfl
theorem k_76_4 : am_cd 76 4 = some (.sipush 150, 3, [], [(150, 0)])   := rfl
theorem k_76_7 : am_cd 76 7 = some (.if_icmp .eq 15, 3, [22], [])   := rfl
theorem k_76_10 : am_cd 76 10 = some (.iload_n 1, 1, [], [])   := rfl
theorem k_76_11 : am_cd 76 11 = some (.bipush 32, 2, [], [(32, 0)])   := rfl
theorem k_76_13 : am_cd 76 13 = some (.if_icmp .lt 9, 3, [22], [])   := rfl
theorem k_76_16 : am_cd 76 16 = some (.iload_n 1, 1, [], [])   := rfl
theorem k_76_17 : am_cd 76 17 = some (.bipush 126, 2, [], [(126, 0)])   := rfl
theorem k_76_19 : am_cd 76 19 = some (.if_icmp .le 5, 3, [24], [])   := rfl
theorem k_76_22 : am_cd 76 22 = some (.iconst 0, 1, [], [(0, 0)])   := rfl
theorem k_76_23 : am_cd 76 23 = some (.ireturn, 1, [], [])   := rfl
theorem k_76_24 : am_cd 76 24 = some (.aload_n 0, 1, [], [])   := rfl
theorem k_76_25 : am_cd 76 25 = some (.getfield 7, 3, [9, 1, 2], [(0, 705)])   := rfl
theorem k_76_28 : am_cd 76 28 = some (.aload_n 0, 1, [], [])   := rfl
theorem k_76_29 : am_cd 76 29 = some (.getfield 102, 3, [9, 0, 0], [(0, 704)])   := rfl
theorem k_76_32 : am_cd 76 32 = some (.iload_n 1, 1, [], [])   := rfl
theorem k_76_33 : am_cd 76 33 = some (.castore, 1, [], [])   := rfl
theorem k_76_34 : am_cd 76 34 = some (.aload_n 0, 1, [], [])   := rfl
theorem k_76_35 : am_cd 76 35 = some (.dup, 1, [], [])   := rfl
theorem k_76_36 : am_cd 76 36 = some (.getfield 102, 3, [9, 0, 0], [(0, 704)])   := rfl
theorem k_76_39 : am_cd 76 39 = some (.iconst 1, 1, [], [(1, 0)])   := rfl
theorem k_76_40 : am_cd 76 40 = some (.iadd, 1, [], [])   := rfl
theorem k_76_41 : am_cd 76 41 = some (.putfield 102, 3, [9, 0, 0], [(0, 704)])   := rfl
theorem k_76_44 : am_cd 76 44 = some (.iconst 1, 1, [], [(1, 0)])   := rfl
theorem k_76_45 : am_cd 76 45 = some (.ireturn, 1, [], [])   := rfl
theorem e_76_0 {x : Option Nat} {a1 : Option AV} : X xs L d 76 (0, [some (.inr x), a1], sk, h) res ↔ X xs L d 76 (1, [some (.inr x), a1], .inr x :: sk, h) res := i_aload_n k_76_0 rfl
theorem e_76_1 {o : Nat} : X xs L d 76 (1, lo, .inr (some o) :: sk, h) res ↔ hK h o = 9 ∧ X xs L d 76 (4, lo, .inl (hI h o 0) :: sk, h) res := i_getI k_76_1
theorem e_76_4 : X xs L d 76 (4, lo, sk, h) res ↔ X xs L d 76 (7, lo, .inl 150 :: sk, h) res := i_sipush k_76_4
theorem e_76_7 {x y : Int32} : X xs L d 76 (7, lo, .inl y :: .inl x :: sk, h) res ↔ (if x = y then X xs L d 76 (22, lo, sk, h) res else X xs L d 76 (10, lo, sk, h) res) := i_icmp_eq k_76_7
theorem e_76_10 {x : Int32} {a0 : Option AV} : X xs L d 76 (10, [a0, some (.inl x)], sk, h) res ↔ X xs L d 76 (11, [a0, some (.inl x)], .inl x :: sk, h) res := i_iload_n k_76_10 rfl
theorem e_76_11 : X xs L d 76 (11, lo, sk, h) res ↔ X xs L d 76 (13, lo, .inl 32 :: sk, h) res := i_bipush k_76_11
theorem e_76_13 {x y : Int32} : X xs L d 76 (13, lo, .inl y :: .inl x :: sk, h) res ↔ (if x < y then X xs L d 76 (22, lo, sk, h) res else X xs L d 76 (16, lo, sk, h) res) := i_icmp_lt k_76_13
theorem e_76_16 {x : Int32} {a0 : Option AV} : X xs L d 76 (16, [a0, some (.inl x)], sk, h) res ↔ X xs L d 76 (17, [a0, some (.inl x)], .inl x :: sk, h) res := i_iload_n k_76_16 rfl
theorem e_76_17 : X xs L d 76 (17, lo, sk, h) res ↔ X xs L d 76 (19, lo, .inl 126 :: sk, h) res := i_bipush k_76_17
theorem e_76_19 {x y : Int32} : X xs L d 76 (19, lo, .inl y :: .inl x :: sk, h) res ↔ (if x ≤ y then X xs L d 76 (24, lo, sk, h) res else X xs L d 76 (22, lo, sk, h) res) := i_icmp_le k_76_19
theorem e_76_22 : X xs L d 76 (22, lo, sk, h) res ↔ X xs L d 76 (23, lo, .inl 0 :: sk, h) res := i_iconst k_76_22
theorem e_76_23 {v : Int32} : X xs L d 76 (23, lo, [.inl v], h) res ↔ (v = 0 ∨ v = 1) ∧ res = (some (.inl v), h) := i_zret k_76_23 rfl
theorem e_76_24 {x : Option Nat} {a1 : Option AV} : X xs L d 76 (24, [some (.inr x), a1], sk, h) res ↔ X xs L d 76 (25, [some (.inr x), a1], .inr x :: sk, h) res := i_aload_n k_76_24 rfl
theorem e_76_25 {o : Nat} : X xs L d 76 (25, lo, .inr (some o) :: sk, h) res ↔ hK h o = 9 ∧ X xs L d 76 (28, lo, .inr (hR h o 1) :: sk, h) res := i_getR k_76_25
theorem e_76_28 {x : Option Nat} {a1 : Option AV} : X xs L d 76 (28, [some (.inr x), a1], sk, h) res ↔ X xs L d 76 (29, [some (.inr x), a1], .inr x :: sk, h) res := i_aload_n k_76_28 rfl
theorem e_76_29 {o : Nat} : X xs L d 76 (29, lo, .inr (some o) :: sk, h) res ↔ hK h o = 9 ∧ X xs L d 76 (32, lo, .inl (hI h o 0) :: sk, h) res := i_getI k_76_29
theorem e_76_32 {x : Int32} {a0 : Option AV} : X xs L d 76 (32, [a0, some (.inl x)], sk, h) res ↔ X xs L d 76 (33, [a0, some (.inl x)], .inl x :: sk, h) res := i_iload_n k_76_32 rfl
theorem e_76_33 {o : Nat} {i v : Int32} : X xs L d 76 (33, lo, .inl v :: .inl i :: .inr (some o) :: sk, h) res ↔ (hK h o = 21 ∧ vp_in i (hL h o)) ∧ X xs L d 76 (34, lo, sk, sI h o i.toNatClampNeg (vp_nar .char v)) res := i_castore k_76_33
theorem e_76_34 {x : Option Nat} {a1 : Option AV} : X xs L d 76 (34, [some (.inr x), a1], sk, h) res ↔ X xs L d 76 (35, [some (.inr x), a1], .inr x :: sk, h) res := i_aload_n k_76_34 rfl
theorem e_76_35 {v : AV} : X xs L d 76 (35, lo, v :: sk, h) res ↔ X xs L d 76 (36, lo, v :: v :: sk, h) res := i_dup k_76_35
theorem e_76_36 {o : Nat} : X xs L d 76 (36, lo, .inr (some o) :: sk, h) res ↔ hK h o = 9 ∧ X xs L d 76 (39, lo, .inl (hI h o 0) :: sk, h) res := i_getI k_76_36
theorem e_76_39 : X xs L d 76 (39, lo, sk, h) res ↔ X xs L d 76 (40, lo, .inl 1 :: sk, h) res := i_iconst k_76_39
theorem e_76_40 {x y : Int32} : X xs L d 76 (40, lo, .inl y :: .inl x :: sk, h) res ↔ X xs L d 76 (41, lo, .inl (x + y) :: sk, h) res := i_iadd k_76_40
theorem e_76_41 {o : Nat} {v : Int32} : X xs L d 76 (41, lo, .inl v :: .inr (some o) :: sk, h) res ↔ hK h o = 9 ∧ X xs L d 76 (44, lo, sk, sI h o 0 v) res := i_putI k_76_41
theorem e_76_44 : X xs L d 76 (44, lo, sk, h) res ↔ X xs L d 76 (45, lo, .inl 1 :: sk, h) res := i_iconst k_76_44
theorem e_76_45 {v : Int32} : X xs L d 76 (45, lo, [.inl v], h) res ↔ (v = 0 ∨ v = 1) ∧ res = (some (.inl v), h) := i_zret k_76_45 rfl
theorem k_77_0 : am_cd 77 0 = some (.iload_n 0, 1, [], [])   := rfl
theorem k_77_1 : am_cd 77 1 = some (.bipush 97, 2, [], [(97, 0)])   := rfl
theorem k_77_3 : am_cd 77 3 = some (.if_icmp .lt 13, 3, [16], [])   := rfl
theorem k_77_6 : am_cd 77 6 = some (.iload_n 0, 1, [], [])   := rfl
theorem k_77_7 : am_cd 77 7 = some (.bipush 102, 2, [], [(102, 0)])   := rfl
theorem k_77_9 : am_cd 77 9 = some (.if_icmp .gt 7, 3, [16], [])   := rfl
theorem k_77_12 : am_cd 77 12 = some (.iconst 1, 1, [], [(1, 0)])   := rfl
theorem k_77_13 : am_cd 77 13 = some (.goto 4, 3, [17], [])   := rfl
theorem k_77_16 : am_cd 77 16 = some (.iconst 0, 1, [], [(0, 0)])   := rfl
theorem k_77_17 : am_cd 77 17 = some (.ireturn, 1, [], [])   := rfl
theorem e_77_0 {x : Int32} : X xs L d 77 (0, [some (.inl x)], sk, h) res ↔ X xs L d 77 (1, [some (.inl x)], .inl x :: sk, h) res := i_iload_n k_77_0 rfl
theorem e_77_1 : X xs L d 77 (1, lo, sk, h) res ↔ X xs L d 77 (3, lo, .inl 97 :: sk, h) res := i_bipush k_77_1
theorem e_77_3 {x y : Int32} : X xs L d 77 (3, lo, .inl y :: .inl x :: sk, h) res ↔ (if x < y then X xs L d 77 (16, lo, sk, h) res else X xs L d 77 (6, lo, sk, h) res) := i_icmp_lt k_77_3
theorem e_77_6 {x : Int32} : X xs L d 77 (6, [some (.inl x)], sk, h) res ↔ X xs L d 77 (7, [some (.inl x)], .inl x :: sk, h) res := i_iload_n k_77_6 rfl
theorem e_77_7 : X xs L d 77 (7, lo, sk, h) res ↔ X xs L d 77 (9, lo, .inl 102 :: sk, h) res := i_bipush k_77_7
theorem e_77_9 {x y : Int32} : X xs L d 77 (9, lo, .inl y :: .inl x :: sk, h) res ↔ (if y < x then X xs L d 77 (16, lo, sk, h) res else X xs L d 77 (12, lo, sk, h) res) := i_icmp_gt k_77_9
theorem e_77_12 : X xs L d 77 (12, lo, sk, h) res ↔ X xs L d 77 (13, lo, .inl 1 :: sk, h) res := i_iconst k_77_12
theorem e_77_13 : X xs L d 77 (13, lo, sk, h) res ↔ X xs L d 77 (17, lo, sk, h) res := i_goto k_77_13
theorem e_77_16 : X xs L d 77 (16, lo, sk, h) res ↔ X xs L d 77 (17, lo, .inl 0 :: sk, h) res := i_iconst k_77_16
theorem e_77_17 {v : Int32} : X xs L d 77 (17, lo, [.inl v], h) res ↔ (v = 0 ∨ v = 1) ∧ res = (some (.inl v), h) := i_zret k_77_17 rfl
theorem k_78_0 : am_cd 78 0 = some (.iload_n 0, 1, [], [])   := rfl
theorem k_78_1 : am_cd 78 1 = some (.bipush 65, 2, [], [(65, 0)])   := rfl
theorem k_78_3 : am_cd 78 3 = some (.if_icmp .lt 13, 3, [16], [])   := rfl
theorem k_78_6 : am_cd 78 6 = some (.iload_n 0, 1, [], [])   := rfl
theorem k_78_7 : am_cd 78 7 = some (.bipush 68, 2, [], [(68, 0)])   := rfl
theorem k_78_9 : am_cd 78 9 = some (.if_icmp .gt 7, 3, [16], [])   := rfl
theorem k_78_12 : am_cd 78 12 = some (.iconst 1, 1, [], [(1, 0)])   := rfl
theorem k_78_13 : am_cd 78 13 = some (.goto 4, 3, [17], [])   := rfl
theorem k_78_16 : am_cd 78 16 = some (.iconst 0, 1, [], [(0, 0)])   := rfl
theorem k_78_17 : am_cd 78 17 = some (.ireturn, 1, [], [])   := rfl
theorem e_78_0 {x : Int32} : X xs L d 78 (0, [some (.inl x)], sk, h) res ↔ X xs L d 78 (1, [some (.inl x)], .inl x :: sk, h) res := i_iload_n k_78_0 rfl
theorem e_78_1 : X xs L d 78 (1, lo, sk, h) res ↔ X xs L d 78 (3, lo, .inl 65 :: sk, h) res := i_bipush k_78_1
theorem e_78_3 {x y : Int32} : X xs L d 78 (3, lo, .inl y :: .inl x :: sk, h) res ↔ (if x < y then X xs L d 78 (16, lo, sk, h) res else X xs L d 78 (6, lo, sk, h) res) := i_icmp_lt k_78_3
theorem e_78_6 {x : Int32} : X xs L d 78 (6, [some (.inl x)], sk, h) res ↔ X xs L d 78 (7, [some (.inl x)], .inl x :: sk, h) res := i_iload_n k_78_6 rfl
theorem e_78_7 : X xs L d 78 (7, lo, sk, h) res ↔ X xs L d 78 (9, lo, .inl 68 :: sk, h) res := i_bipush k_78_7
theorem e_78_9 {x y : Int32} : X xs L d 78 (9, lo, .inl y :: .inl x :: sk, h) res ↔ (if y < x then X xs L d 78 (16, lo, sk, h) res else X xs L d 78 (12, lo, sk, h) res) := i_icmp_gt k_78_9
theorem e_78_12 : X xs L d 78 (12, lo, sk, h) res ↔ X xs L d 78 (13, lo, .inl 1 :: sk, h) res := i_iconst k_78_12
theorem e_78_13 : X xs L d 78 (13, lo, sk, h) res ↔ X xs L d 78 (17, lo, sk, h) res := i_goto k_78_13
theorem e_78_16 : X xs L d 78 (16, lo, sk, h) res ↔ X xs L d 78 (17, lo, .inl 0 :: sk, h) res := i_iconst k_78_16
theorem e_78_17 {v : Int32} : X xs L d 78 (17, lo, [.inl v], h) res ↔ (v = 0 ∨ v = 1) ∧ res = (some (.inl v), h) := i_zret k_78_17 rfl
theorem k_79_0 : am_cd 79 0 = some (.iload_n 0, 1, [], [])   := rfl
theorem k_79_1 : am_cd 79 1 = some (.bipush 48, 2, [], [(48, 0)])   := rfl
theorem k_79_3 : am_cd 79 3 = some (.if_icmp .lt 13, 3, [16], [])   := rfl
theorem k_79_6 : am_cd 79 6 = some (.iload_n 0, 1, [], [])   := rfl
theorem k_79_7 : am_cd 79 7 = some (.bipush 57, 2, [], [(57, 0)])   := rfl
theorem k_79_9 : am_cd 79 9 = some (.if_icmp .gt 7, 3, [16], [])   := rfl
theorem k_79_12 : am_cd 79 12 = some (.iconst 1, 1, [], [(1, 0)])   := rfl
theorem k_79_13 : am_cd 79 13 = some (.goto 4, 3, [17], [])   := rfl
theorem k_79_16 : am_cd 79 16 = some (.iconst 0, 1, [], [(0, 0)])   := rfl
theorem k_79_17 : am_cd 79 17 = some (.ireturn, 1, [], [])   := rfl
theorem e_79_0 {x : Int32} : X xs L d 79 (0, [some (.inl x)], sk, h) res ↔ X xs L d 79 (1, [some (.inl x)], .inl x :: sk, h) res := i_iload_n k_79_0 rfl
theorem e_79_1 : X xs L d 79 (1, lo, sk, h) res ↔ X xs L d 79 (3, lo, .inl 48 :: sk, h) res := i_bipush k_79_1
theorem e_79_3 {x y : Int32} : X xs L d 79 (3, lo, .inl y :: .inl x :: sk, h) res ↔ (if x < y then X xs L d 79 (16, lo, sk, h) res else X xs L d 79 (6, lo, sk, h) res) := i_icmp_lt k_79_3
theorem e_79_6 {x : Int32} : X xs L d 79 (6, [some (.inl x)], sk, h) res ↔ X xs L d 79 (7, [some (.inl x)], .inl x :: sk, h) res := i_iload_n k_79_6 rfl
theorem e_79_7 : X xs L d 79 (7, lo, sk, h) res ↔ X xs L d 79 (9, lo, .inl 57 :: sk, h) res := i_bipush k_79_7
theorem e_79_9 {x y : Int32} : X xs L d 79 (9, lo, .inl y :: .inl x :: sk, h) res ↔ (if y < x then X xs L d 79 (16, lo, sk, h) res else X xs L d 79 (12, lo, sk, h) res) := i_icmp_gt k_79_9
theorem e_79_12 : X xs L d 79 (12, lo, sk, h) res ↔ X xs L d 79 (13, lo, .inl 1 :: sk, h) res := i_iconst k_79_12
theorem e_79_13 : X xs L d 79 (13, lo, sk, h) res ↔ X xs L d 79 (17, lo, sk, h) res := i_goto k_79_13
theorem e_79_16 : X xs L d 79 (16, lo, sk, h) res ↔ X xs L d 79 (17, lo, .inl 0 :: sk, h) res := i_iconst k_79_16
theorem e_79_17 {v : Int32} : X xs L d 79 (17, lo, [.inl v], h) res ↔ (v = 0 ∨ v = 1) ∧ res = (some (.inl v), h) := i_zret k_79_17 rfl
theorem k_80_0 : am_cd 80 0 = some (.iload_n 0, 1, [], [])   := rfl
theorem k_80_1 : am_cd 80 1 = some (.bipush 43, 2, [], [(43, 0)])   := rfl
theorem k_80_3 : am_cd 80 3 = some (.if_icmp .eq 33, 3, [36], [])   := rfl
theorem k_80_6 : am_cd 80 6 = some (.iload_n 0, 1, [], [])   := rfl
theorem k_80_7 : am_cd 80 7 = some (.bipush 45, 2, [], [(45, 0)])   := rfl
theorem k_80_9 : am_cd 80 9 = some (.if_icmp .eq 27, 3, [36], [])   := rfl
theorem k_80_12 : am_cd 80 12 = some (.iload_n 0, 1, [], [])   := rfl
theorem k_80_13 : am_cd 80 13 = some (.bipush 42, 2, [], [(42, 0)])   := rfl
theorem k_80_15 : am_cd 80 15 = some (.if_icmp .eq 21, 3, [36], [])   := rfl
theorem k_80_18 : am_cd 80 18 = some (.iload_n 0, 1, [], [])   := rfl
theorem k_80_19 : am_cd 80 19 = some (.bipush 47, 2, [], [(47, 0)])   := rfl
theorem k_80_21 : am_cd 80 21 = some (.if_icmp .eq 15, 3, [36], [])   := rfl
theorem k_80_24 : am_cd 80 24 = some (.iload_n 0, 1, [], [])   := rfl
theorem k_80_25 : am_cd 80 25 = some (.bipush 60, 2, [], [(60, 0)])   := rfl
theorem k_80_27 : am_cd 80 27 = some (.if_icmp .eq 9, 3, [36], [])   := rfl
theorem k_80_30 : am_cd 80 30 = some (.iload_n 0, 1, [], [])   := rfl
theorem k_80_31 : am_cd 80 31 = some (.bipush 61, 2, [], [(61, 0)])   := rfl
theorem k_80_33 : am_cd 80 33 = some (.if_icmp .ne 7, 3, [40], [])   := rfl
theorem k_80_36 : am_cd 80 36 = some (.iconst 1, 1, [], [(1, 0)])   := rfl
theorem k_80_37 : am_cd 80 37 = some (.goto 4, 3, [41], [])   := rfl
theorem k_80_40 : am_cd 80 40 = some (.iconst 0, 1, [], [(0, 0)])   := rfl
theorem k_80_41 : am_cd 80 41 = some (.ireturn, 1, [], [])   := rfl
theorem e_80_0 {x : Int32} : X xs L d 80 (0, [some (.inl x)], sk, h) res ↔ X xs L d 80 (1, [some (.inl x)], .inl x :: sk, h) res := i_iload_n k_80_0 rfl
theorem e_80_1 : X xs L d 80 (1, lo, sk, h) res ↔ X xs L d 80 (3, lo, .inl 43 :: sk, h) res := i_bipush k_80_1
theorem e_80_3 {x y : Int32} : X xs L d 80 (3, lo, .inl y :: .inl x :: sk, h) res ↔ (if x = y then X xs L d 80 (36, lo, sk, h) res else X xs L d 80 (6, lo, sk, h) res) := i_icmp_eq k_80_3
theorem e_80_6 {x : Int32} : X xs L d 80 (6, [some (.inl x)], sk, h) res ↔ X xs L d 80 (7, [some (.inl x)], .inl x :: sk, h) res := i_iload_n k_80_6 rfl
theorem e_80_7 : X xs L d 80 (7, lo, sk, h) res ↔ X xs L d 80 (9, lo, .inl 45 :: sk, h) res := i_bipush k_80_7
theorem e_80_9 {x y : Int32} : X xs L d 80 (9, lo, .inl y :: .inl x :: sk, h) res ↔ (if x = y then X xs L d 80 (36, lo, sk, h) res else X xs L d 80 (12, lo, sk, h) res) := i_icmp_eq k_80_9
theorem e_80_12 {x : Int32} : X xs L d 80 (12, [some (.inl x)], sk, h) res ↔ X xs L d 80 (13, [some (.inl x)], .inl x :: sk, h) res := i_iload_n k_80_12 rfl
theorem e_80_13 : X xs L d 80 (13, lo, sk, h) res ↔ X xs L d 80 (15, lo, .inl 42 :: sk, h) res := i_bipush k_80_13
theorem e_80_15 {x y : Int32} : X xs L d 80 (15, lo, .inl y :: .inl x :: sk, h) res ↔ (if x = y then X xs L d 80 (36, lo, sk, h) res else X xs L d 80 (18, lo, sk, h) res) := i_icmp_eq k_80_15
theorem e_80_18 {x : Int32} : X xs L d 80 (18, [some (.inl x)], sk, h) res ↔ X xs L d 80 (19, [some (.inl x)], .inl x :: sk, h) res := i_iload_n k_80_18 rfl
theorem e_80_19 : X xs L d 80 (19, lo, sk, h) res ↔ X xs L d 80 (21, lo, .inl 47 :: sk, h) res := i_bipush k_80_19
theorem e_80_21 {x y : Int32} : X xs L d 80 (21, lo, .inl y :: .inl x :: sk, h) res ↔ (if x = y then X xs L d 80 (36, lo, sk, h) res else X xs L d 80 (24, lo, sk, h) res) := i_icmp_eq k_80_21
theorem e_80_24 {x : Int32} : X xs L d 80 (24, [some (.inl x)], sk, h) res ↔ X xs L d 80 (25, [some (.inl x)], .inl x :: sk, h) res := i_iload_n k_80_24 rfl
theorem e_80_25 : X xs L d 80 (25, lo, sk, h) res ↔ X xs L d 80 (27, lo, .inl 60 :: sk, h) res := i_bipush k_80_25
theorem e_80_27 {x y : Int32} : X xs L d 80 (27, lo, .inl y :: .inl x :: sk, h) res ↔ (if x = y then X xs L d 80 (36, lo, sk, h) res else X xs L d 80 (30, lo, sk, h) res) := i_icmp_eq k_80_27
theorem e_80_30 {x : Int32} : X xs L d 80 (30, [some (.inl x)], sk, h) res ↔ X xs L d 80 (31, [some (.inl x)], .inl x :: sk, h) res := i_iload_n k_80_30 rfl
theorem e_80_31 : X xs L d 80 (31, lo, sk, h) res ↔ X xs L d 80 (33, lo, .inl 61 :: sk, h) res := i_bipush k_80_31
theorem e_80_33 {x y : Int32} : X xs L d 80 (33, lo, .inl y :: .inl x :: sk, h) res ↔ (if x = y then X xs L d 80 (36, lo, sk, h) res else X xs L d 80 (40, lo, sk, h) res) := i_icmp_ne k_80_33
theorem e_80_36 : X xs L d 80 (36, lo, sk, h) res ↔ X xs L d 80 (37, lo, .inl 1 :: sk, h) res := i_iconst k_80_36
theorem e_80_37 : X xs L d 80 (37, lo, sk, h) res ↔ X xs L d 80 (41, lo, sk, h) res := i_goto k_80_37
theorem e_80_40 : X xs L d 80 (40, lo, sk, h) res ↔ X xs L d 80 (41, lo, .inl 0 :: sk, h) res := i_iconst k_80_40
theorem e_80_41 {v : Int32} : X xs L d 80 (41, lo, [.inl v], h) res ↔ (v = 0 ∨ v = 1) ∧ res = (some (.inl v), h) := i_zret k_80_41 rfl
theorem k_81_0 : am_cd 81 0 = some (.iconst 0, 1, [], [(0, 0)])   := rfl
theorem k_81_1 : am_cd 81 1 = some (.istore_n 2, 1, [], [])   := rfl
theorem k_81_2 : am_cd 81 2 = some (.iload_n 2, 1, [], [])   := rfl
theorem k_81_3 : am_cd 81 3 = some (.sipush 152, 3, [], [(152, 0)])   := rfl
theorem k_81_6 : am_cd 81 6 = some (.if_icmp .ge 40, 3, [46], [])   := rfl
theorem k_81_9 : am_cd 81 9 = some (.aload_n 0, 1, [], [])   := rfl
theorem k_81_10 : am_cd 81 10 = some (.getfield 13, 3, [9, 2, 2], [(0, 706)])   := rfl
theorem k_81_13 : am_cd 81 13 = some (.sipush 152, 3, [], [(152, 0)])   := rfl
theorem k_81_16 : am_cd 81 16 = some (.iload_n 1, 1, [], [])   := rfl
theorem k_81_17 : am_cd 81 17 = some (.imul, 1, [], [])   := rfl
theorem k_81_18 : am_cd 81 18 = some (.iload_n 2, 1, [], [])   := rfl
theorem k_81_19 : am_cd 81 19 = some (.iadd, 1, [], [])   := rfl
theorem k_81_20 : am_cd 81 20 = some (.iload_n 2, 1, [], [])   := rfl
theorem k_81_21 : am_cd 81 21 = some (.aload_n 0, 1, [], [])   := rfl
theorem k_81_22 : am_cd 81 22 = some (.getfield 102, 3, [9, 0, 0], [(0, 704)])   := rfl
theorem k_81_25 : am_cd 81 25 = some (.if_icmp .ge 12, 3, [37], [])   := rfl
theorem k_81_28 : am_cd 81 28 = some (.aload_n 0, 1, [], [])   := rfl
theorem k_81_29 : am_cd 81 29 = some (.getfield 7, 3, [9, 1, 2], [(0, 705)])   := rfl
theorem k_81_32 : am_cd 81 32 = some (.iload_n 2, 1, [], [])   := rfl
theorem k_81_33 : am_cd 81 33 = some (.caload, 1, [], [])   := rfl
theorem k_81_34 : am_cd 81 34 = some (.goto 5, 3, [39], [])   := rfl
theorem k_81_37 : am_cd 81 37 = some (.bipush 59, 2, [], [(59, 0)])   := rfl
theorem k_81_39 : am_cd 81 39 = some (.castore, 1, [], [])   := rfl
theorem k_81_40 : am_cd 81 40 = some (.iinc 2 1, 3, [], [(1, 0)])   := rfl
theorem k_81_43 : am_cd 81 43 = some (.goto (-41), 3, [2], [])   := rfl
theorem k_81_46 : am_cd 81 46 = some (.return_, 1, [], [])   := rfl
theorem e_81_0 : X xs L d 81 (0, lo, sk, h) res ↔ X xs L d 81 (1, lo, .inl 0 :: sk, h) res := i_iconst k_81_0
theorem e_81_1 {x : Int32} {a0 a1 a2 : Option AV} : X xs L d 81 (1, [a0, a1, a2], .inl x :: sk, h) res ↔ X xs L d 81 (2, [a0, a1, some (.inl x)], sk, h) res := i_istore_n k_81_1 (Nat.le_of_ble_eq_true rfl) rfl
theorem e_81_2 {x : Int32} {a0 a1 : Option AV} : X xs L d 81 (2, [a0, a1, some (.inl x)], sk, h) res ↔ X xs L d 81 (3, [a0, a1, some (.inl x)], .inl x :: sk, h) res := i_iload_n k_81_2 rfl
theorem e_81_3 : X xs L d 81 (3, lo, sk, h) res ↔ X xs L d 81 (6, lo, .inl 152 :: sk, h) res := i_sipush k_81_3
theorem e_81_6 {x y : Int32} : X xs L d 81 (6, lo, .inl y :: .inl x :: sk, h) res ↔ (if y ≤ x then X xs L d 81 (46, lo, sk, h) res else X xs L d 81 (9, lo, sk, h) res) := i_icmp_ge k_81_6
theorem e_81_9 {x : Option Nat} {a1 a2 : Option AV} : X xs L d 81 (9, [some (.inr x), a1, a2], sk, h) res ↔ X xs L d 81 (10, [some (.inr x), a1, a2], .inr x :: sk, h) res := i_aload_n k_81_9 rfl
theorem e_81_10 {o : Nat} : X xs L d 81 (10, lo, .inr (some o) :: sk, h) res ↔ hK h o = 9 ∧ X xs L d 81 (13, lo, .inr (hR h o 2) :: sk, h) res := i_getR k_81_10
theorem e_81_13 : X xs L d 81 (13, lo, sk, h) res ↔ X xs L d 81 (16, lo, .inl 152 :: sk, h) res := i_sipush k_81_13
theorem e_81_16 {x : Int32} {a0 a2 : Option AV} : X xs L d 81 (16, [a0, some (.inl x), a2], sk, h) res ↔ X xs L d 81 (17, [a0, some (.inl x), a2], .inl x :: sk, h) res := i_iload_n k_81_16 rfl
theorem e_81_17 {x y : Int32} : X xs L d 81 (17, lo, .inl y :: .inl x :: sk, h) res ↔ X xs L d 81 (18, lo, .inl (x * y) :: sk, h) res := i_imul k_81_17
theorem e_81_18 {x : Int32} {a0 a1 : Option AV} : X xs L d 81 (18, [a0, a1, some (.inl x)], sk, h) res ↔ X xs L d 81 (19, [a0, a1, some (.inl x)], .inl x :: sk, h) res := i_iload_n k_81_18 rfl
theorem e_81_19 {x y : Int32} : X xs L d 81 (19, lo, .inl y :: .inl x :: sk, h) res ↔ X xs L d 81 (20, lo, .inl (x + y) :: sk, h) res := i_iadd k_81_19
theorem e_81_20 {x : Int32} {a0 a1 : Option AV} : X xs L d 81 (20, [a0, a1, some (.inl x)], sk, h) res ↔ X xs L d 81 (21, [a0, a1, some (.inl x)], .inl x :: sk, h) res := i_iload_n k_81_20 rfl
theorem e_81_21 {x : Option Nat} {a1 a2 : Option AV} : X xs L d 81 (21, [some (.inr x), a1, a2], sk, h) res ↔ X xs L d 81 (22, [some (.inr x), a1, a2], .inr x :: sk, h) res := i_aload_n k_81_21 rfl
theorem e_81_22 {o : Nat} : X xs L d 81 (22, lo, .inr (some o) :: sk, h) res ↔ hK h o = 9 ∧ X xs L d 81 (25, lo, .inl (hI h o 0) :: sk, h) res := i_getI k_81_22
theorem e_81_25 {x y : Int32} : X xs L d 81 (25, lo, .inl y :: .inl x :: sk, h) res ↔ (if y ≤ x then X xs L d 81 (37, lo, sk, h) res else X xs L d 81 (28, lo, sk, h) res) := i_icmp_ge k_81_25
theorem e_81_28 {x : Option Nat} {a1 a2 : Option AV} : X xs L d 81 (28, [some (.inr x), a1, a2], sk, h) res ↔ X xs L d 81 (29, [some (.inr x), a1, a2], .inr x :: sk, h) res := i_aload_n k_81_28 rfl
theorem e_81_29 {o : Nat} : X xs L d 81 (29, lo, .inr (some o) :: sk, h) res ↔ hK h o = 9 ∧ X xs L d 81 (32, lo, .inr (hR h o 1) :: sk, h) res := i_getR k_81_29
theorem e_81_32 {x : Int32} {a0 a1 : Option AV} : X xs L d 81 (32, [a0, a1, some (.inl x)], sk, h) res ↔ X xs L d 81 (33, [a0, a1, some (.inl x)], .inl x :: sk, h) res := i_iload_n k_81_32 rfl
theorem e_81_33 {o : Nat} {i : Int32} : X xs L d 81 (33, lo, .inl i :: .inr (some o) :: sk, h) res ↔ (hK h o = 21 ∧ vp_in i (hL h o)) ∧ X xs L d 81 (34, lo, .inl (hI h o i.toNatClampNeg) :: sk, h) res := i_caload k_81_33
theorem e_81_34 : X xs L d 81 (34, lo, sk, h) res ↔ X xs L d 81 (39, lo, sk, h) res := i_goto k_81_34
theorem e_81_37 : X xs L d 81 (37, lo, sk, h) res ↔ X xs L d 81 (39, lo, .inl 59 :: sk, h) res := i_bipush k_81_37
theorem e_81_39 {o : Nat} {i v : Int32} : X xs L d 81 (39, lo, .inl v :: .inl i :: .inr (some o) :: sk, h) res ↔ (hK h o = 21 ∧ vp_in i (hL h o)) ∧ X xs L d 81 (40, lo, sk, sI h o i.toNatClampNeg (vp_nar .char v)) res := i_castore k_81_39
theorem e_81_40 {x : Int32} {a0 a1 : Option AV} : X xs L d 81 (40, [a0, a1, some (.inl x)], sk, h) res ↔ X xs L d 81 (43, [a0, a1, some (.inl (x + 1))], sk, h) res := i_iinc k_81_40 rfl rfl
theorem e_81_43 : X xs L d 81 (43, lo, sk, h) res ↔ X xs L d 81 (2, lo, sk, h) res := i_goto k_81_43
theorem e_81_46 : X xs L d 81 (46, lo, [], h) res ↔ res = (none, h) := i_vret k_81_46 rfl
theorem k_82_0 : am_cd 82 0 = some (.aload_n 0, 1, [], [])   := rfl
theorem k_82_1 : am_cd 82 1 = some (.getfield 13, 3, [9, 2, 2], [(0, 706)])   := rfl
theorem k_82_4 : am_cd 82 4 = some (.iload_n 1, 1, [], [])   := rfl
theorem k_82_5 : am_cd 82 5 = some (.caload, 1, [], [])   := rfl
theorem k_82_6 : am_cd 82 6 = some (.istore_n 3, 1, [], [])   := rfl
theorem k_82_7 : am_cd 82 7 = some (.iload_n 3, 1, [], [])   := rfl
theorem k_82_8 : am_cd 82 8 = some (.invokestatic 106, 3, [79, 1], [(0, 880), (0, 881)])   := rfl
theorem k_82_11 : am_cd 82 11 = some (.ifCond .eq 40, 3, [51], [])   := rfl
theorem k_82_14 : am_cd 82 14 = some (.iload_n 1, 1, [], [])   := rfl
theorem k_82_15 : am_cd 82 15 = some (.istore 4, 2, [], [])   := rfl
theorem k_82_17 : am_cd 82 17 = some (.aload_n 0, 1, [], [])   := rfl
theorem k_82_18 : am_cd 82 18 = some (.getfield 13, 3, [9, 2, 2], [(0, 706)])   := rfl
theorem k_82_21 : am_cd 82 21 = some (.iload 4, 2, [], [])   := rfl
theorem k_82_23 : am_cd 82 23 = some (.caload, 1, [], [])   := rfl
theorem k_82_24 : am_cd 82 24 = some (.invokestatic 106, 3, [79, 1], [(0, 880), (0, 881)])   := rfl
theorem k_82_27 : am_cd 82 27 = some (.ifCond .eq 9, 3, [36], [])   := rfl
theorem k_82_30 : am_cd 82 30 = some (.iinc 4 1, 3, [], [(1, 0)])   := rfl
theorem k_82_33 : am_cd 82 33 = some (.goto (-16), 3, [17], [])   := rfl
theorem k_82_36 : am_cd 82 36 = some (.iload 4, 2, [], [])   := rfl
theorem k_82_38 : am_cd 82 38 = some (.iload_n 1, 1, [], [])   := rfl
theorem k_82_39 : am_cd 82 39 = some (.isub, 1, [], [])   := rfl
theorem k_82_40 : am_cd 82 40 = some (.iconst 3, 1, [], [(3, 0)])   := rfl
theorem k_82_41 : am_cd 82 41 = some (.if_icmp .gt 8, 3, [49], [])   := rfl
theorem k_82_44 : am_cd 82 44 = some (.iload 4, 2, [], [])   := rfl
theorem k_82_46 : am_cd 82 46 = some (.goto 4, 3, [50], [])   := rfl
theorem k_82_49 : am_cd 82 49 = some (.iconst (-1), 1, [], [(-1, 0)])   := rfl
theorem k_82_50 : am_cd 82 50 = some (.ireturn, 1, [], [])   := rfl
theorem k_82_51 : am_cd 82 51 = some (.iload_n 3, 1, [], [])   := rfl
theorem k_82_52 : am_cd 82 52 = some (.invokestatic 110, 3, [77, 1], [(0, 869), (0, 870)])   := rfl
theorem k_82_55 : am_cd 82 55 = some (.ifCond .eq 7, 3, [62], [])   := rfl
theorem k_82_58 : am_cd 82 58 = some (.iload_n 1, 1, [], [])   := rfl
theorem k_82_59 : am_cd 82 59 = some (.iconst 1, 1, [], [(1, 0)])   := rfl
theorem k_82_60 : am_cd 82 60 = some (.iadd, 1, [], [])   := rfl
theorem k_82_61 : am_cd 82 61 = some (.ireturn, 1, [], [])   := rfl
theorem k_82_62 : am_cd 82 62 = some (.iload_n 2, 1, [], [])   := rfl
theorem k_82_63 : am_cd 82 63 = some (.iconst 5, 1, [], [(5, 0)])   := rfl
theorem k_82_64 : am_cd 82 64 = some (.if_icmp .ne 5, 3, [69], [])   := rfl
theorem k_82_67 : am_cd 82 67 = some (.iconst (-1), 1, [], [(-1, 0)])   := rfl
theorem k_82_68 : am_cd 82 68 = some (.ireturn, 1, [], [])   := rfl
theorem k_82_69 : am_cd 82 69 = some (.iload_n 3, 1, [], [])   := rfl
theorem k_82_70 : am_cd 82 70 = some (.bipush 40, 2, [], [(40, 0)])   := rfl
theorem k_82_72 : am_cd 82 72 = some (.if_icmp .ne 14, 3, [86], [])   := rfl
theorem k_82_75 : am_cd 82 75 = some (.aload_n 0, 1, [], [])   := rfl
theorem k_82_76 : am_cd 82 76 = some (.getfield 41, 3, [9, 14, 2], [(0, 718)])   := rfl
theorem k_82_79 : am_cd 82 79 = some (.iload_n 2, 1, [], [])   := rfl
theorem k_82_80 : am_cd 82 80 = some (.iconst (-1), 1, [], [(-1, 0)])   := rfl
theorem k_82_81 : am_cd 82 81 = some (.iastore, 1, [], [])   := rfl
theorem k_82_82 : am_cd 82 82 = some (.iload_n 1, 1, [], [])   := rfl
theorem k_82_83 : am_cd 82 83 = some (.iconst 1, 1, [], [(1, 0)])   := rfl
theorem k_82_84 : am_cd 82 84 = some (.iadd, 1, [], [])   := rfl
theorem k_82_85 : am_cd 82 85 = some (.ireturn, 1, [], [])   := rfl
theorem k_82_86 : am_cd 82 86 = some (.iload_n 3, 1, [], [])   := rfl
theorem k_82_87 : am_cd 82 87 = some (.invokestatic 113, 3, [78, 1], [(0, 858), (0, 859)])   := rfl
theorem k_82_90 : am_cd 82 90 = some (.ifCond .eq 28, 3, [118], [])   := rfl
theorem k_82_93 : am_cd 82 93 = some (.aload_n 0, 1, [], [])   := rfl
theorem k_82_94 : am_cd 82 94 = some (.getfield 29, 3, [9, 10, 2], [(0, 714)])   := rfl
theorem k_82_97 : am_cd 82 97 = some (.iload_n 3, 1, [], [])   := rfl
theorem k_82_98 : am_cd 82 98 = some (.bipush 65, 2, [], [(65, 0)])   := rfl
theorem k_82_100 : am_cd 82 100 = some (.isub, 1, [], [])   := rfl
theorem k_82_101 : am_cd 82 101 = some (.iaload, 1, [], [])   := rfl
theorem k_82_102 : am_cd 82 102 = some (.ifCond .eq 16, 3, [118], [])   := rfl
theorem k_82_105 : am_cd 82 105 = some (.aload_n 0, 1, [], [])   := rfl
theorem k_82_106 : am_cd 82 106 = some (.getfield 13, 3, [9, 2, 2], [(0, 706)])   := rfl
theorem k_82_109 : am_cd 82 109 = some (.iload_n 1, 1, [], [])   := rfl
theorem k_82_110 : am_cd 82 110 = some (.iconst 1, 1, [], [(1, 0)])   := rfl
theorem k_82_111 : am_cd 82 111 = some (.iadd, 1, [], [])   := rfl
theorem k_82_112 : am_cd 82 112 = some (.caload, 1, [], [])   := rfl
theorem k_82_113 : am_cd 82 113 = some (.bipush 40, 2, [], [(40, 0)])   := rfl
theorem k_82_115 : am_cd 82 115 = some (.if_icmp .eq 5, 3, [120], [])   := rfl
theorem k_82_118 : am_cd 82 118 = some (.iconst (-1), 1, [], [(-1, 0)])   := rfl
theorem k_82_119 : am_cd 82 119 = some (.ireturn, 1, [], [])   := rfl
theorem k_82_120 : am_cd 82 120 = some (.aload_n 0, 1, [], [])   := rfl
theorem k_82_121 : am_cd 82 121 = some (.getfield 41, 3, [9, 14, 2], [(0, 718)])   := rfl
theorem k_82_124 : am_cd 82 124 = some (.iload_n 2, 1, [], [])   := rfl
theorem k_82_125 : am_cd 82 125 = some (.iload_n 3, 1, [], [])   := rfl
theorem k_82_126 : am_cd 82 126 = some (.bipush 65, 2, [], [(65, 0)])   := rfl
theorem k_82_128 : am_cd 82 128 = some (.isub, 1, [], [])   := rfl
theorem k_82_129 : am_cd 82 129 = some (.iastore, 1, [], [])   := rfl
theorem k_82_130 : am_cd 82 130 = some (.aload_n 0, 1, [], [])   := rfl
theorem k_82_131 : am_cd 82 131 = some (.getfield 44, 3, [9, 15, 2], [(0, 719)])   := rfl
theorem k_82_134 : am_cd 82 134 = some (.iload_n 2, 1, [], [])   := rfl
theorem k_82_135 : am_cd 82 135 = some (.iconst 0, 1, [], [(0, 0)])   := rfl
theorem k_82_136 : am_cd 82 136 = some (.iastore, 1, [], [])   := rfl
theorem k_82_137 : am_cd 82 137 = some (.iload_n 1, 1, [], [])   := rfl
theorem k_82_138 : am_cd 82 138 = some (.iconst 2, 1, [], [(2, 0)])   := rfl
theorem k_82_139 : am_cd 82 139 = some (.iadd, 1, [], [])   := rfl
theorem k_82_140 : am_cd 82 140 = some (.ireturn, 1, [], [])   := rfl
theorem e_82_0 {x : Option Nat} {a1 a2 a3 a4 : Option AV} : X xs L d 82 (0, [some (.inr x), a1, a2, a3, a4], sk, h) res ↔ X xs L d 82 (1, [some (.inr x), a1, a2, a3, a4], .inr x :: sk, h) res := i_aload_n k_82_0 rfl
theorem e_82_1 {o : Nat} : X xs L d 82 (1, lo, .inr (some o) :: sk, h) res ↔ hK h o = 9 ∧ X xs L d 82 (4, lo, .inr (hR h o 2) :: sk, h) res := i_getR k_82_1
theorem e_82_4 {x : Int32} {a0 a2 a3 a4 : Option AV} : X xs L d 82 (4, [a0, some (.inl x), a2, a3, a4], sk, h) res ↔ X xs L d 82 (5, [a0, some (.inl x), a2, a3, a4], .inl x :: sk, h) res := i_iload_n k_82_4 rfl
theorem e_82_5 {o : Nat} {i : Int32} : X xs L d 82 (5, lo, .inl i :: .inr (some o) :: sk, h) res ↔ (hK h o = 21 ∧ vp_in i (hL h o)) ∧ X xs L d 82 (6, lo, .inl (hI h o i.toNatClampNeg) :: sk, h) res := i_caload k_82_5
theorem e_82_6 {x : Int32} {a0 a1 a2 a3 a4 : Option AV} : X xs L d 82 (6, [a0, a1, a2, a3, a4], .inl x :: sk, h) res ↔ X xs L d 82 (7, [a0, a1, a2, some (.inl x), a4], sk, h) res := i_istore_n k_82_6 (Nat.le_of_ble_eq_true rfl) rfl
theorem e_82_7 {x : Int32} {a0 a1 a2 a4 : Option AV} : X xs L d 82 (7, [a0, a1, a2, some (.inl x), a4], sk, h) res ↔ X xs L d 82 (8, [a0, a1, a2, some (.inl x), a4], .inl x :: sk, h) res := i_iload_n k_82_7 rfl
theorem e_82_8 {v0 : Int32} (hs : sk.length ≤ 8) : X xs L d 82 (8, lo, .inl v0 :: sk, h) res ↔ ∃ q : Res, Rn xs L d 79 [.inl v0] h q ∧ X xs L d 82 (11, lo, q.1.toList ++ sk, q.2) res := i_callS k_82_8 ⟨Nat.le_add_left 1 sk.length, Nat.le_trans (Nat.add_le_add_right hs 1) (Nat.le_of_eq (Nat.add_comm 8 1))⟩
theorem e_82_11 {x : Int32} : X xs L d 82 (11, lo, .inl x :: sk, h) res ↔ (if x = 0 then X xs L d 82 (51, lo, sk, h) res else X xs L d 82 (14, lo, sk, h) res) := i_if_eq k_82_11
theorem e_82_14 {x : Int32} {a0 a2 a3 a4 : Option AV} : X xs L d 82 (14, [a0, some (.inl x), a2, a3, a4], sk, h) res ↔ X xs L d 82 (15, [a0, some (.inl x), a2, a3, a4], .inl x :: sk, h) res := i_iload_n k_82_14 rfl
theorem e_82_15 {x : Int32} {a0 a1 a2 a3 a4 : Option AV} : X xs L d 82 (15, [a0, a1, a2, a3, a4], .inl x :: sk, h) res ↔ X xs L d 82 (17, [a0, a1, a2, a3, some (.inl x)], sk, h) res := i_istore k_82_15 (Nat.le_of_ble_eq_true rfl) rfl
theorem e_82_17 {x : Option Nat} {a1 a2 a3 a4 : Option AV} : X xs L d 82 (17, [some (.inr x), a1, a2, a3, a4], sk, h) res ↔ X xs L d 82 (18, [some (.inr x), a1, a2, a3, a4], .inr x :: sk, h) res := i_aload_n k_82_17 rfl
theorem e_82_18 {o : Nat} : X xs L d 82 (18, lo, .inr (some o) :: sk, h) res ↔ hK h o = 9 ∧ X xs L d 82 (21, lo, .inr (hR h o 2) :: sk, h) res := i_getR k_82_18
theorem e_82_21 {x : Int32} {a0 a1 a2 a3 : Option AV} : X xs L d 82 (21, [a0, a1, a2, a3, some (.inl x)], sk, h) res ↔ X xs L d 82 (23, [a0, a1, a2, a3, some (.inl x)], .inl x :: sk, h) res := i_iload k_82_21 rfl
theorem e_82_23 {o : Nat} {i : Int32} : X xs L d 82 (23, lo, .inl i :: .inr (some o) :: sk, h) res ↔ (hK h o = 21 ∧ vp_in i (hL h o)) ∧ X xs L d 82 (24, lo, .inl (hI h o i.toNatClampNeg) :: sk, h) res := i_caload k_82_23
theorem e_82_24 {v0 : Int32} (hs : sk.length ≤ 8) : X xs L d 82 (24, lo, .inl v0 :: sk, h) res ↔ ∃ q : Res, Rn xs L d 79 [.inl v0] h q ∧ X xs L d 82 (27, lo, q.1.toList ++ sk, q.2) res := i_callS k_82_24 ⟨Nat.le_add_left 1 sk.length, Nat.le_trans (Nat.add_le_add_right hs 1) (Nat.le_of_eq (Nat.add_comm 8 1))⟩
theorem e_82_27 {x : Int32} : X xs L d 82 (27, lo, .inl x :: sk, h) res ↔ (if x = 0 then X xs L d 82 (36, lo, sk, h) res else X xs L d 82 (30, lo, sk, h) res) := i_if_eq k_82_27
theorem e_82_30 {x : Int32} {a0 a1 a2 a3 : Option AV} : X xs L d 82 (30, [a0, a1, a2, a3, some (.inl x)], sk, h) res ↔ X xs L d 82 (33, [a0, a1, a2, a3, some (.inl (x + 1))], sk, h) res := i_iinc k_82_30 rfl rfl
theorem e_82_33 : X xs L d 82 (33, lo, sk, h) res ↔ X xs L d 82 (17, lo, sk, h) res := i_goto k_82_33
theorem e_82_36 {x : Int32} {a0 a1 a2 a3 : Option AV} : X xs L d 82 (36, [a0, a1, a2, a3, some (.inl x)], sk, h) res ↔ X xs L d 82 (38, [a0, a1, a2, a3, some (.inl x)], .inl x :: sk, h) res := i_iload k_82_36 rfl
theorem e_82_38 {x : Int32} {a0 a2 a3 a4 : Option AV} : X xs L d 82 (38, [a0, some (.inl x), a2, a3, a4], sk, h) res ↔ X xs L d 82 (39, [a0, some (.inl x), a2, a3, a4], .inl x :: sk, h) res := i_iload_n k_82_38 rfl
theorem e_82_39 {x y : Int32} : X xs L d 82 (39, lo, .inl y :: .inl x :: sk, h) res ↔ X xs L d 82 (40, lo, .inl (x - y) :: sk, h) res := i_isub k_82_39
theorem e_82_40 : X xs L d 82 (40, lo, sk, h) res ↔ X xs L d 82 (41, lo, .inl 3 :: sk, h) res := i_iconst k_82_40
theorem e_82_41 {x y : Int32} : X xs L d 82 (41, lo, .inl y :: .inl x :: sk, h) res ↔ (if y < x then X xs L d 82 (49, lo, sk, h) res else X xs L d 82 (44, lo, sk, h) res) := i_icmp_gt k_82_41
theorem e_82_44 {x : Int32} {a0 a1 a2 a3 : Option AV} : X xs L d 82 (44, [a0, a1, a2, a3, some (.inl x)], sk, h) res ↔ X xs L d 82 (46, [a0, a1, a2, a3, some (.inl x)], .inl x :: sk, h) res := i_iload k_82_44 rfl
theorem e_82_46 : X xs L d 82 (46, lo, sk, h) res ↔ X xs L d 82 (50, lo, sk, h) res := i_goto k_82_46
theorem e_82_49 : X xs L d 82 (49, lo, sk, h) res ↔ X xs L d 82 (50, lo, .inl (-1) :: sk, h) res := i_iconst k_82_49
theorem e_82_50 {v : Int32} : X xs L d 82 (50, lo, [.inl v], h) res ↔ res = (some (.inl v), h) := i_iret k_82_50 rfl
theorem e_82_51 {x : Int32} {a0 a1 a2 a4 : Option AV} : X xs L d 82 (51, [a0, a1, a2, some (.inl x), a4], sk, h) res ↔ X xs L d 82 (52, [a0, a1, a2, some (.inl x), a4], .inl x :: sk, h) res := i_iload_n k_82_51 rfl
theorem e_82_52 {v0 : Int32} (hs : sk.length ≤ 8) : X xs L d 82 (52, lo, .inl v0 :: sk, h) res ↔ ∃ q : Res, Rn xs L d 77 [.inl v0] h q ∧ X xs L d 82 (55, lo, q.1.toList ++ sk, q.2) res := i_callS k_82_52 ⟨Nat.le_add_left 1 sk.length, Nat.le_trans (Nat.add_le_add_right hs 1) (Nat.le_of_eq (Nat.add_comm 8 1))⟩
theorem e_82_55 {x : Int32} : X xs L d 82 (55, lo, .inl x :: sk, h) res ↔ (if x = 0 then X xs L d 82 (62, lo, sk, h) res else X xs L d 82 (58, lo, sk, h) res) := i_if_eq k_82_55
theorem e_82_58 {x : Int32} {a0 a2 a3 a4 : Option AV} : X xs L d 82 (58, [a0, some (.inl x), a2, a3, a4], sk, h) res ↔ X xs L d 82 (59, [a0, some (.inl x), a2, a3, a4], .inl x :: sk, h) res := i_iload_n k_82_58 rfl
theorem e_82_59 : X xs L d 82 (59, lo, sk, h) res ↔ X xs L d 82 (60, lo, .inl 1 :: sk, h) res := i_iconst k_82_59
theorem e_82_60 {x y : Int32} : X xs L d 82 (60, lo, .inl y :: .inl x :: sk, h) res ↔ X xs L d 82 (61, lo, .inl (x + y) :: sk, h) res := i_iadd k_82_60
theorem e_82_61 {v : Int32} : X xs L d 82 (61, lo, [.inl v], h) res ↔ res = (some (.inl v), h) := i_iret k_82_61 rfl
theorem e_82_62 {x : Int32} {a0 a1 a3 a4 : Option AV} : X xs L d 82 (62, [a0, a1, some (.inl x), a3, a4], sk, h) res ↔ X xs L d 82 (63, [a0, a1, some (.inl x), a3, a4], .inl x :: sk, h) res := i_iload_n k_82_62 rfl
theorem e_82_63 : X xs L d 82 (63, lo, sk, h) res ↔ X xs L d 82 (64, lo, .inl 5 :: sk, h) res := i_iconst k_82_63
theorem e_82_64 {x y : Int32} : X xs L d 82 (64, lo, .inl y :: .inl x :: sk, h) res ↔ (if x = y then X xs L d 82 (67, lo, sk, h) res else X xs L d 82 (69, lo, sk, h) res) := i_icmp_ne k_82_64
theorem e_82_67 : X xs L d 82 (67, lo, sk, h) res ↔ X xs L d 82 (68, lo, .inl (-1) :: sk, h) res := i_iconst k_82_67
theorem e_82_68 {v : Int32} : X xs L d 82 (68, lo, [.inl v], h) res ↔ res = (some (.inl v), h) := i_iret k_82_68 rfl
theorem e_82_69 {x : Int32} {a0 a1 a2 a4 : Option AV} : X xs L d 82 (69, [a0, a1, a2, some (.inl x), a4], sk, h) res ↔ X xs L d 82 (70, [a0, a1, a2, some (.inl x), a4], .inl x :: sk, h) res := i_iload_n k_82_69 rfl
theorem e_82_70 : X xs L d 82 (70, lo, sk, h) res ↔ X xs L d 82 (72, lo, .inl 40 :: sk, h) res := i_bipush k_82_70
theorem e_82_72 {x y : Int32} : X xs L d 82 (72, lo, .inl y :: .inl x :: sk, h) res ↔ (if x = y then X xs L d 82 (75, lo, sk, h) res else X xs L d 82 (86, lo, sk, h) res) := i_icmp_ne k_82_72
theorem e_82_75 {x : Option Nat} {a1 a2 a3 a4 : Option AV} : X xs L d 82 (75, [some (.inr x), a1, a2, a3, a4], sk, h) res ↔ X xs L d 82 (76, [some (.inr x), a1, a2, a3, a4], .inr x :: sk, h) res := i_aload_n k_82_75 rfl
theorem e_82_76 {o : Nat} : X xs L d 82 (76, lo, .inr (some o) :: sk, h) res ↔ hK h o = 9 ∧ X xs L d 82 (79, lo, .inr (hR h o 14) :: sk, h) res := i_getR k_82_76
theorem e_82_79 {x : Int32} {a0 a1 a3 a4 : Option AV} : X xs L d 82 (79, [a0, a1, some (.inl x), a3, a4], sk, h) res ↔ X xs L d 82 (80, [a0, a1, some (.inl x), a3, a4], .inl x :: sk, h) res := i_iload_n k_82_79 rfl
theorem e_82_80 : X xs L d 82 (80, lo, sk, h) res ↔ X xs L d 82 (81, lo, .inl (-1) :: sk, h) res := i_iconst k_82_80
theorem e_82_81 {o : Nat} {i v : Int32} : X xs L d 82 (81, lo, .inl v :: .inl i :: .inr (some o) :: sk, h) res ↔ (hK h o = 20 ∧ vp_in i (hL h o)) ∧ X xs L d 82 (82, lo, sk, sI h o i.toNatClampNeg (v)) res := i_iastore k_82_81
theorem e_82_82 {x : Int32} {a0 a2 a3 a4 : Option AV} : X xs L d 82 (82, [a0, some (.inl x), a2, a3, a4], sk, h) res ↔ X xs L d 82 (83, [a0, some (.inl x), a2, a3, a4], .inl x :: sk, h) res := i_iload_n k_82_82 rfl
theorem e_82_83 : X xs L d 82 (83, lo, sk, h) res ↔ X xs L d 82 (84, lo, .inl 1 :: sk, h) res := i_iconst k_82_83
theorem e_82_84 {x y : Int32} : X xs L d 82 (84, lo, .inl y :: .inl x :: sk, h) res ↔ X xs L d 82 (85, lo, .inl (x + y) :: sk, h) res := i_iadd k_82_84
theorem e_82_85 {v : Int32} : X xs L d 82 (85, lo, [.inl v], h) res ↔ res = (some (.inl v), h) := i_iret k_82_85 rfl
theorem e_82_86 {x : Int32} {a0 a1 a2 a4 : Option AV} : X xs L d 82 (86, [a0, a1, a2, some (.inl x), a4], sk, h) res ↔ X xs L d 82 (87, [a0, a1, a2, some (.inl x), a4], .inl x :: sk, h) res := i_iload_n k_82_86 rfl
theorem e_82_87 {v0 : Int32} (hs : sk.length ≤ 8) : X xs L d 82 (87, lo, .inl v0 :: sk, h) res ↔ ∃ q : Res, Rn xs L d 78 [.inl v0] h q ∧ X xs L d 82 (90, lo, q.1.toList ++ sk, q.2) res := i_callS k_82_87 ⟨Nat.le_add_left 1 sk.length, Nat.le_trans (Nat.add_le_add_right hs 1) (Nat.le_of_eq (Nat.add_comm 8 1))⟩
theorem e_82_90 {x : Int32} : X xs L d 82 (90, lo, .inl x :: sk, h) res ↔ (if x = 0 then X xs L d 82 (118, lo, sk, h) res else X xs L d 82 (93, lo, sk, h) res) := i_if_eq k_82_90
theorem e_82_93 {x : Option Nat} {a1 a2 a3 a4 : Option AV} : X xs L d 82 (93, [some (.inr x), a1, a2, a3, a4], sk, h) res ↔ X xs L d 82 (94, [some (.inr x), a1, a2, a3, a4], .inr x :: sk, h) res := i_aload_n k_82_93 rfl
theorem e_82_94 {o : Nat} : X xs L d 82 (94, lo, .inr (some o) :: sk, h) res ↔ hK h o = 9 ∧ X xs L d 82 (97, lo, .inr (hR h o 10) :: sk, h) res := i_getR k_82_94
theorem e_82_97 {x : Int32} {a0 a1 a2 a4 : Option AV} : X xs L d 82 (97, [a0, a1, a2, some (.inl x), a4], sk, h) res ↔ X xs L d 82 (98, [a0, a1, a2, some (.inl x), a4], .inl x :: sk, h) res := i_iload_n k_82_97 rfl
theorem e_82_98 : X xs L d 82 (98, lo, sk, h) res ↔ X xs L d 82 (100, lo, .inl 65 :: sk, h) res := i_bipush k_82_98
theorem e_82_100 {x y : Int32} : X xs L d 82 (100, lo, .inl y :: .inl x :: sk, h) res ↔ X xs L d 82 (101, lo, .inl (x - y) :: sk, h) res := i_isub k_82_100
theorem e_82_101 {o : Nat} {i : Int32} : X xs L d 82 (101, lo, .inl i :: .inr (some o) :: sk, h) res ↔ (hK h o = 20 ∧ vp_in i (hL h o)) ∧ X xs L d 82 (102, lo, .inl (hI h o i.toNatClampNeg) :: sk, h) res := i_iaload k_82_101
theorem e_82_102 {x : Int32} : X xs L d 82 (102, lo, .inl x :: sk, h) res ↔ (if x = 0 then X xs L d 82 (118, lo, sk, h) res else X xs L d 82 (105, lo, sk, h) res) := i_if_eq k_82_102
theorem e_82_105 {x : Option Nat} {a1 a2 a3 a4 : Option AV} : X xs L d 82 (105, [some (.inr x), a1, a2, a3, a4], sk, h) res ↔ X xs L d 82 (106, [some (.inr x), a1, a2, a3, a4], .inr x :: sk, h) res := i_aload_n k_82_105 rfl
theorem e_82_106 {o : Nat} : X xs L d 82 (106, lo, .inr (some o) :: sk, h) res ↔ hK h o = 9 ∧ X xs L d 82 (109, lo, .inr (hR h o 2) :: sk, h) res := i_getR k_82_106
theorem e_82_109 {x : Int32} {a0 a2 a3 a4 : Option AV} : X xs L d 82 (109, [a0, some (.inl x), a2, a3, a4], sk, h) res ↔ X xs L d 82 (110, [a0, some (.inl x), a2, a3, a4], .inl x :: sk, h) res := i_iload_n k_82_109 rfl
theorem e_82_110 : X xs L d 82 (110, lo, sk, h) res ↔ X xs L d 82 (111, lo, .inl 1 :: sk, h) res := i_iconst k_82_110
theorem e_82_111 {x y : Int32} : X xs L d 82 (111, lo, .inl y :: .inl x :: sk, h) res ↔ X xs L d 82 (112, lo, .inl (x + y) :: sk, h) res := i_iadd k_82_111
theorem e_82_112 {o : Nat} {i : Int32} : X xs L d 82 (112, lo, .inl i :: .inr (some o) :: sk, h) res ↔ (hK h o = 21 ∧ vp_in i (hL h o)) ∧ X xs L d 82 (113, lo, .inl (hI h o i.toNatClampNeg) :: sk, h) res := i_caload k_82_112
theorem e_82_113 : X xs L d 82 (113, lo, sk, h) res ↔ X xs L d 82 (115, lo, .inl 40 :: sk, h) res := i_bipush k_82_113
theorem e_82_115 {x y : Int32} : X xs L d 82 (115, lo, .inl y :: .inl x :: sk, h) res ↔ (if x = y then X xs L d 82 (120, lo, sk, h) res else X xs L d 82 (118, lo, sk, h) res) := i_icmp_eq k_82_115
theorem e_82_118 : X xs L d 82 (118, lo, sk, h) res ↔ X xs L d 82 (119, lo, .inl (-1) :: sk, h) res := i_iconst k_82_118
theorem e_82_119 {v : Int32} : X xs L d 82 (119, lo, [.inl v], h) res ↔ res = (some (.inl v), h) := i_iret k_82_119 rfl
theorem e_82_120 {x : Option Nat} {a1 a2 a3 a4 : Option AV} : X xs L d 82 (120, [some (.inr x), a1, a2, a3, a4], sk, h) res ↔ X xs L d 82 (121, [some (.inr x), a1, a2, a3, a4], .inr x :: sk, h) res := i_aload_n k_82_120 rfl
theorem e_82_121 {o : Nat} : X xs L d 82 (121, lo, .inr (some o) :: sk, h) res ↔ hK h o = 9 ∧ X xs L d 82 (124, lo, .inr (hR h o 14) :: sk, h) res := i_getR k_82_121
theorem e_82_124 {x : Int32} {a0 a1 a3 a4 : Option AV} : X xs L d 82 (124, [a0, a1, some (.inl x), a3, a4], sk, h) res ↔ X xs L d 82 (125, [a0, a1, some (.inl x), a3, a4], .inl x :: sk, h) res := i_iload_n k_82_124 rfl
theorem e_82_125 {x : Int32} {a0 a1 a2 a4 : Option AV} : X xs L d 82 (125, [a0, a1, a2, some (.inl x), a4], sk, h) res ↔ X xs L d 82 (126, [a0, a1, a2, some (.inl x), a4], .inl x :: sk, h) res := i_iload_n k_82_125 rfl
theorem e_82_126 : X xs L d 82 (126, lo, sk, h) res ↔ X xs L d 82 (128, lo, .inl 65 :: sk, h) res := i_bipush k_82_126
theorem e_82_128 {x y : Int32} : X xs L d 82 (128, lo, .inl y :: .inl x :: sk, h) res ↔ X xs L d 82 (129, lo, .inl (x - y) :: sk, h) res := i_isub k_82_128
theorem e_82_129 {o : Nat} {i v : Int32} : X xs L d 82 (129, lo, .inl v :: .inl i :: .inr (some o) :: sk, h) res ↔ (hK h o = 20 ∧ vp_in i (hL h o)) ∧ X xs L d 82 (130, lo, sk, sI h o i.toNatClampNeg (v)) res := i_iastore k_82_129
theorem e_82_130 {x : Option Nat} {a1 a2 a3 a4 : Option AV} : X xs L d 82 (130, [some (.inr x), a1, a2, a3, a4], sk, h) res ↔ X xs L d 82 (131, [some (.inr x), a1, a2, a3, a4], .inr x :: sk, h) res := i_aload_n k_82_130 rfl
theorem e_82_131 {o : Nat} : X xs L d 82 (131, lo, .inr (some o) :: sk, h) res ↔ hK h o = 9 ∧ X xs L d 82 (134, lo, .inr (hR h o 15) :: sk, h) res := i_getR k_82_131
theorem e_82_134 {x : Int32} {a0 a1 a3 a4 : Option AV} : X xs L d 82 (134, [a0, a1, some (.inl x), a3, a4], sk, h) res ↔ X xs L d 82 (135, [a0, a1, some (.inl x), a3, a4], .inl x :: sk, h) res := i_iload_n k_82_134 rfl
theorem e_82_135 : X xs L d 82 (135, lo, sk, h) res ↔ X xs L d 82 (136, lo, .inl 0 :: sk, h) res := i_iconst k_82_135
theorem e_82_136 {o : Nat} {i v : Int32} : X xs L d 82 (136, lo, .inl v :: .inl i :: .inr (some o) :: sk, h) res ↔ (hK h o = 20 ∧ vp_in i (hL h o)) ∧ X xs L d 82 (137, lo, sk, sI h o i.toNatClampNeg (v)) res := i_iastore k_82_136
theorem e_82_137 {x : Int32} {a0 a2 a3 a4 : Option AV} : X xs L d 82 (137, [a0, some (.inl x), a2, a3, a4], sk, h) res ↔ X xs L d 82 (138, [a0, some (.inl x), a2, a3, a4], .inl x :: sk, h) res := i_iload_n k_82_137 rfl
theorem e_82_138 : X xs L d 82 (138, lo, sk, h) res ↔ X xs L d 82 (139, lo, .inl 2 :: sk, h) res := i_iconst k_82_138
theorem e_82_139 {x y : Int32} : X xs L d 82 (139, lo, .inl y :: .inl x :: sk, h) res ↔ X xs L d 82 (140, lo, .inl (x + y) :: sk, h) res := i_iadd k_82_139
theorem e_82_140 {v : Int32} : X xs L d 82 (140, lo, [.inl v], h) res ↔ res = (some (.inl v), h) := i_iret k_82_140 rfl
theorem k_83_0 : am_cd 83 0 = some (.iload_n 1, 1, [], [])   := rfl
theorem k_83_1 : am_cd 83 1 = some (.istore_n 2, 1, [], [])   := rfl
theorem k_83_2 : am_cd 83 2 = some (.iconst 0, 1, [], [(0, 0)])   := rfl
theorem k_83_3 : am_cd 83 3 = some (.istore_n 3, 1, [], [])   := rfl
theorem k_83_4 : am_cd 83 4 = some (.iconst 1, 1, [], [(1, 0)])   := rfl
theorem k_83_5 : am_cd 83 5 = some (.istore 4, 2, [], [])   := rfl
theorem k_83_7 : am_cd 83 7 = some (.aload_n 0, 1, [], [])   := rfl
theorem k_83_8 : am_cd 83 8 = some (.getfield 13, 3, [9, 2, 2], [(0, 706)])   := rfl
theorem k_83_11 : am_cd 83 11 = some (.iload_n 2, 1, [], [])   := rfl
theorem k_83_12 : am_cd 83 12 = some (.caload, 1, [], [])   := rfl
theorem k_83_13 : am_cd 83 13 = some (.istore 5, 2, [], [])   := rfl
theorem k_83_15 : am_cd 83 15 = some (.iload_n 3, 1, [], [])   := rfl
theorem k_83_16 : am_cd 83 16 = some (.ifCond .le 18, 3, [34], [])   := rfl
theorem k_83_19 : am_cd 83 19 = some (.aload_n 0, 1, [], [])   := rfl
theorem k_83_20 : am_cd 83 20 = some (.getfield 41, 3, [9, 14, 2], [(0, 718)])   := rfl
theorem k_83_23 : am_cd 83 23 = some (.iload_n 3, 1, [], [])   := rfl
theorem k_83_24 : am_cd 83 24 = some (.iconst 1, 1, [], [(1, 0)])   := rfl
theorem k_83_25 : am_cd 83 25 = some (.isub, 1, [], [])   := rfl
theorem k_83_26 : am_cd 83 26 = some (.iaload, 1, [], [])   := rfl
theorem k_83_27 : am_cd 83 27 = some (.ifCond .lt 7, 3, [34], [])   := rfl
theorem k_83_30 : am_cd 83 30 = some (.iconst 1, 1, [], [(1, 0)])   := rfl
theorem k_83_31 : am_cd 83 31 = some (.goto 4, 3, [35], [])   := rfl
theorem k_83_34 : am_cd 83 34 = some (.iconst 0, 1, [], [(0, 0)])   := rfl
theorem k_83_35 : am_cd 83 35 = some (.istore 6, 2, [], [])   := rfl
theorem k_83_37 : am_cd 83 37 = some (.iload 6, 2, [], [])   := rfl
theorem k_83_39 : am_cd 83 39 = some (.ifCond .eq 19, 3, [58], [])   := rfl
theorem k_83_42 : am_cd 83 42 = some (.aload_n 0, 1, [], [])   := rfl
theorem k_83_43 : am_cd 83 43 = some (.getfield 32, 3, [9, 11, 2], [(0, 715)])   := rfl
theorem k_83_46 : am_cd 83 46 = some (.aload_n 0, 1, [], [])   := rfl
theorem k_83_47 : am_cd 83 47 = some (.getfield 41, 3, [9, 14, 2], [(0, 718)])   := rfl
theorem k_83_50 : am_cd 83 50 = some (.iload_n 3, 1, [], [])   := rfl
theorem k_83_51 : am_cd 83 51 = some (.iconst 1, 1, [], [(1, 0)])   := rfl
theorem k_83_52 : am_cd 83 52 = some (.isub, 1, [], [])   := rfl
theorem k_83_53 : am_cd 83 53 = some (.iaload, 1, [], [])   := rfl
theorem k_83_54 : am_cd 83 54 = some (.iaload, 1, [], [])   := rfl
theorem k_83_55 : am_cd 83 55 = some (.goto 4, 3, [59], [])   := rfl
theorem k_83_58 : am_cd 83 58 = some (.iconst 0, 1, [], [(0, 0)])   := rfl
theorem k_83_59 : am_cd 83 59 = some (.istore 7, 2, [], [])   := rfl
theorem k_83_61 : am_cd 83 61 = some (.iload 4, 2, [], [])   := rfl
theorem k_83_63 : am_cd 83 63 = some (.ifCond .eq 131, 3, [194], [])   := rfl
theorem k_83_66 : am_cd 83 66 = some (.iload 5, 2, [], [])   := rfl
theorem k_83_68 : am_cd 83 68 = some (.bipush 41, 2, [], [(41, 0)])   := rfl
theorem k_83_70 : am_cd 83 70 = some (.if_icmp .ne 30, 3, [100], [])   := rfl
theorem k_83_73 : am_cd 83 73 = some (.iload 6, 2, [], [])   := rfl
theorem k_83_75 : am_cd 83 75 = some (.ifCond .eq 25, 3, [100], [])   := rfl
theorem k_83_78 : am_cd 83 78 = some (.iload 7, 2, [], [])   := rfl
theorem k_83_80 : am_cd 83 80 = some (.ifCond .ne 20, 3, [100], [])   := rfl
theorem k_83_83 : am_cd 83 83 = some (.aload_n 0, 1, [], [])   := rfl
theorem k_83_84 : am_cd 83 84 = some (.getfield 13, 3, [9, 2, 2], [(0, 706)])   := rfl
theorem k_83_87 : am_cd 83 87 = some (.iload_n 2, 1, [], [])   := rfl
theorem k_83_88 : am_cd 83 88 = some (.iconst 1, 1, [], [(1, 0)])   := rfl
theorem k_83_89 : am_cd 83 89 = some (.isub, 1, [], [])   := rfl
theorem k_83_90 : am_cd 83 90 = some (.caload, 1, [], [])   := rfl
theorem k_83_91 : am_cd 83 91 = some (.bipush 40, 2, [], [(40, 0)])   := rfl
theorem k_83_93 : am_cd 83 93 = some (.if_icmp .ne 7, 3, [100], [])   := rfl
theorem k_83_96 : am_cd 83 96 = some (.iconst 1, 1, [], [(1, 0)])   := rfl
theorem k_83_97 : am_cd 83 97 = some (.goto 4, 3, [101], [])   := rfl
theorem k_83_100 : am_cd 83 100 = some (.iconst 0, 1, [], [(0, 0)])   := rfl
theorem k_83_101 : am_cd 83 101 = some (.istore 8, 2, [], [])   := rfl
theorem k_83_103 : am_cd 83 103 = some (.iload 8, 2, [], [])   := rfl
theorem k_83_105 : am_cd 83 105 = some (.ifCond .eq 15, 3, [120], [])   := rfl
theorem k_83_108 : am_cd 83 108 = some (.iinc 3 (-1), 3, [], [(-1, 0)])   := rfl
theorem k_83_111 : am_cd 83 111 = some (.iinc 2 1, 3, [], [(1, 0)])   := rfl
theorem k_83_114 : am_cd 83 114 = some (.iconst 0, 1, [], [(0, 0)])   := rfl
theorem k_83_115 : am_cd 83 115 = some (.istore 4, 2, [], [])   := rfl
theorem k_83_117 : am_cd 83 117 = some (.goto 74, 3, [191], [])   := rfl
theorem k_83_120 : am_cd 83 120 = some (.iload 6, 2, [], [])   := rfl
theorem k_83_122 : am_cd 83 122 = some (.ifCond .eq 12, 3, [134], [])   := rfl
theorem k_83_125 : am_cd 83 125 = some (.iload 7, 2, [], [])   := rfl
theorem k_83_127 : am_cd 83 127 = some (.ifCond .ne 7, 3, [134], [])   := rfl
theorem k_83_130 : am_cd 83 130 = some (.iconst (-1), 1, [], [(-1, 0)])   := rfl
theorem k_83_131 : am_cd 83 131 = some (.goto 9, 3, [140], [])   := rfl
theorem k_83_134 : am_cd 83 134 = some (.aload_n 0, 1, [], [])   := rfl
theorem k_83_135 : am_cd 83 135 = some (.iload_n 2, 1, [], [])   := rfl
theorem k_83_136 : am_cd 83 136 = some (.iload_n 3, 1, [], [])   := rfl
theorem k_83_137 : am_cd 83 137 = some (.invokevirtual 116, 3, [82, 3, 9], [(0, 876), (0, 878), (0, 35)])   := rfl
theorem k_83_140 : am_cd 83 140 = some (.istore 9, 2, [], [])   := rfl
theorem k_83_142 : am_cd 83 142 = some (.iload 9, 2, [], [])   := rfl
theorem k_83_144 : am_cd 83 144 = some (.ifCond .ge 5, 3, [149], [])   := rfl
theorem k_83_147 : am_cd 83 147 = some (.iconst (-1), 1, [], [(-1, 0)])   := rfl
theorem k_83_148 : am_cd 83 148 = some (.ireturn, 1, [], [])   := rfl
theorem k_83_149 : am_cd 83 149 = some (.iload 5, 2, [], [])   := rfl
theorem k_83_151 : am_cd 83 151 = some (.bipush 40, 2, [], [(40, 0)])   := rfl
theorem k_83_153 : am_cd 83 153 = some (.if_icmp .eq 11, 3, [164], [])   := rfl
theorem k_83_156 : am_cd 83 156 = some (.iload 5, 2, [], [])   := rfl
theorem k_83_158 : am_cd 83 158 = some (.invokestatic 113, 3, [78, 1], [(0, 858), (0, 859)])   := rfl
theorem k_83_161 : am_cd 83 161 = some (.ifCond .eq 7, 3, [168], [])   := rfl
theorem k_83_164 : am_cd 83 164 = some (.iconst 1, 1, [], [(1, 0)])   := rfl
theorem k_83_165 : am_cd 83 165 = some (.goto 4, 3, [169], [])   := rfl
theorem k_83_168 : am_cd 83 168 = some (.iconst 0, 1, [], [(0, 0)])   := rfl
theorem k_83_169 : am_cd 83 169 = some (.istore 10, 2, [], [])   := rfl
theorem k_83_171 : am_cd 83 171 = some (.iload 10, 2, [], [])   := rfl
theorem k_83_173 : am_cd 83 173 = some (.ifCond .eq 9, 3, [182], [])   := rfl
theorem k_83_176 : am_cd 83 176 = some (.iload_n 3, 1, [], [])   := rfl
theorem k_83_177 : am_cd 83 177 = some (.iconst 1, 1, [], [(1, 0)])   := rfl
theorem k_83_178 : am_cd 83 178 = some (.iadd, 1, [], [])   := rfl
theorem k_83_179 : am_cd 83 179 = some (.goto 4, 3, [183], [])   := rfl
theorem k_83_182 : am_cd 83 182 = some (.iload_n 3, 1, [], [])   := rfl
theorem k_83_183 : am_cd 83 183 = some (.istore_n 3, 1, [], [])   := rfl
theorem k_83_184 : am_cd 83 184 = some (.iload 10, 2, [], [])   := rfl
theorem k_83_186 : am_cd 83 186 = some (.istore 4, 2, [], [])   := rfl
theorem k_83_188 : am_cd 83 188 = some (.iload 9, 2, [], [])   := rfl
theorem k_83_190 : am_cd 83 190 = some (.istore_n 2, 1, [], [])   := rfl
theorem k_83_191 : am_cd 83 191 = some (.goto 112, 3, [303], [])   := rfl
theorem k_83_194 : am_cd 83 194 = some (.iload 5, 2, [], [])   := rfl
theorem k_83_196 : am_cd 83 196 = some (.invokestatic 120, 3, [80, 1], [(0, 883), (0, 884)])   := rfl
theorem k_83_199 : am_cd 83 199 = some (.ifCond .eq 12, 3, [211], [])   := rfl
theorem k_83_202 : am_cd 83 202 = some (.iconst 1, 1, [], [(1, 0)])   := rfl
theorem k_83_203 : am_cd 83 203 = some (.istore 4, 2, [], [])   := rfl
theorem k_83_205 : am_cd 83 205 = some (.iinc 2 1, 3, [], [(1, 0)])   := rfl
theorem k_83_208 : am_cd 83 208 = some (.goto 95, 3, [303], [])   := rfl
theorem k_83_211 : am_cd 83 211 = some (.iload_n 3, 1, [], [])   := rfl
theorem k_83_212 : am_cd 83 212 = some (.ifCond .ne 5, 3, [217], [])   := rfl
theorem k_83_215 : am_cd 83 215 = some (.iload_n 2, 1, [], [])   := rfl
theorem k_83_216 : am_cd 83 216 = some (.ireturn, 1, [], [])   := rfl
theorem k_83_217 : am_cd 83 217 = some (.iload 5, 2, [], [])   := rfl
theorem k_83_219 : am_cd 83 219 = some (.bipush 44, 2, [], [(44, 0)])   := rfl
theorem k_83_221 : am_cd 83 221 = some (.if_icmp .ne 44, 3, [265], [])   := rfl
theorem k_83_224 : am_cd 83 224 = some (.iload 6, 2, [], [])   := rfl
theorem k_83_226 : am_cd 83 226 = some (.ifCond .eq 39, 3, [265], [])   := rfl
theorem k_83_229 : am_cd 83 229 = some (.aload_n 0, 1, [], [])   := rfl
theorem k_83_230 : am_cd 83 230 = some (.getfield 44, 3, [9, 15, 2], [(0, 719)])   := rfl
theorem k_83_233 : am_cd 83 233 = some (.iload_n 3, 1, [], [])   := rfl
theorem k_83_234 : am_cd 83 234 = some (.iconst 1, 1, [], [(1, 0)])   := rfl
theorem k_83_235 : am_cd 83 235 = some (.isub, 1, [], [])   := rfl
theorem k_83_236 : am_cd 83 236 = some (.iaload, 1, [], [])   := rfl
theorem k_83_237 : am_cd 83 237 = some (.iconst 1, 1, [], [(1, 0)])   := rfl
theorem k_83_238 : am_cd 83 238 = some (.iadd, 1, [], [])   := rfl
theorem k_83_239 : am_cd 83 239 = some (.iload 7, 2, [], [])   := rfl
theorem k_83_241 : am_cd 83 241 = some (.if_icmp .ge 24, 3, [265], [])   := rfl
theorem k_83_244 : am_cd 83 244 = some (.aload_n 0, 1, [], [])   := rfl
theorem k_83_245 : am_cd 83 245 = some (.getfield 44, 3, [9, 15, 2], [(0, 719)])   := rfl
theorem k_83_248 : am_cd 83 248 = some (.iload_n 3, 1, [], [])   := rfl
theorem k_83_249 : am_cd 83 249 = some (.iconst 1, 1, [], [(1, 0)])   := rfl
theorem k_83_250 : am_cd 83 250 = some (.isub, 1, [], [])   := rfl
theorem k_83_251 : am_cd 83 251 = some (.dup2, 1, [], [])   := rfl
theorem k_83_252 : am_cd 83 252 = some (.iaload, 1, [], [])   := rfl
theorem k_83_253 : am_cd 83 253 = some (.iconst 1, 1, [], [(1, 0)])   := rfl
theorem k_83_254 : am_cd 83 254 = some (.iadd, 1, [], [])   := rfl
theorem k_83_255 : am_cd 83 255 = some (.iastore, 1, [], [])   := rfl
theorem k_83_256 : am_cd 83 256 = some (.iconst 1, 1, [], [(1, 0)])   := rfl
theorem k_83_257 : am_cd 83 257 = some (.istore 4, 2, [], [])   := rfl
theorem k_83_259 : am_cd 83 259 = some (.iinc 2 1, 3, [], [(1, 0)])   := rfl
theorem k_83_262 : am_cd 83 262 = some (.goto 41, 3, [303], [])   := rfl
theorem k_83_265 : am_cd 83 265 = some (.iload 5, 2, [], [])   := rfl
theorem k_83_267 : am_cd 83 267 = some (.bipush 41, 2, [], [(41, 0)])   := rfl
theorem k_83_269 : am_cd 83 269 = some (.if_icmp .ne 32, 3, [301], [])   := rfl
theorem k_83_272 : am_cd 83 272 = some (.iload 6, 2, [], [])   := rfl
theorem k_83_274 : am_cd 83 274 = some (.ifCond .eq 18, 3, [292], [])   := rfl
theorem k_83_277 : am_cd 83 277 = some (.aload_n 0, 1, [], [])   := rfl
theorem k_83_278 : am_cd 83 278 = some (.getfield 44, 3, [9, 15, 2], [(0, 719)])   := rfl
theorem k_83_281 : am_cd 83 281 = some (.iload_n 3, 1, [], [])   := rfl
theorem k_83_282 : am_cd 83 282 = some (.iconst 1, 1, [], [(1, 0)])   := rfl
theorem k_83_283 : am_cd 83 283 = some (.isub, 1, [], [])   := rfl
theorem k_83_284 : am_cd 83 284 = some (.iaload, 1, [], [])   := rfl
theorem k_83_285 : am_cd 83 285 = some (.iconst 1, 1, [], [(1, 0)])   := rfl
theorem k_83_286 : am_cd 83 286 = some (.iadd, 1, [], [])   := rfl
theorem k_83_287 : am_cd 83 287 = some (.iload 7, 2, [], [])   := rfl
theorem k_83_289 : am_cd 83 289 = some (.if_icmp .ne 12, 3, [301], [])   := rfl
theorem k_83_292 : am_cd 83 292 = some (.iinc 3 (-1), 3, [], [(-1, 0)])   := rfl
theorem k_83_295 : am_cd 83 295 = some (.iinc 2 1, 3, [], [(1, 0)])   := rfl
theorem k_83_298 : am_cd 83 298 = some (.goto 5, 3, [303], [])   := rfl
theorem k_83_301 : am_cd 83 301 = some (.iconst (-1), 1, [], [(-1, 0)])   := rfl
theorem k_83_302 : am_cd 83 302 = some (.ireturn, 1, [], [])   := rfl
theorem k_83_303 : am_cd 83 303 = some (.goto (-296), 3, [7], [])   := rfl
theorem e_83_0 {x : Int32} {a0 a2 a3 a4 a5 a6 a7 a8 a9 a10 : Option AV} : X xs L d 83 (0, [a0, some (.inl x), a2, a3, a4, a5, a6, a7, a8, a9, a10], sk, h) res ↔ X xs L d 83 (1, [a0, some (.inl x), a2, a3, a4, a5, a6, a7, a8, a9, a10], .inl x :: sk, h) res := i_iload_n k_83_0 rfl
theorem e_83_1 {x : Int32} {a0 a1 a2 a3 a4 a5 a6 a7 a8 a9 a10 : Option AV} : X xs L d 83 (1, [a0, a1, a2, a3, a4, a5, a6, a7, a8, a9, a10], .inl x :: sk, h) res ↔ X xs L d 83 (2, [a0, a1, some (.inl x), a3, a4, a5, a6, a7, a8, a9, a10], sk, h) res := i_istore_n k_83_1 (Nat.le_of_ble_eq_true rfl) rfl
theorem e_83_2 : X xs L d 83 (2, lo, sk, h) res ↔ X xs L d 83 (3, lo, .inl 0 :: sk, h) res := i_iconst k_83_2
theorem e_83_3 {x : Int32} {a0 a1 a2 a3 a4 a5 a6 a7 a8 a9 a10 : Option AV} : X xs L d 83 (3, [a0, a1, a2, a3, a4, a5, a6, a7, a8, a9, a10], .inl x :: sk, h) res ↔ X xs L d 83 (4, [a0, a1, a2, some (.inl x), a4, a5, a6, a7, a8, a9, a10], sk, h) res := i_istore_n k_83_3 (Nat.le_of_ble_eq_true rfl) rfl
theorem e_83_4 : X xs L d 83 (4, lo, sk, h) res ↔ X xs L d 83 (5, lo, .inl 1 :: sk, h) res := i_iconst k_83_4
theorem e_83_5 {x : Int32} {a0 a1 a2 a3 a4 a5 a6 a7 a8 a9 a10 : Option AV} : X xs L d 83 (5, [a0, a1, a2, a3, a4, a5, a6, a7, a8, a9, a10], .inl x :: sk, h) res ↔ X xs L d 83 (7, [a0, a1, a2, a3, some (.inl x), a5, a6, a7, a8, a9, a10], sk, h) res := i_istore k_83_5 (Nat.le_of_ble_eq_true rfl) rfl
theorem e_83_7 {x : Option Nat} {a1 a2 a3 a4 a5 a6 a7 a8 a9 a10 : Option AV} : X xs L d 83 (7, [some (.inr x), a1, a2, a3, a4, a5, a6, a7, a8, a9, a10], sk, h) res ↔ X xs L d 83 (8, [some (.inr x), a1, a2, a3, a4, a5, a6, a7, a8, a9, a10], .inr x :: sk, h) res := i_aload_n k_83_7 rfl
theorem e_83_8 {o : Nat} : X xs L d 83 (8, lo, .inr (some o) :: sk, h) res ↔ hK h o = 9 ∧ X xs L d 83 (11, lo, .inr (hR h o 2) :: sk, h) res := i_getR k_83_8
theorem e_83_11 {x : Int32} {a0 a1 a3 a4 a5 a6 a7 a8 a9 a10 : Option AV} : X xs L d 83 (11, [a0, a1, some (.inl x), a3, a4, a5, a6, a7, a8, a9, a10], sk, h) res ↔ X xs L d 83 (12, [a0, a1, some (.inl x), a3, a4, a5, a6, a7, a8, a9, a10], .inl x :: sk, h) res := i_iload_n k_83_11 rfl
theorem e_83_12 {o : Nat} {i : Int32} : X xs L d 83 (12, lo, .inl i :: .inr (some o) :: sk, h) res ↔ (hK h o = 21 ∧ vp_in i (hL h o)) ∧ X xs L d 83 (13, lo, .inl (hI h o i.toNatClampNeg) :: sk, h) res := i_caload k_83_12
theorem e_83_13 {x : Int32} {a0 a1 a2 a3 a4 a5 a6 a7 a8 a9 a10 : Option AV} : X xs L d 83 (13, [a0, a1, a2, a3, a4, a5, a6, a7, a8, a9, a10], .inl x :: sk, h) res ↔ X xs L d 83 (15, [a0, a1, a2, a3, a4, some (.inl x), a6, a7, a8, a9, a10], sk, h) res := i_istore k_83_13 (Nat.le_of_ble_eq_true rfl) rfl
theorem e_83_15 {x : Int32} {a0 a1 a2 a4 a5 a6 a7 a8 a9 a10 : Option AV} : X xs L d 83 (15, [a0, a1, a2, some (.inl x), a4, a5, a6, a7, a8, a9, a10], sk, h) res ↔ X xs L d 83 (16, [a0, a1, a2, some (.inl x), a4, a5, a6, a7, a8, a9, a10], .inl x :: sk, h) res := i_iload_n k_83_15 rfl
theorem e_83_16 {x : Int32} : X xs L d 83 (16, lo, .inl x :: sk, h) res ↔ (if x ≤ 0 then X xs L d 83 (34, lo, sk, h) res else X xs L d 83 (19, lo, sk, h) res) := i_if_le k_83_16
theorem e_83_19 {x : Option Nat} {a1 a2 a3 a4 a5 a6 a7 a8 a9 a10 : Option AV} : X xs L d 83 (19, [some (.inr x), a1, a2, a3, a4, a5, a6, a7, a8, a9, a10], sk, h) res ↔ X xs L d 83 (20, [some (.inr x), a1, a2, a3, a4, a5, a6, a7, a8, a9, a10], .inr x :: sk, h) res := i_aload_n k_83_19 rfl
theorem e_83_20 {o : Nat} : X xs L d 83 (20, lo, .inr (some o) :: sk, h) res ↔ hK h o = 9 ∧ X xs L d 83 (23, lo, .inr (hR h o 14) :: sk, h) res := i_getR k_83_20
theorem e_83_23 {x : Int32} {a0 a1 a2 a4 a5 a6 a7 a8 a9 a10 : Option AV} : X xs L d 83 (23, [a0, a1, a2, some (.inl x), a4, a5, a6, a7, a8, a9, a10], sk, h) res ↔ X xs L d 83 (24, [a0, a1, a2, some (.inl x), a4, a5, a6, a7, a8, a9, a10], .inl x :: sk, h) res := i_iload_n k_83_23 rfl
theorem e_83_24 : X xs L d 83 (24, lo, sk, h) res ↔ X xs L d 83 (25, lo, .inl 1 :: sk, h) res := i_iconst k_83_24
theorem e_83_25 {x y : Int32} : X xs L d 83 (25, lo, .inl y :: .inl x :: sk, h) res ↔ X xs L d 83 (26, lo, .inl (x - y) :: sk, h) res := i_isub k_83_25
theorem e_83_26 {o : Nat} {i : Int32} : X xs L d 83 (26, lo, .inl i :: .inr (some o) :: sk, h) res ↔ (hK h o = 20 ∧ vp_in i (hL h o)) ∧ X xs L d 83 (27, lo, .inl (hI h o i.toNatClampNeg) :: sk, h) res := i_iaload k_83_26
theorem e_83_27 {x : Int32} : X xs L d 83 (27, lo, .inl x :: sk, h) res ↔ (if x < 0 then X xs L d 83 (34, lo, sk, h) res else X xs L d 83 (30, lo, sk, h) res) := i_if_lt k_83_27
theorem e_83_30 : X xs L d 83 (30, lo, sk, h) res ↔ X xs L d 83 (31, lo, .inl 1 :: sk, h) res := i_iconst k_83_30
theorem e_83_31 : X xs L d 83 (31, lo, sk, h) res ↔ X xs L d 83 (35, lo, sk, h) res := i_goto k_83_31
theorem e_83_34 : X xs L d 83 (34, lo, sk, h) res ↔ X xs L d 83 (35, lo, .inl 0 :: sk, h) res := i_iconst k_83_34
theorem e_83_35 {x : Int32} {a0 a1 a2 a3 a4 a5 a6 a7 a8 a9 a10 : Option AV} : X xs L d 83 (35, [a0, a1, a2, a3, a4, a5, a6, a7, a8, a9, a10], .inl x :: sk, h) res ↔ X xs L d 83 (37, [a0, a1, a2, a3, a4, a5, some (.inl x), a7, a8, a9, a10], sk, h) res := i_istore k_83_35 (Nat.le_of_ble_eq_true rfl) rfl
theorem e_83_37 {x : Int32} {a0 a1 a2 a3 a4 a5 a7 a8 a9 a10 : Option AV} : X xs L d 83 (37, [a0, a1, a2, a3, a4, a5, some (.inl x), a7, a8, a9, a10], sk, h) res ↔ X xs L d 83 (39, [a0, a1, a2, a3, a4, a5, some (.inl x), a7, a8, a9, a10], .inl x :: sk, h) res := i_iload k_83_37 rfl
theorem e_83_39 {x : Int32} : X xs L d 83 (39, lo, .inl x :: sk, h) res ↔ (if x = 0 then X xs L d 83 (58, lo, sk, h) res else X xs L d 83 (42, lo, sk, h) res) := i_if_eq k_83_39
theorem e_83_42 {x : Option Nat} {a1 a2 a3 a4 a5 a6 a7 a8 a9 a10 : Option AV} : X xs L d 83 (42, [some (.inr x), a1, a2, a3, a4, a5, a6, a7, a8, a9, a10], sk, h) res ↔ X xs L d 83 (43, [some (.inr x), a1, a2, a3, a4, a5, a6, a7, a8, a9, a10], .inr x :: sk, h) res := i_aload_n k_83_42 rfl
theorem e_83_43 {o : Nat} : X xs L d 83 (43, lo, .inr (some o) :: sk, h) res ↔ hK h o = 9 ∧ X xs L d 83 (46, lo, .inr (hR h o 11) :: sk, h) res := i_getR k_83_43
theorem e_83_46 {x : Option Nat} {a1 a2 a3 a4 a5 a6 a7 a8 a9 a10 : Option AV} : X xs L d 83 (46, [some (.inr x), a1, a2, a3, a4, a5, a6, a7, a8, a9, a10], sk, h) res ↔ X xs L d 83 (47, [some (.inr x), a1, a2, a3, a4, a5, a6, a7, a8, a9, a10], .inr x :: sk, h) res := i_aload_n k_83_46 rfl
theorem e_83_47 {o : Nat} : X xs L d 83 (47, lo, .inr (some o) :: sk, h) res ↔ hK h o = 9 ∧ X xs L d 83 (50, lo, .inr (hR h o 14) :: sk, h) res := i_getR k_83_47
theorem e_83_50 {x : Int32} {a0 a1 a2 a4 a5 a6 a7 a8 a9 a10 : Option AV} : X xs L d 83 (50, [a0, a1, a2, some (.inl x), a4, a5, a6, a7, a8, a9, a10], sk, h) res ↔ X xs L d 83 (51, [a0, a1, a2, some (.inl x), a4, a5, a6, a7, a8, a9, a10], .inl x :: sk, h) res := i_iload_n k_83_50 rfl
theorem e_83_51 : X xs L d 83 (51, lo, sk, h) res ↔ X xs L d 83 (52, lo, .inl 1 :: sk, h) res := i_iconst k_83_51
theorem e_83_52 {x y : Int32} : X xs L d 83 (52, lo, .inl y :: .inl x :: sk, h) res ↔ X xs L d 83 (53, lo, .inl (x - y) :: sk, h) res := i_isub k_83_52
theorem e_83_53 {o : Nat} {i : Int32} : X xs L d 83 (53, lo, .inl i :: .inr (some o) :: sk, h) res ↔ (hK h o = 20 ∧ vp_in i (hL h o)) ∧ X xs L d 83 (54, lo, .inl (hI h o i.toNatClampNeg) :: sk, h) res := i_iaload k_83_53
theorem e_83_54 {o : Nat} {i : Int32} : X xs L d 83 (54, lo, .inl i :: .inr (some o) :: sk, h) res ↔ (hK h o = 20 ∧ vp_in i (hL h o)) ∧ X xs L d 83 (55, lo, .inl (hI h o i.toNatClampNeg) :: sk, h) res := i_iaload k_83_54
theorem e_83_55 : X xs L d 83 (55, lo, sk, h) res ↔ X xs L d 83 (59, lo, sk, h) res := i_goto k_83_55
theorem e_83_58 : X xs L d 83 (58, lo, sk, h) res ↔ X xs L d 83 (59, lo, .inl 0 :: sk, h) res := i_iconst k_83_58
theorem e_83_59 {x : Int32} {a0 a1 a2 a3 a4 a5 a6 a7 a8 a9 a10 : Option AV} : X xs L d 83 (59, [a0, a1, a2, a3, a4, a5, a6, a7, a8, a9, a10], .inl x :: sk, h) res ↔ X xs L d 83 (61, [a0, a1, a2, a3, a4, a5, a6, some (.inl x), a8, a9, a10], sk, h) res := i_istore k_83_59 (Nat.le_of_ble_eq_true rfl) rfl
theorem e_83_61 {x : Int32} {a0 a1 a2 a3 a5 a6 a7 a8 a9 a10 : Option AV} : X xs L d 83 (61, [a0, a1, a2, a3, some (.inl x), a5, a6, a7, a8, a9, a10], sk, h) res ↔ X xs L d 83 (63, [a0, a1, a2, a3, some (.inl x), a5, a6, a7, a8, a9, a10], .inl x :: sk, h) res := i_iload k_83_61 rfl
theorem e_83_63 {x : Int32} : X xs L d 83 (63, lo, .inl x :: sk, h) res ↔ (if x = 0 then X xs L d 83 (194, lo, sk, h) res else X xs L d 83 (66, lo, sk, h) res) := i_if_eq k_83_63
theorem e_83_66 {x : Int32} {a0 a1 a2 a3 a4 a6 a7 a8 a9 a10 : Option AV} : X xs L d 83 (66, [a0, a1, a2, a3, a4, some (.inl x), a6, a7, a8, a9, a10], sk, h) res ↔ X xs L d 83 (68, [a0, a1, a2, a3, a4, some (.inl x), a6, a7, a8, a9, a10], .inl x :: sk, h) res := i_iload k_83_66 rfl
theorem e_83_68 : X xs L d 83 (68, lo, sk, h) res ↔ X xs L d 83 (70, lo, .inl 41 :: sk, h) res := i_bipush k_83_68
theorem e_83_70 {x y : Int32} : X xs L d 83 (70, lo, .inl y :: .inl x :: sk, h) res ↔ (if x = y then X xs L d 83 (73, lo, sk, h) res else X xs L d 83 (100, lo, sk, h) res) := i_icmp_ne k_83_70
theorem e_83_73 {x : Int32} {a0 a1 a2 a3 a4 a5 a7 a8 a9 a10 : Option AV} : X xs L d 83 (73, [a0, a1, a2, a3, a4, a5, some (.inl x), a7, a8, a9, a10], sk, h) res ↔ X xs L d 83 (75, [a0, a1, a2, a3, a4, a5, some (.inl x), a7, a8, a9, a10], .inl x :: sk, h) res := i_iload k_83_73 rfl
theorem e_83_75 {x : Int32} : X xs L d 83 (75, lo, .inl x :: sk, h) res ↔ (if x = 0 then X xs L d 83 (100, lo, sk, h) res else X xs L d 83 (78, lo, sk, h) res) := i_if_eq k_83_75
theorem e_83_78 {x : Int32} {a0 a1 a2 a3 a4 a5 a6 a8 a9 a10 : Option AV} : X xs L d 83 (78, [a0, a1, a2, a3, a4, a5, a6, some (.inl x), a8, a9, a10], sk, h) res ↔ X xs L d 83 (80, [a0, a1, a2, a3, a4, a5, a6, some (.inl x), a8, a9, a10], .inl x :: sk, h) res := i_iload k_83_78 rfl
theorem e_83_80 {x : Int32} : X xs L d 83 (80, lo, .inl x :: sk, h) res ↔ (if x = 0 then X xs L d 83 (83, lo, sk, h) res else X xs L d 83 (100, lo, sk, h) res) := i_if_ne k_83_80
theorem e_83_83 {x : Option Nat} {a1 a2 a3 a4 a5 a6 a7 a8 a9 a10 : Option AV} : X xs L d 83 (83, [some (.inr x), a1, a2, a3, a4, a5, a6, a7, a8, a9, a10], sk, h) res ↔ X xs L d 83 (84, [some (.inr x), a1, a2, a3, a4, a5, a6, a7, a8, a9, a10], .inr x :: sk, h) res := i_aload_n k_83_83 rfl
theorem e_83_84 {o : Nat} : X xs L d 83 (84, lo, .inr (some o) :: sk, h) res ↔ hK h o = 9 ∧ X xs L d 83 (87, lo, .inr (hR h o 2) :: sk, h) res := i_getR k_83_84
theorem e_83_87 {x : Int32} {a0 a1 a3 a4 a5 a6 a7 a8 a9 a10 : Option AV} : X xs L d 83 (87, [a0, a1, some (.inl x), a3, a4, a5, a6, a7, a8, a9, a10], sk, h) res ↔ X xs L d 83 (88, [a0, a1, some (.inl x), a3, a4, a5, a6, a7, a8, a9, a10], .inl x :: sk, h) res := i_iload_n k_83_87 rfl
theorem e_83_88 : X xs L d 83 (88, lo, sk, h) res ↔ X xs L d 83 (89, lo, .inl 1 :: sk, h) res := i_iconst k_83_88
theorem e_83_89 {x y : Int32} : X xs L d 83 (89, lo, .inl y :: .inl x :: sk, h) res ↔ X xs L d 83 (90, lo, .inl (x - y) :: sk, h) res := i_isub k_83_89
theorem e_83_90 {o : Nat} {i : Int32} : X xs L d 83 (90, lo, .inl i :: .inr (some o) :: sk, h) res ↔ (hK h o = 21 ∧ vp_in i (hL h o)) ∧ X xs L d 83 (91, lo, .inl (hI h o i.toNatClampNeg) :: sk, h) res := i_caload k_83_90
theorem e_83_91 : X xs L d 83 (91, lo, sk, h) res ↔ X xs L d 83 (93, lo, .inl 40 :: sk, h) res := i_bipush k_83_91
theorem e_83_93 {x y : Int32} : X xs L d 83 (93, lo, .inl y :: .inl x :: sk, h) res ↔ (if x = y then X xs L d 83 (96, lo, sk, h) res else X xs L d 83 (100, lo, sk, h) res) := i_icmp_ne k_83_93
theorem e_83_96 : X xs L d 83 (96, lo, sk, h) res ↔ X xs L d 83 (97, lo, .inl 1 :: sk, h) res := i_iconst k_83_96
theorem e_83_97 : X xs L d 83 (97, lo, sk, h) res ↔ X xs L d 83 (101, lo, sk, h) res := i_goto k_83_97
theorem e_83_100 : X xs L d 83 (100, lo, sk, h) res ↔ X xs L d 83 (101, lo, .inl 0 :: sk, h) res := i_iconst k_83_100
theorem e_83_101 {x : Int32} {a0 a1 a2 a3 a4 a5 a6 a7 a8 a9 a10 : Option AV} : X xs L d 83 (101, [a0, a1, a2, a3, a4, a5, a6, a7, a8, a9, a10], .inl x :: sk, h) res ↔ X xs L d 83 (103, [a0, a1, a2, a3, a4, a5, a6, a7, some (.inl x), a9, a10], sk, h) res := i_istore k_83_101 (Nat.le_of_ble_eq_true rfl) rfl
theorem e_83_103 {x : Int32} {a0 a1 a2 a3 a4 a5 a6 a7 a9 a10 : Option AV} : X xs L d 83 (103, [a0, a1, a2, a3, a4, a5, a6, a7, some (.inl x), a9, a10], sk, h) res ↔ X xs L d 83 (105, [a0, a1, a2, a3, a4, a5, a6, a7, some (.inl x), a9, a10], .inl x :: sk, h) res := i_iload k_83_103 rfl
theorem e_83_105 {x : Int32} : X xs L d 83 (105, lo, .inl x :: sk, h) res ↔ (if x = 0 then X xs L d 83 (120, lo, sk, h) res else X xs L d 83 (108, lo, sk, h) res) := i_if_eq k_83_105
theorem e_83_108 {x : Int32} {a0 a1 a2 a4 a5 a6 a7 a8 a9 a10 : Option AV} : X xs L d 83 (108, [a0, a1, a2, some (.inl x), a4, a5, a6, a7, a8, a9, a10], sk, h) res ↔ X xs L d 83 (111, [a0, a1, a2, some (.inl (x + (-1))), a4, a5, a6, a7, a8, a9, a10], sk, h) res := i_iinc k_83_108 rfl rfl
theorem e_83_111 {x : Int32} {a0 a1 a3 a4 a5 a6 a7 a8 a9 a10 : Option AV} : X xs L d 83 (111, [a0, a1, some (.inl x), a3, a4, a5, a6, a7, a8, a9, a10], sk, h) res ↔ X xs L d 83 (114, [a0, a1, some (.inl (x + 1)), a3, a4, a5, a6, a7, a8, a9, a10], sk, h) res := i_iinc k_83_111 rfl rfl
theorem e_83_114 : X xs L d 83 (114, lo, sk, h) res ↔ X xs L d 83 (115, lo, .inl 0 :: sk, h) res := i_iconst k_83_114
theorem e_83_115 {x : Int32} {a0 a1 a2 a3 a4 a5 a6 a7 a8 a9 a10 : Option AV} : X xs L d 83 (115, [a0, a1, a2, a3, a4, a5, a6, a7, a8, a9, a10], .inl x :: sk, h) res ↔ X xs L d 83 (117, [a0, a1, a2, a3, some (.inl x), a5, a6, a7, a8, a9, a10], sk, h) res := i_istore k_83_115 (Nat.le_of_ble_eq_true rfl) rfl
theorem e_83_117 : X xs L d 83 (117, lo, sk, h) res ↔ X xs L d 83 (191, lo, sk, h) res := i_goto k_83_117
theorem e_83_120 {x : Int32} {a0 a1 a2 a3 a4 a5 a7 a8 a9 a10 : Option AV} : X xs L d 83 (120, [a0, a1, a2, a3, a4, a5, some (.inl x), a7, a8, a9, a10], sk, h) res ↔ X xs L d 83 (122, [a0, a1, a2, a3, a4, a5, some (.inl x), a7, a8, a9, a10], .inl x :: sk, h) res := i_iload k_83_120 rfl
theorem e_83_122 {x : Int32} : X xs L d 83 (122, lo, .inl x :: sk, h) res ↔ (if x = 0 then X xs L d 83 (134, lo, sk, h) res else X xs L d 83 (125, lo, sk, h) res) := i_if_eq k_83_122
theorem e_83_125 {x : Int32} {a0 a1 a2 a3 a4 a5 a6 a8 a9 a10 : Option AV} : X xs L d 83 (125, [a0, a1, a2, a3, a4, a5, a6, some (.inl x), a8, a9, a10], sk, h) res ↔ X xs L d 83 (127, [a0, a1, a2, a3, a4, a5, a6, some (.inl x), a8, a9, a10], .inl x :: sk, h) res := i_iload k_83_125 rfl
theorem e_83_127 {x : Int32} : X xs L d 83 (127, lo, .inl x :: sk, h) res ↔ (if x = 0 then X xs L d 83 (130, lo, sk, h) res else X xs L d 83 (134, lo, sk, h) res) := i_if_ne k_83_127
theorem e_83_130 : X xs L d 83 (130, lo, sk, h) res ↔ X xs L d 83 (131, lo, .inl (-1) :: sk, h) res := i_iconst k_83_130
theorem e_83_131 : X xs L d 83 (131, lo, sk, h) res ↔ X xs L d 83 (140, lo, sk, h) res := i_goto k_83_131
theorem e_83_134 {x : Option Nat} {a1 a2 a3 a4 a5 a6 a7 a8 a9 a10 : Option AV} : X xs L d 83 (134, [some (.inr x), a1, a2, a3, a4, a5, a6, a7, a8, a9, a10], sk, h) res ↔ X xs L d 83 (135, [some (.inr x), a1, a2, a3, a4, a5, a6, a7, a8, a9, a10], .inr x :: sk, h) res := i_aload_n k_83_134 rfl
theorem e_83_135 {x : Int32} {a0 a1 a3 a4 a5 a6 a7 a8 a9 a10 : Option AV} : X xs L d 83 (135, [a0, a1, some (.inl x), a3, a4, a5, a6, a7, a8, a9, a10], sk, h) res ↔ X xs L d 83 (136, [a0, a1, some (.inl x), a3, a4, a5, a6, a7, a8, a9, a10], .inl x :: sk, h) res := i_iload_n k_83_135 rfl
theorem e_83_136 {x : Int32} {a0 a1 a2 a4 a5 a6 a7 a8 a9 a10 : Option AV} : X xs L d 83 (136, [a0, a1, a2, some (.inl x), a4, a5, a6, a7, a8, a9, a10], sk, h) res ↔ X xs L d 83 (137, [a0, a1, a2, some (.inl x), a4, a5, a6, a7, a8, a9, a10], .inl x :: sk, h) res := i_iload_n k_83_136 rfl
theorem e_83_137 {o : Nat} {v0 : Int32} {v1 : Int32} (hs : sk.length ≤ 8) : X xs L d 83 (137, lo, .inl v1 :: .inl v0 :: .inr (some o) :: sk, h) res ↔ hK h o = 9 ∧ ∃ q : Res, Rn xs L d 82 [.inr (some o), .inl v0, .inl v1] h q ∧ X xs L d 83 (140, lo, q.1.toList ++ sk, q.2) res := i_callV k_83_137 rfl ⟨Nat.le_add_left 3 sk.length, Nat.le_trans (Nat.add_le_add_right hs 3) (Nat.le_of_eq (Nat.add_comm 8 3))⟩
theorem e_83_140 {x : Int32} {a0 a1 a2 a3 a4 a5 a6 a7 a8 a9 a10 : Option AV} : X xs L d 83 (140, [a0, a1, a2, a3, a4, a5, a6, a7, a8, a9, a10], .inl x :: sk, h) res ↔ X xs L d 83 (142, [a0, a1, a2, a3, a4, a5, a6, a7, a8, some (.inl x), a10], sk, h) res := i_istore k_83_140 (Nat.le_of_ble_eq_true rfl) rfl
theorem e_83_142 {x : Int32} {a0 a1 a2 a3 a4 a5 a6 a7 a8 a10 : Option AV} : X xs L d 83 (142, [a0, a1, a2, a3, a4, a5, a6, a7, a8, some (.inl x), a10], sk, h) res ↔ X xs L d 83 (144, [a0, a1, a2, a3, a4, a5, a6, a7, a8, some (.inl x), a10], .inl x :: sk, h) res := i_iload k_83_142 rfl
theorem e_83_144 {x : Int32} : X xs L d 83 (144, lo, .inl x :: sk, h) res ↔ (if 0 ≤ x then X xs L d 83 (149, lo, sk, h) res else X xs L d 83 (147, lo, sk, h) res) := i_if_ge k_83_144
theorem e_83_147 : X xs L d 83 (147, lo, sk, h) res ↔ X xs L d 83 (148, lo, .inl (-1) :: sk, h) res := i_iconst k_83_147
theorem e_83_148 {v : Int32} : X xs L d 83 (148, lo, [.inl v], h) res ↔ res = (some (.inl v), h) := i_iret k_83_148 rfl
theorem e_83_149 {x : Int32} {a0 a1 a2 a3 a4 a6 a7 a8 a9 a10 : Option AV} : X xs L d 83 (149, [a0, a1, a2, a3, a4, some (.inl x), a6, a7, a8, a9, a10], sk, h) res ↔ X xs L d 83 (151, [a0, a1, a2, a3, a4, some (.inl x), a6, a7, a8, a9, a10], .inl x :: sk, h) res := i_iload k_83_149 rfl
theorem e_83_151 : X xs L d 83 (151, lo, sk, h) res ↔ X xs L d 83 (153, lo, .inl 40 :: sk, h) res := i_bipush k_83_151
theorem e_83_153 {x y : Int32} : X xs L d 83 (153, lo, .inl y :: .inl x :: sk, h) res ↔ (if x = y then X xs L d 83 (164, lo, sk, h) res else X xs L d 83 (156, lo, sk, h) res) := i_icmp_eq k_83_153
theorem e_83_156 {x : Int32} {a0 a1 a2 a3 a4 a6 a7 a8 a9 a10 : Option AV} : X xs L d 83 (156, [a0, a1, a2, a3, a4, some (.inl x), a6, a7, a8, a9, a10], sk, h) res ↔ X xs L d 83 (158, [a0, a1, a2, a3, a4, some (.inl x), a6, a7, a8, a9, a10], .inl x :: sk, h) res := i_iload k_83_156 rfl
theorem e_83_158 {v0 : Int32} (hs : sk.length ≤ 8) : X xs L d 83 (158, lo, .inl v0 :: sk, h) res ↔ ∃ q : Res, Rn xs L d 78 [.inl v0] h q ∧ X xs L d 83 (161, lo, q.1.toList ++ sk, q.2) res := i_callS k_83_158 ⟨Nat.le_add_left 1 sk.length, Nat.le_trans (Nat.add_le_add_right hs 1) (Nat.le_of_eq (Nat.add_comm 8 1))⟩
theorem e_83_161 {x : Int32} : X xs L d 83 (161, lo, .inl x :: sk, h) res ↔ (if x = 0 then X xs L d 83 (168, lo, sk, h) res else X xs L d 83 (164, lo, sk, h) res) := i_if_eq k_83_161
theorem e_83_164 : X xs L d 83 (164, lo, sk, h) res ↔ X xs L d 83 (165, lo, .inl 1 :: sk, h) res := i_iconst k_83_164
theorem e_83_165 : X xs L d 83 (165, lo, sk, h) res ↔ X xs L d 83 (169, lo, sk, h) res := i_goto k_83_165
theorem e_83_168 : X xs L d 83 (168, lo, sk, h) res ↔ X xs L d 83 (169, lo, .inl 0 :: sk, h) res := i_iconst k_83_168
theorem e_83_169 {x : Int32} {a0 a1 a2 a3 a4 a5 a6 a7 a8 a9 a10 : Option AV} : X xs L d 83 (169, [a0, a1, a2, a3, a4, a5, a6, a7, a8, a9, a10], .inl x :: sk, h) res ↔ X xs L d 83 (171, [a0, a1, a2, a3, a4, a5, a6, a7, a8, a9, some (.inl x)], sk, h) res := i_istore k_83_169 (Nat.le_of_ble_eq_true rfl) rfl
theorem e_83_171 {x : Int32} {a0 a1 a2 a3 a4 a5 a6 a7 a8 a9 : Option AV} : X xs L d 83 (171, [a0, a1, a2, a3, a4, a5, a6, a7, a8, a9, some (.inl x)], sk, h) res ↔ X xs L d 83 (173, [a0, a1, a2, a3, a4, a5, a6, a7, a8, a9, some (.inl x)], .inl x :: sk, h) res := i_iload k_83_171 rfl
theorem e_83_173 {x : Int32} : X xs L d 83 (173, lo, .inl x :: sk, h) res ↔ (if x = 0 then X xs L d 83 (182, lo, sk, h) res else X xs L d 83 (176, lo, sk, h) res) := i_if_eq k_83_173
theorem e_83_176 {x : Int32} {a0 a1 a2 a4 a5 a6 a7 a8 a9 a10 : Option AV} : X xs L d 83 (176, [a0, a1, a2, some (.inl x), a4, a5, a6, a7, a8, a9, a10], sk, h) res ↔ X xs L d 83 (177, [a0, a1, a2, some (.inl x), a4, a5, a6, a7, a8, a9, a10], .inl x :: sk, h) res := i_iload_n k_83_176 rfl
theorem e_83_177 : X xs L d 83 (177, lo, sk, h) res ↔ X xs L d 83 (178, lo, .inl 1 :: sk, h) res := i_iconst k_83_177
theorem e_83_178 {x y : Int32} : X xs L d 83 (178, lo, .inl y :: .inl x :: sk, h) res ↔ X xs L d 83 (179, lo, .inl (x + y) :: sk, h) res := i_iadd k_83_178
theorem e_83_179 : X xs L d 83 (179, lo, sk, h) res ↔ X xs L d 83 (183, lo, sk, h) res := i_goto k_83_179
theorem e_83_182 {x : Int32} {a0 a1 a2 a4 a5 a6 a7 a8 a9 a10 : Option AV} : X xs L d 83 (182, [a0, a1, a2, some (.inl x), a4, a5, a6, a7, a8, a9, a10], sk, h) res ↔ X xs L d 83 (183, [a0, a1, a2, some (.inl x), a4, a5, a6, a7, a8, a9, a10], .inl x :: sk, h) res := i_iload_n k_83_182 rfl
theorem e_83_183 {x : Int32} {a0 a1 a2 a3 a4 a5 a6 a7 a8 a9 a10 : Option AV} : X xs L d 83 (183, [a0, a1, a2, a3, a4, a5, a6, a7, a8, a9, a10], .inl x :: sk, h) res ↔ X xs L d 83 (184, [a0, a1, a2, some (.inl x), a4, a5, a6, a7, a8, a9, a10], sk, h) res := i_istore_n k_83_183 (Nat.le_of_ble_eq_true rfl) rfl
theorem e_83_184 {x : Int32} {a0 a1 a2 a3 a4 a5 a6 a7 a8 a9 : Option AV} : X xs L d 83 (184, [a0, a1, a2, a3, a4, a5, a6, a7, a8, a9, some (.inl x)], sk, h) res ↔ X xs L d 83 (186, [a0, a1, a2, a3, a4, a5, a6, a7, a8, a9, some (.inl x)], .inl x :: sk, h) res := i_iload k_83_184 rfl
theorem e_83_186 {x : Int32} {a0 a1 a2 a3 a4 a5 a6 a7 a8 a9 a10 : Option AV} : X xs L d 83 (186, [a0, a1, a2, a3, a4, a5, a6, a7, a8, a9, a10], .inl x :: sk, h) res ↔ X xs L d 83 (188, [a0, a1, a2, a3, some (.inl x), a5, a6, a7, a8, a9, a10], sk, h) res := i_istore k_83_186 (Nat.le_of_ble_eq_true rfl) rfl
theorem e_83_188 {x : Int32} {a0 a1 a2 a3 a4 a5 a6 a7 a8 a10 : Option AV} : X xs L d 83 (188, [a0, a1, a2, a3, a4, a5, a6, a7, a8, some (.inl x), a10], sk, h) res ↔ X xs L d 83 (190, [a0, a1, a2, a3, a4, a5, a6, a7, a8, some (.inl x), a10], .inl x :: sk, h) res := i_iload k_83_188 rfl
theorem e_83_190 {x : Int32} {a0 a1 a2 a3 a4 a5 a6 a7 a8 a9 a10 : Option AV} : X xs L d 83 (190, [a0, a1, a2, a3, a4, a5, a6, a7, a8, a9, a10], .inl x :: sk, h) res ↔ X xs L d 83 (191, [a0, a1, some (.inl x), a3, a4, a5, a6, a7, a8, a9, a10], sk, h) res := i_istore_n k_83_190 (Nat.le_of_ble_eq_true rfl) rfl
theorem e_83_191 : X xs L d 83 (191, lo, sk, h) res ↔ X xs L d 83 (303, lo, sk, h) res := i_goto k_83_191
theorem e_83_194 {x : Int32} {a0 a1 a2 a3 a4 a6 a7 a8 a9 a10 : Option AV} : X xs L d 83 (194, [a0, a1, a2, a3, a4, some (.inl x), a6, a7, a8, a9, a10], sk, h) res ↔ X xs L d 83 (196, [a0, a1, a2, a3, a4, some (.inl x), a6, a7, a8, a9, a10], .inl x :: sk, h) res := i_iload k_83_194 rfl
theorem e_83_196 {v0 : Int32} (hs : sk.length ≤ 8) : X xs L d 83 (196, lo, .inl v0 :: sk, h) res ↔ ∃ q : Res, Rn xs L d 80 [.inl v0] h q ∧ X xs L d 83 (199, lo, q.1.toList ++ sk, q.2) res := i_callS k_83_196 ⟨Nat.le_add_left 1 sk.length, Nat.le_trans (Nat.add_le_add_right hs 1) (Nat.le_of_eq (Nat.add_comm 8 1))⟩
theorem e_83_199 {x : Int32} : X xs L d 83 (199, lo, .inl x :: sk, h) res ↔ (if x = 0 then X xs L d 83 (211, lo, sk, h) res else X xs L d 83 (202, lo, sk, h) res) := i_if_eq k_83_199
theorem e_83_202 : X xs L d 83 (202, lo, sk, h) res ↔ X xs L d 83 (203, lo, .inl 1 :: sk, h) res := i_iconst k_83_202
theorem e_83_203 {x : Int32} {a0 a1 a2 a3 a4 a5 a6 a7 a8 a9 a10 : Option AV} : X xs L d 83 (203, [a0, a1, a2, a3, a4, a5, a6, a7, a8, a9, a10], .inl x :: sk, h) res ↔ X xs L d 83 (205, [a0, a1, a2, a3, some (.inl x), a5, a6, a7, a8, a9, a10], sk, h) res := i_istore k_83_203 (Nat.le_of_ble_eq_true rfl) rfl
theorem e_83_205 {x : Int32} {a0 a1 a3 a4 a5 a6 a7 a8 a9 a10 : Option AV} : X xs L d 83 (205, [a0, a1, some (.inl x), a3, a4, a5, a6, a7, a8, a9, a10], sk, h) res ↔ X xs L d 83 (208, [a0, a1, some (.inl (x + 1)), a3, a4, a5, a6, a7, a8, a9, a10], sk, h) res := i_iinc k_83_205 rfl rfl
theorem e_83_208 : X xs L d 83 (208, lo, sk, h) res ↔ X xs L d 83 (303, lo, sk, h) res := i_goto k_83_208
theorem e_83_211 {x : Int32} {a0 a1 a2 a4 a5 a6 a7 a8 a9 a10 : Option AV} : X xs L d 83 (211, [a0, a1, a2, some (.inl x), a4, a5, a6, a7, a8, a9, a10], sk, h) res ↔ X xs L d 83 (212, [a0, a1, a2, some (.inl x), a4, a5, a6, a7, a8, a9, a10], .inl x :: sk, h) res := i_iload_n k_83_211 rfl
theorem e_83_212 {x : Int32} : X xs L d 83 (212, lo, .inl x :: sk, h) res ↔ (if x = 0 then X xs L d 83 (215, lo, sk, h) res else X xs L d 83 (217, lo, sk, h) res) := i_if_ne k_83_212
theorem e_83_215 {x : Int32} {a0 a1 a3 a4 a5 a6 a7 a8 a9 a10 : Option AV} : X xs L d 83 (215, [a0, a1, some (.inl x), a3, a4, a5, a6, a7, a8, a9, a10], sk, h) res ↔ X xs L d 83 (216, [a0, a1, some (.inl x), a3, a4, a5, a6, a7, a8, a9, a10], .inl x :: sk, h) res := i_iload_n k_83_215 rfl
theorem e_83_216 {v : Int32} : X xs L d 83 (216, lo, [.inl v], h) res ↔ res = (some (.inl v), h) := i_iret k_83_216 rfl
theorem e_83_217 {x : Int32} {a0 a1 a2 a3 a4 a6 a7 a8 a9 a10 : Option AV} : X xs L d 83 (217, [a0, a1, a2, a3, a4, some (.inl x), a6, a7, a8, a9, a10], sk, h) res ↔ X xs L d 83 (219, [a0, a1, a2, a3, a4, some (.inl x), a6, a7, a8, a9, a10], .inl x :: sk, h) res := i_iload k_83_217 rfl
theorem e_83_219 : X xs L d 83 (219, lo, sk, h) res ↔ X xs L d 83 (221, lo, .inl 44 :: sk, h) res := i_bipush k_83_219
theorem e_83_221 {x y : Int32} : X xs L d 83 (221, lo, .inl y :: .inl x :: sk, h) res ↔ (if x = y then X xs L d 83 (224, lo, sk, h) res else X xs L d 83 (265, lo, sk, h) res) := i_icmp_ne k_83_221
theorem e_83_224 {x : Int32} {a0 a1 a2 a3 a4 a5 a7 a8 a9 a10 : Option AV} : X xs L d 83 (224, [a0, a1, a2, a3, a4, a5, some (.inl x), a7, a8, a9, a10], sk, h) res ↔ X xs L d 83 (226, [a0, a1, a2, a3, a4, a5, some (.inl x), a7, a8, a9, a10], .inl x :: sk, h) res := i_iload k_83_224 rfl
theorem e_83_226 {x : Int32} : X xs L d 83 (226, lo, .inl x :: sk, h) res ↔ (if x = 0 then X xs L d 83 (265, lo, sk, h) res else X xs L d 83 (229, lo, sk, h) res) := i_if_eq k_83_226
theorem e_83_229 {x : Option Nat} {a1 a2 a3 a4 a5 a6 a7 a8 a9 a10 : Option AV} : X xs L d 83 (229, [some (.inr x), a1, a2, a3, a4, a5, a6, a7, a8, a9, a10], sk, h) res ↔ X xs L d 83 (230, [some (.inr x), a1, a2, a3, a4, a5, a6, a7, a8, a9, a10], .inr x :: sk, h) res := i_aload_n k_83_229 rfl
theorem e_83_230 {o : Nat} : X xs L d 83 (230, lo, .inr (some o) :: sk, h) res ↔ hK h o = 9 ∧ X xs L d 83 (233, lo, .inr (hR h o 15) :: sk, h) res := i_getR k_83_230
theorem e_83_233 {x : Int32} {a0 a1 a2 a4 a5 a6 a7 a8 a9 a10 : Option AV} : X xs L d 83 (233, [a0, a1, a2, some (.inl x), a4, a5, a6, a7, a8, a9, a10], sk, h) res ↔ X xs L d 83 (234, [a0, a1, a2, some (.inl x), a4, a5, a6, a7, a8, a9, a10], .inl x :: sk, h) res := i_iload_n k_83_233 rfl
theorem e_83_234 : X xs L d 83 (234, lo, sk, h) res ↔ X xs L d 83 (235, lo, .inl 1 :: sk, h) res := i_iconst k_83_234
theorem e_83_235 {x y : Int32} : X xs L d 83 (235, lo, .inl y :: .inl x :: sk, h) res ↔ X xs L d 83 (236, lo, .inl (x - y) :: sk, h) res := i_isub k_83_235
theorem e_83_236 {o : Nat} {i : Int32} : X xs L d 83 (236, lo, .inl i :: .inr (some o) :: sk, h) res ↔ (hK h o = 20 ∧ vp_in i (hL h o)) ∧ X xs L d 83 (237, lo, .inl (hI h o i.toNatClampNeg) :: sk, h) res := i_iaload k_83_236
theorem e_83_237 : X xs L d 83 (237, lo, sk, h) res ↔ X xs L d 83 (238, lo, .inl 1 :: sk, h) res := i_iconst k_83_237
theorem e_83_238 {x y : Int32} : X xs L d 83 (238, lo, .inl y :: .inl x :: sk, h) res ↔ X xs L d 83 (239, lo, .inl (x + y) :: sk, h) res := i_iadd k_83_238
theorem e_83_239 {x : Int32} {a0 a1 a2 a3 a4 a5 a6 a8 a9 a10 : Option AV} : X xs L d 83 (239, [a0, a1, a2, a3, a4, a5, a6, some (.inl x), a8, a9, a10], sk, h) res ↔ X xs L d 83 (241, [a0, a1, a2, a3, a4, a5, a6, some (.inl x), a8, a9, a10], .inl x :: sk, h) res := i_iload k_83_239 rfl
theorem e_83_241 {x y : Int32} : X xs L d 83 (241, lo, .inl y :: .inl x :: sk, h) res ↔ (if y ≤ x then X xs L d 83 (265, lo, sk, h) res else X xs L d 83 (244, lo, sk, h) res) := i_icmp_ge k_83_241
theorem e_83_244 {x : Option Nat} {a1 a2 a3 a4 a5 a6 a7 a8 a9 a10 : Option AV} : X xs L d 83 (244, [some (.inr x), a1, a2, a3, a4, a5, a6, a7, a8, a9, a10], sk, h) res ↔ X xs L d 83 (245, [some (.inr x), a1, a2, a3, a4, a5, a6, a7, a8, a9, a10], .inr x :: sk, h) res := i_aload_n k_83_244 rfl
theorem e_83_245 {o : Nat} : X xs L d 83 (245, lo, .inr (some o) :: sk, h) res ↔ hK h o = 9 ∧ X xs L d 83 (248, lo, .inr (hR h o 15) :: sk, h) res := i_getR k_83_245
theorem e_83_248 {x : Int32} {a0 a1 a2 a4 a5 a6 a7 a8 a9 a10 : Option AV} : X xs L d 83 (248, [a0, a1, a2, some (.inl x), a4, a5, a6, a7, a8, a9, a10], sk, h) res ↔ X xs L d 83 (249, [a0, a1, a2, some (.inl x), a4, a5, a6, a7, a8, a9, a10], .inl x :: sk, h) res := i_iload_n k_83_248 rfl
theorem e_83_249 : X xs L d 83 (249, lo, sk, h) res ↔ X xs L d 83 (250, lo, .inl 1 :: sk, h) res := i_iconst k_83_249
theorem e_83_250 {x y : Int32} : X xs L d 83 (250, lo, .inl y :: .inl x :: sk, h) res ↔ X xs L d 83 (251, lo, .inl (x - y) :: sk, h) res := i_isub k_83_250
theorem e_83_251 {v w : AV} : X xs L d 83 (251, lo, v :: w :: sk, h) res ↔ X xs L d 83 (252, lo, v :: w :: v :: w :: sk, h) res := i_dup2 k_83_251
theorem e_83_252 {o : Nat} {i : Int32} : X xs L d 83 (252, lo, .inl i :: .inr (some o) :: sk, h) res ↔ (hK h o = 20 ∧ vp_in i (hL h o)) ∧ X xs L d 83 (253, lo, .inl (hI h o i.toNatClampNeg) :: sk, h) res := i_iaload k_83_252
theorem e_83_253 : X xs L d 83 (253, lo, sk, h) res ↔ X xs L d 83 (254, lo, .inl 1 :: sk, h) res := i_iconst k_83_253
theorem e_83_254 {x y : Int32} : X xs L d 83 (254, lo, .inl y :: .inl x :: sk, h) res ↔ X xs L d 83 (255, lo, .inl (x + y) :: sk, h) res := i_iadd k_83_254
theorem e_83_255 {o : Nat} {i v : Int32} : X xs L d 83 (255, lo, .inl v :: .inl i :: .inr (some o) :: sk, h) res ↔ (hK h o = 20 ∧ vp_in i (hL h o)) ∧ X xs L d 83 (256, lo, sk, sI h o i.toNatClampNeg (v)) res := i_iastore k_83_255
theorem e_83_256 : X xs L d 83 (256, lo, sk, h) res ↔ X xs L d 83 (257, lo, .inl 1 :: sk, h) res := i_iconst k_83_256
theorem e_83_257 {x : Int32} {a0 a1 a2 a3 a4 a5 a6 a7 a8 a9 a10 : Option AV} : X xs L d 83 (257, [a0, a1, a2, a3, a4, a5, a6, a7, a8, a9, a10], .inl x :: sk, h) res ↔ X xs L d 83 (259, [a0, a1, a2, a3, some (.inl x), a5, a6, a7, a8, a9, a10], sk, h) res := i_istore k_83_257 (Nat.le_of_ble_eq_true rfl) rfl
theorem e_83_259 {x : Int32} {a0 a1 a3 a4 a5 a6 a7 a8 a9 a10 : Option AV} : X xs L d 83 (259, [a0, a1, some (.inl x), a3, a4, a5, a6, a7, a8, a9, a10], sk, h) res ↔ X xs L d 83 (262, [a0, a1, some (.inl (x + 1)), a3, a4, a5, a6, a7, a8, a9, a10], sk, h) res := i_iinc k_83_259 rfl rfl
theorem e_83_262 : X xs L d 83 (262, lo, sk, h) res ↔ X xs L d 83 (303, lo, sk, h) res := i_goto k_83_262
theorem e_83_265 {x : Int32} {a0 a1 a2 a3 a4 a6 a7 a8 a9 a10 : Option AV} : X xs L d 83 (265, [a0, a1, a2, a3, a4, some (.inl x), a6, a7, a8, a9, a10], sk, h) res ↔ X xs L d 83 (267, [a0, a1, a2, a3, a4, some (.inl x), a6, a7, a8, a9, a10], .inl x :: sk, h) res := i_iload k_83_265 rfl
theorem e_83_267 : X xs L d 83 (267, lo, sk, h) res ↔ X xs L d 83 (269, lo, .inl 41 :: sk, h) res := i_bipush k_83_267
theorem e_83_269 {x y : Int32} : X xs L d 83 (269, lo, .inl y :: .inl x :: sk, h) res ↔ (if x = y then X xs L d 83 (272, lo, sk, h) res else X xs L d 83 (301, lo, sk, h) res) := i_icmp_ne k_83_269
theorem e_83_272 {x : Int32} {a0 a1 a2 a3 a4 a5 a7 a8 a9 a10 : Option AV} : X xs L d 83 (272, [a0, a1, a2, a3, a4, a5, some (.inl x), a7, a8, a9, a10], sk, h) res ↔ X xs L d 83 (274, [a0, a1, a2, a3, a4, a5, some (.inl x), a7, a8, a9, a10], .inl x :: sk, h) res := i_iload k_83_272 rfl
theorem e_83_274 {x : Int32} : X xs L d 83 (274, lo, .inl x :: sk, h) res ↔ (if x = 0 then X xs L d 83 (292, lo, sk, h) res else X xs L d 83 (277, lo, sk, h) res) := i_if_eq k_83_274
theorem e_83_277 {x : Option Nat} {a1 a2 a3 a4 a5 a6 a7 a8 a9 a10 : Option AV} : X xs L d 83 (277, [some (.inr x), a1, a2, a3, a4, a5, a6, a7, a8, a9, a10], sk, h) res ↔ X xs L d 83 (278, [some (.inr x), a1, a2, a3, a4, a5, a6, a7, a8, a9, a10], .inr x :: sk, h) res := i_aload_n k_83_277 rfl
theorem e_83_278 {o : Nat} : X xs L d 83 (278, lo, .inr (some o) :: sk, h) res ↔ hK h o = 9 ∧ X xs L d 83 (281, lo, .inr (hR h o 15) :: sk, h) res := i_getR k_83_278
theorem e_83_281 {x : Int32} {a0 a1 a2 a4 a5 a6 a7 a8 a9 a10 : Option AV} : X xs L d 83 (281, [a0, a1, a2, some (.inl x), a4, a5, a6, a7, a8, a9, a10], sk, h) res ↔ X xs L d 83 (282, [a0, a1, a2, some (.inl x), a4, a5, a6, a7, a8, a9, a10], .inl x :: sk, h) res := i_iload_n k_83_281 rfl
theorem e_83_282 : X xs L d 83 (282, lo, sk, h) res ↔ X xs L d 83 (283, lo, .inl 1 :: sk, h) res := i_iconst k_83_282
theorem e_83_283 {x y : Int32} : X xs L d 83 (283, lo, .inl y :: .inl x :: sk, h) res ↔ X xs L d 83 (284, lo, .inl (x - y) :: sk, h) res := i_isub k_83_283
theorem e_83_284 {o : Nat} {i : Int32} : X xs L d 83 (284, lo, .inl i :: .inr (some o) :: sk, h) res ↔ (hK h o = 20 ∧ vp_in i (hL h o)) ∧ X xs L d 83 (285, lo, .inl (hI h o i.toNatClampNeg) :: sk, h) res := i_iaload k_83_284
theorem e_83_285 : X xs L d 83 (285, lo, sk, h) res ↔ X xs L d 83 (286, lo, .inl 1 :: sk, h) res := i_iconst k_83_285
theorem e_83_286 {x y : Int32} : X xs L d 83 (286, lo, .inl y :: .inl x :: sk, h) res ↔ X xs L d 83 (287, lo, .inl (x + y) :: sk, h) res := i_iadd k_83_286
theorem e_83_287 {x : Int32} {a0 a1 a2 a3 a4 a5 a6 a8 a9 a10 : Option AV} : X xs L d 83 (287, [a0, a1, a2, a3, a4, a5, a6, some (.inl x), a8, a9, a10], sk, h) res ↔ X xs L d 83 (289, [a0, a1, a2, a3, a4, a5, a6, some (.inl x), a8, a9, a10], .inl x :: sk, h) res := i_iload k_83_287 rfl
theorem e_83_289 {x y : Int32} : X xs L d 83 (289, lo, .inl y :: .inl x :: sk, h) res ↔ (if x = y then X xs L d 83 (292, lo, sk, h) res else X xs L d 83 (301, lo, sk, h) res) := i_icmp_ne k_83_289
theorem e_83_292 {x : Int32} {a0 a1 a2 a4 a5 a6 a7 a8 a9 a10 : Option AV} : X xs L d 83 (292, [a0, a1, a2, some (.inl x), a4, a5, a6, a7, a8, a9, a10], sk, h) res ↔ X xs L d 83 (295, [a0, a1, a2, some (.inl (x + (-1))), a4, a5, a6, a7, a8, a9, a10], sk, h) res := i_iinc k_83_292 rfl rfl
theorem e_83_295 {x : Int32} {a0 a1 a3 a4 a5 a6 a7 a8 a9 a10 : Option AV} : X xs L d 83 (295, [a0, a1, some (.inl x), a3, a4, a5, a6, a7, a8, a9, a10], sk, h) res ↔ X xs L d 83 (298, [a0, a1, some (.inl (x + 1)), a3, a4, a5, a6, a7, a8, a9, a10], sk, h) res := i_iinc k_83_295 rfl rfl
theorem e_83_298 : X xs L d 83 (298, lo, sk, h) res ↔ X xs L d 83 (303, lo, sk, h) res := i_goto k_83_298
theorem e_83_301 : X xs L d 83 (301, lo, sk, h) res ↔ X xs L d 83 (302, lo, .inl (-1) :: sk, h) res := i_iconst k_83_301
theorem e_83_302 {v : Int32} : X xs L d 83 (302, lo, [.inl v], h) res ↔ res = (some (.inl v), h) := i_iret k_83_302 rfl
theorem e_83_303 : X xs L d 83 (303, lo, sk, h) res ↔ X xs L d 83 (7, lo, sk, h) res := i_goto k_83_303
theorem k_84_0 : am_cd 84 0 = some (.iconst 0, 1, [], [(0, 0)])   := rfl
theorem k_84_1 : am_cd 84 1 = some (.istore_n 1, 1, [], [])   := rfl
theorem k_84_2 : am_cd 84 2 = some (.iconst 0, 1, [], [(0, 0)])   := rfl
theorem k_84_3 : am_cd 84 3 = some (.istore_n 2, 1, [], [])   := rfl
theorem k_84_4 : am_cd 84 4 = some (.iload_n 2, 1, [], [])   := rfl
theorem k_84_5 : am_cd 84 5 = some (.iconst 4, 1, [], [(4, 0)])   := rfl
theorem k_84_6 : am_cd 84 6 = some (.if_icmp .ge 16, 3, [22], [])   := rfl
theorem k_84_9 : am_cd 84 9 = some (.aload_n 0, 1, [], [])   := rfl
theorem k_84_10 : am_cd 84 10 = some (.getfield 29, 3, [9, 10, 2], [(0, 714)])   := rfl
theorem k_84_13 : am_cd 84 13 = some (.iload_n 2, 1, [], [])   := rfl
theorem k_84_14 : am_cd 84 14 = some (.iconst 0, 1, [], [(0, 0)])   := rfl
theorem k_84_15 : am_cd 84 15 = some (.iastore, 1, [], [])   := rfl
theorem k_84_16 : am_cd 84 16 = some (.iinc 2 1, 3, [], [(1, 0)])   := rfl
theorem k_84_19 : am_cd 84 19 = some (.goto (-15), 3, [4], [])   := rfl
theorem k_84_22 : am_cd 84 22 = some (.iload_n 1, 1, [], [])   := rfl
theorem k_84_23 : am_cd 84 23 = some (.aload_n 0, 1, [], [])   := rfl
theorem k_84_24 : am_cd 84 24 = some (.getfield 123, 3, [9, 3, 0], [(0, 707)])   := rfl
theorem k_84_27 : am_cd 84 27 = some (.if_icmp .ge 212, 3, [239], [])   := rfl
theorem k_84_30 : am_cd 84 30 = some (.aload_n 0, 1, [], [])   := rfl
theorem k_84_31 : am_cd 84 31 = some (.getfield 13, 3, [9, 2, 2], [(0, 706)])   := rfl
theorem k_84_34 : am_cd 84 34 = some (.iload_n 1, 1, [], [])   := rfl
theorem k_84_35 : am_cd 84 35 = some (.caload, 1, [], [])   := rfl
theorem k_84_36 : am_cd 84 36 = some (.istore_n 2, 1, [], [])   := rfl
theorem k_84_37 : am_cd 84 37 = some (.aload_n 0, 1, [], [])   := rfl
theorem k_84_38 : am_cd 84 38 = some (.getfield 13, 3, [9, 2, 2], [(0, 706)])   := rfl
theorem k_84_41 : am_cd 84 41 = some (.iload_n 1, 1, [], [])   := rfl
theorem k_84_42 : am_cd 84 42 = some (.iconst 1, 1, [], [(1, 0)])   := rfl
theorem k_84_43 : am_cd 84 43 = some (.iadd, 1, [], [])   := rfl
theorem k_84_44 : am_cd 84 44 = some (.caload, 1, [], [])   := rfl
theorem k_84_45 : am_cd 84 45 = some (.istore_n 3, 1, [], [])   := rfl
theorem k_84_46 : am_cd 84 46 = some (.iload_n 2, 1, [], [])   := rfl
theorem k_84_47 : am_cd 84 47 = some (.invokestatic 113, 3, [78, 1], [(0, 858), (0, 859)])   := rfl
theorem k_84_50 : am_cd 84 50 = some (.ifCond .eq 40, 3, [90], [])   := rfl
theorem k_84_53 : am_cd 84 53 = some (.aload_n 0, 1, [], [])   := rfl
theorem k_84_54 : am_cd 84 54 = some (.getfield 29, 3, [9, 10, 2], [(0, 714)])   := rfl
theorem k_84_57 : am_cd 84 57 = some (.iload_n 2, 1, [], [])   := rfl
theorem k_84_58 : am_cd 84 58 = some (.bipush 65, 2, [], [(65, 0)])   := rfl
theorem k_84_60 : am_cd 84 60 = some (.isub, 1, [], [])   := rfl
theorem k_84_61 : am_cd 84 61 = some (.iaload, 1, [], [])   := rfl
theorem k_84_62 : am_cd 84 62 = some (.ifCond .gt 28, 3, [90], [])   := rfl
theorem k_84_65 : am_cd 84 65 = some (.iload_n 3, 1, [], [])   := rfl
theorem k_84_66 : am_cd 84 66 = some (.bipush 48, 2, [], [(48, 0)])   := rfl
theorem k_84_68 : am_cd 84 68 = some (.if_icmp .lt 22, 3, [90], [])   := rfl
theorem k_84_71 : am_cd 84 71 = some (.iload_n 3, 1, [], [])   := rfl
theorem k_84_72 : am_cd 84 72 = some (.bipush 51, 2, [], [(51, 0)])   := rfl
theorem k_84_74 : am_cd 84 74 = some (.if_icmp .gt 16, 3, [90], [])   := rfl
theorem k_84_77 : am_cd 84 77 = some (.aload_n 0, 1, [], [])   := rfl
theorem k_84_78 : am_cd 84 78 = some (.getfield 13, 3, [9, 2, 2], [(0, 706)])   := rfl
theorem k_84_81 : am_cd 84 81 = some (.iload_n 1, 1, [], [])   := rfl
theorem k_84_82 : am_cd 84 82 = some (.iconst 2, 1, [], [(2, 0)])   := rfl
theorem k_84_83 : am_cd 84 83 = some (.iadd, 1, [], [])   := rfl
theorem k_84_84 : am_cd 84 84 = some (.caload, 1, [], [])   := rfl
theorem k_84_85 : am_cd 84 85 = some (.bipush 123, 2, [], [(123, 0)])   := rfl
theorem k_84_87 : am_cd 84 87 = some (.if_icmp .eq 5, 3, [92], [])   := rfl
theorem k_84_90 : am_cd 84 90 = some (.iconst 0, 1, [], [(0, 0)])   := rfl
theorem k_84_91 : am_cd 84 91 = some (.ireturn, 1, [], [])   := rfl
theorem k_84_92 : am_cd 84 92 = some (.aload_n 0, 1, [], [])   := rfl
theorem k_84_93 : am_cd 84 93 = some (.getfield 29, 3, [9, 10, 2], [(0, 714)])   := rfl
theorem k_84_96 : am_cd 84 96 = some (.iload_n 2, 1, [], [])   := rfl
theorem k_84_97 : am_cd 84 97 = some (.bipush 65, 2, [], [(65, 0)])   := rfl
theorem k_84_99 : am_cd 84 99 = some (.isub, 1, [], [])   := rfl
theorem k_84_100 : am_cd 84 100 = some (.iload_n 1, 1, [], [])   := rfl
theorem k_84_101 : am_cd 84 101 = some (.iconst 2, 1, [], [(2, 0)])   := rfl
theorem k_84_102 : am_cd 84 102 = some (.iadd, 1, [], [])   := rfl
theorem k_84_103 : am_cd 84 103 = some (.iastore, 1, [], [])   := rfl
theorem k_84_104 : am_cd 84 104 = some (.aload_n 0, 1, [], [])   := rfl
theorem k_84_105 : am_cd 84 105 = some (.getfield 32, 3, [9, 11, 2], [(0, 715)])   := rfl
theorem k_84_108 : am_cd 84 108 = some (.iload_n 2, 1, [], [])   := rfl
theorem k_84_109 : am_cd 84 109 = some (.bipush 65, 2, [], [(65, 0)])   := rfl
theorem k_84_111 : am_cd 84 111 = some (.isub, 1, [], [])   := rfl
theorem k_84_112 : am_cd 84 112 = some (.iload_n 3, 1, [], [])   := rfl
theorem k_84_113 : am_cd 84 113 = some (.bipush 48, 2, [], [(48, 0)])   := rfl
theorem k_84_115 : am_cd 84 115 = some (.isub, 1, [], [])   := rfl
theorem k_84_116 : am_cd 84 116 = some (.iastore, 1, [], [])   := rfl
theorem k_84_117 : am_cd 84 117 = some (.iconst 0, 1, [], [(0, 0)])   := rfl
theorem k_84_118 : am_cd 84 118 = some (.istore 4, 2, [], [])   := rfl
theorem k_84_120 : am_cd 84 120 = some (.iconst 1, 1, [], [(1, 0)])   := rfl
theorem k_84_121 : am_cd 84 121 = some (.istore 5, 2, [], [])   := rfl
theorem k_84_123 : am_cd 84 123 = some (.iload_n 1, 1, [], [])   := rfl
theorem k_84_124 : am_cd 84 124 = some (.iconst 2, 1, [], [(2, 0)])   := rfl
theorem k_84_125 : am_cd 84 125 = some (.iadd, 1, [], [])   := rfl
theorem k_84_126 : am_cd 84 126 = some (.istore_n 1, 1, [], [])   := rfl
theorem k_84_127 : am_cd 84 127 = some (.iload_n 1, 1, [], [])   := rfl
theorem k_84_128 : am_cd 84 128 = some (.aload_n 0, 1, [], [])   := rfl
theorem k_84_129 : am_cd 84 129 = some (.getfield 123, 3, [9, 3, 0], [(0, 707)])   := rfl
theorem k_84_132 : am_cd 84 132 = some (.if_icmp .ge 97, 3, [229], [])   := rfl
theorem k_84_135 : am_cd 84 135 = some (.iload 5, 2, [], [])   := rfl
theorem k_84_137 : am_cd 84 137 = some (.ifCond .eq 92, 3, [229], [])   := rfl
theorem k_84_140 : am_cd 84 140 = some (.aload_n 0, 1, [], [])   := rfl
theorem k_84_141 : am_cd 84 141 = some (.getfield 13, 3, [9, 2, 2], [(0, 706)])   := rfl
theorem k_84_144 : am_cd 84 144 = some (.iload_n 1, 1, [], [])   := rfl
theorem k_84_145 : am_cd 84 145 = some (.caload, 1, [], [])   := rfl
theorem k_84_146 : am_cd 84 146 = some (.bipush 123, 2, [], [(123, 0)])   := rfl
theorem k_84_148 : am_cd 84 148 = some (.if_icmp .ne 23, 3, [171], [])   := rfl
theorem k_84_151 : am_cd 84 151 = some (.aload_n 0, 1, [], [])   := rfl
theorem k_84_152 : am_cd 84 152 = some (.getfield 35, 3, [9, 12, 2], [(0, 716)])   := rfl
theorem k_84_155 : am_cd 84 155 = some (.iload 4, 2, [], [])   := rfl
theorem k_84_157 : am_cd 84 157 = some (.iload_n 1, 1, [], [])   := rfl
theorem k_84_158 : am_cd 84 158 = some (.iastore, 1, [], [])   := rfl
theorem k_84_159 : am_cd 84 159 = some (.iinc 4 1, 3, [], [(1, 0)])   := rfl
theorem k_84_162 : am_cd 84 162 = some (.iload 4, 2, [], [])   := rfl
theorem k_84_164 : am_cd 84 164 = some (.bipush 6, 2, [], [(6, 0)])   := rfl
theorem k_84_166 : am_cd 84 166 = some (.if_icmp .le 57, 3, [223], [])   := rfl
theorem k_84_169 : am_cd 84 169 = some (.iconst 0, 1, [], [(0, 0)])   := rfl
theorem k_84_170 : am_cd 84 170 = some (.ireturn, 1, [], [])   := rfl
theorem k_84_171 : am_cd 84 171 = some (.aload_n 0, 1, [], [])   := rfl
theorem k_84_172 : am_cd 84 172 = some (.getfield 13, 3, [9, 2, 2], [(0, 706)])   := rfl
theorem k_84_175 : am_cd 84 175 = some (.iload_n 1, 1, [], [])   := rfl
theorem k_84_176 : am_cd 84 176 = some (.caload, 1, [], [])   := rfl
theorem k_84_177 : am_cd 84 177 = some (.bipush 125, 2, [], [(125, 0)])   := rfl
theorem k_84_179 : am_cd 84 179 = some (.if_icmp .ne 44, 3, [223], [])   := rfl
theorem k_84_182 : am_cd 84 182 = some (.iinc 4 (-1), 3, [], [(-1, 0)])   := rfl
theorem k_84_185 : am_cd 84 185 = some (.aload_n 0, 1, [], [])   := rfl
theorem k_84_186 : am_cd 84 186 = some (.getfield 16, 3, [9, 6, 2], [(0, 710)])   := rfl
theorem k_84_189 : am_cd 84 189 = some (.iload_n 1, 1, [], [])   := rfl
theorem k_84_190 : am_cd 84 190 = some (.aload_n 0, 1, [], [])   := rfl
theorem k_84_191 : am_cd 84 191 = some (.getfield 35, 3, [9, 12, 2], [(0, 716)])   := rfl
theorem k_84_194 : am_cd 84 194 = some (.iload 4, 2, [], [])   := rfl
theorem k_84_196 : am_cd 84 196 = some (.iaload, 1, [], [])   := rfl
theorem k_84_197 : am_cd 84 197 = some (.iastore, 1, [], [])   := rfl
theorem k_84_198 : am_cd 84 198 = some (.aload_n 0, 1, [], [])   := rfl
theorem k_84_199 : am_cd 84 199 = some (.getfield 16, 3, [9, 6, 2], [(0, 710)])   := rfl
theorem k_84_202 : am_cd 84 202 = some (.aload_n 0, 1, [], [])   := rfl
theorem k_84_203 : am_cd 84 203 = some (.getfield 35, 3, [9, 12, 2], [(0, 716)])   := rfl
theorem k_84_206 : am_cd 84 206 = some (.iload 4, 2, [], [])   := rfl
theorem k_84_208 : am_cd 84 208 = some (.iaload, 1, [], [])   := rfl
theorem k_84_209 : am_cd 84 209 = some (.iload_n 1, 1, [], [])   := rfl
theorem k_84_210 : am_cd 84 210 = some (.iastore, 1, [], [])   := rfl
theorem k_84_211 : am_cd 84 211 = some (.iload 4, 2, [], [])   := rfl
theorem k_84_213 : am_cd 84 213 = some (.ifCond .le 7, 3, [220], [])   := rfl
theorem k_84_216 : am_cd 84 216 = some (.iconst 1, 1, [], [(1, 0)])   := rfl
theorem k_84_217 : am_cd 84 217 = some (.goto 4, 3, [221], [])   := rfl
theorem k_84_220 : am_cd 84 220 = some (.iconst 0, 1, [], [(0, 0)])   := rfl
theorem k_84_221 : am_cd 84 221 = some (.istore 5, 2, [], [])   := rfl
theorem k_84_223 : am_cd 84 223 = some (.iinc 1 1, 3, [], [(1, 0)])   := rfl
theorem k_84_226 : am_cd 84 226 = some (.goto (-99), 3, [127], [])   := rfl
theorem k_84_229 : am_cd 84 229 = some (.iload 5, 2, [], [])   := rfl
theorem k_84_231 : am_cd 84 231 = some (.ifCond .eq 5, 3, [236], [])   := rfl
theorem k_84_234 : am_cd 84 234 = some (.iconst 0, 1, [], [(0, 0)])   := rfl
theorem k_84_235 : am_cd 84 235 = some (.ireturn, 1, [], [])   := rfl
theorem k_84_236 : am_cd 84 236 = some (.goto (-214), 3, [22], [])   := rfl
theorem k_84_239 : am_cd 84 239 = some (.aload_n 0, 1, [], [])   := rfl
theorem k_84_240 : am_cd 84 240 = some (.getfield 29, 3, [9, 10, 2], [(0, 714)])   := rfl
theorem k_84_243 : am_cd 84 243 = some (.iconst 0, 1, [], [(0, 0)])   := rfl
theorem k_84_244 : am_cd 84 244 = some (.iaload, 1, [], [])   := rfl
theorem k_84_245 : am_cd 84 245 = some (.ifCond .le 16, 3, [261], [])   := rfl
theorem k_84_248 : am_cd 84 248 = some (.aload_n 0, 1, [], [])   := rfl
theorem k_84_249 : am_cd 84 249 = some (.getfield 32, 3, [9, 11, 2], [(0, 715)])   := rfl
theorem k_84_252 : am_cd 84 252 = some (.iconst 0, 1, [], [(0, 0)])   := rfl
theorem k_84_253 : am_cd 84 253 = some (.iaload, 1, [], [])   := rfl
theorem k_84_254 : am_cd 84 254 = some (.ifCond .ne 7, 3, [261], [])   := rfl
theorem k_84_257 : am_cd 84 257 = some (.iconst 1, 1, [], [(1, 0)])   := rfl
theorem k_84_258 : am_cd 84 258 = some (.goto 4, 3, [262], [])   := rfl
theorem k_84_261 : am_cd 84 261 = some (.iconst 0, 1, [], [(0, 0)])   := rfl
theorem k_84_262 : am_cd 84 262 = some (.ireturn, 1, [], [])   := rfl
theorem e_84_0 : X xs L d 84 (0, lo, sk, h) res ↔ X xs L d 84 (1, lo, .inl 0 :: sk, h) res := i_iconst k_84_0
theorem e_84_1 {x : Int32} {a0 a1 a2 a3 a4 a5 : Option AV} : X xs L d 84 (1, [a0, a1, a2, a3, a4, a5], .inl x :: sk, h) res ↔ X xs L d 84 (2, [a0, some (.inl x), a2, a3, a4, a5], sk, h) res := i_istore_n k_84_1 (Nat.le_of_ble_eq_true rfl) rfl
theorem e_84_2 : X xs L d 84 (2, lo, sk, h) res ↔ X xs L d 84 (3, lo, .inl 0 :: sk, h) res := i_iconst k_84_2
theorem e_84_3 {x : Int32} {a0 a1 a2 a3 a4 a5 : Option AV} : X xs L d 84 (3, [a0, a1, a2, a3, a4, a5], .inl x :: sk, h) res ↔ X xs L d 84 (4, [a0, a1, some (.inl x), a3, a4, a5], sk, h) res := i_istore_n k_84_3 (Nat.le_of_ble_eq_true rfl) rfl
theorem e_84_4 {x : Int32} {a0 a1 a3 a4 a5 : Option AV} : X xs L d 84 (4, [a0, a1, some (.inl x), a3, a4, a5], sk, h) res ↔ X xs L d 84 (5, [a0, a1, some (.inl x), a3, a4, a5], .inl x :: sk, h) res := i_iload_n k_84_4 rfl
theorem e_84_5 : X xs L d 84 (5, lo, sk, h) res ↔ X xs L d 84 (6, lo, .inl 4 :: sk, h) res := i_iconst k_84_5
theorem e_84_6 {x y : Int32} : X xs L d 84 (6, lo, .inl y :: .inl x :: sk, h) res ↔ (if y ≤ x then X xs L d 84 (22, lo, sk, h) res else X xs L d 84 (9, lo, sk, h) res) := i_icmp_ge k_84_6
theorem e_84_9 {x : Option Nat} {a1 a2 a3 a4 a5 : Option AV} : X xs L d 84 (9, [some (.inr x), a1, a2, a3, a4, a5], sk, h) res ↔ X xs L d 84 (10, [some (.inr x), a1, a2, a3, a4, a5], .inr x :: sk, h) res := i_aload_n k_84_9 rfl
theorem e_84_10 {o : Nat} : X xs L d 84 (10, lo, .inr (some o) :: sk, h) res ↔ hK h o = 9 ∧ X xs L d 84 (13, lo, .inr (hR h o 10) :: sk, h) res := i_getR k_84_10
theorem e_84_13 {x : Int32} {a0 a1 a3 a4 a5 : Option AV} : X xs L d 84 (13, [a0, a1, some (.inl x), a3, a4, a5], sk, h) res ↔ X xs L d 84 (14, [a0, a1, some (.inl x), a3, a4, a5], .inl x :: sk, h) res := i_iload_n k_84_13 rfl
theorem e_84_14 : X xs L d 84 (14, lo, sk, h) res ↔ X xs L d 84 (15, lo, .inl 0 :: sk, h) res := i_iconst k_84_14
theorem e_84_15 {o : Nat} {i v : Int32} : X xs L d 84 (15, lo, .inl v :: .inl i :: .inr (some o) :: sk, h) res ↔ (hK h o = 20 ∧ vp_in i (hL h o)) ∧ X xs L d 84 (16, lo, sk, sI h o i.toNatClampNeg (v)) res := i_iastore k_84_15
theorem e_84_16 {x : Int32} {a0 a1 a3 a4 a5 : Option AV} : X xs L d 84 (16, [a0, a1, some (.inl x), a3, a4, a5], sk, h) res ↔ X xs L d 84 (19, [a0, a1, some (.inl (x + 1)), a3, a4, a5], sk, h) res := i_iinc k_84_16 rfl rfl
theorem e_84_19 : X xs L d 84 (19, lo, sk, h) res ↔ X xs L d 84 (4, lo, sk, h) res := i_goto k_84_19
theorem e_84_22 {x : Int32} {a0 a2 a3 a4 a5 : Option AV} : X xs L d 84 (22, [a0, some (.inl x), a2, a3, a4, a5], sk, h) res ↔ X xs L d 84 (23, [a0, some (.inl x), a2, a3, a4, a5], .inl x :: sk, h) res := i_iload_n k_84_22 rfl
theorem e_84_23 {x : Option Nat} {a1 a2 a3 a4 a5 : Option AV} : X xs L d 84 (23, [some (.inr x), a1, a2, a3, a4, a5], sk, h) res ↔ X xs L d 84 (24, [some (.inr x), a1, a2, a3, a4, a5], .inr x :: sk, h) res := i_aload_n k_84_23 rfl
theorem e_84_24 {o : Nat} : X xs L d 84 (24, lo, .inr (some o) :: sk, h) res ↔ hK h o = 9 ∧ X xs L d 84 (27, lo, .inl (hI h o 3) :: sk, h) res := i_getI k_84_24
theorem e_84_27 {x y : Int32} : X xs L d 84 (27, lo, .inl y :: .inl x :: sk, h) res ↔ (if y ≤ x then X xs L d 84 (239, lo, sk, h) res else X xs L d 84 (30, lo, sk, h) res) := i_icmp_ge k_84_27
theorem e_84_30 {x : Option Nat} {a1 a2 a3 a4 a5 : Option AV} : X xs L d 84 (30, [some (.inr x), a1, a2, a3, a4, a5], sk, h) res ↔ X xs L d 84 (31, [some (.inr x), a1, a2, a3, a4, a5], .inr x :: sk, h) res := i_aload_n k_84_30 rfl
theorem e_84_31 {o : Nat} : X xs L d 84 (31, lo, .inr (some o) :: sk, h) res ↔ hK h o = 9 ∧ X xs L d 84 (34, lo, .inr (hR h o 2) :: sk, h) res := i_getR k_84_31
theorem e_84_34 {x : Int32} {a0 a2 a3 a4 a5 : Option AV} : X xs L d 84 (34, [a0, some (.inl x), a2, a3, a4, a5], sk, h) res ↔ X xs L d 84 (35, [a0, some (.inl x), a2, a3, a4, a5], .inl x :: sk, h) res := i_iload_n k_84_34 rfl
theorem e_84_35 {o : Nat} {i : Int32} : X xs L d 84 (35, lo, .inl i :: .inr (some o) :: sk, h) res ↔ (hK h o = 21 ∧ vp_in i (hL h o)) ∧ X xs L d 84 (36, lo, .inl (hI h o i.toNatClampNeg) :: sk, h) res := i_caload k_84_35
theorem e_84_36 {x : Int32} {a0 a1 a2 a3 a4 a5 : Option AV} : X xs L d 84 (36, [a0, a1, a2, a3, a4, a5], .inl x :: sk, h) res ↔ X xs L d 84 (37, [a0, a1, some (.inl x), a3, a4, a5], sk, h) res := i_istore_n k_84_36 (Nat.le_of_ble_eq_true rfl) rfl
theorem e_84_37 {x : Option Nat} {a1 a2 a3 a4 a5 : Option AV} : X xs L d 84 (37, [some (.inr x), a1, a2, a3, a4, a5], sk, h) res ↔ X xs L d 84 (38, [some (.inr x), a1, a2, a3, a4, a5], .inr x :: sk, h) res := i_aload_n k_84_37 rfl
theorem e_84_38 {o : Nat} : X xs L d 84 (38, lo, .inr (some o) :: sk, h) res ↔ hK h o = 9 ∧ X xs L d 84 (41, lo, .inr (hR h o 2) :: sk, h) res := i_getR k_84_38
theorem e_84_41 {x : Int32} {a0 a2 a3 a4 a5 : Option AV} : X xs L d 84 (41, [a0, some (.inl x), a2, a3, a4, a5], sk, h) res ↔ X xs L d 84 (42, [a0, some (.inl x), a2, a3, a4, a5], .inl x :: sk, h) res := i_iload_n k_84_41 rfl
theorem e_84_42 : X xs L d 84 (42, lo, sk, h) res ↔ X xs L d 84 (43, lo, .inl 1 :: sk, h) res := i_iconst k_84_42
theorem e_84_43 {x y : Int32} : X xs L d 84 (43, lo, .inl y :: .inl x :: sk, h) res ↔ X xs L d 84 (44, lo, .inl (x + y) :: sk, h) res := i_iadd k_84_43
theorem e_84_44 {o : Nat} {i : Int32} : X xs L d 84 (44, lo, .inl i :: .inr (some o) :: sk, h) res ↔ (hK h o = 21 ∧ vp_in i (hL h o)) ∧ X xs L d 84 (45, lo, .inl (hI h o i.toNatClampNeg) :: sk, h) res := i_caload k_84_44
theorem e_84_45 {x : Int32} {a0 a1 a2 a3 a4 a5 : Option AV} : X xs L d 84 (45, [a0, a1, a2, a3, a4, a5], .inl x :: sk, h) res ↔ X xs L d 84 (46, [a0, a1, a2, some (.inl x), a4, a5], sk, h) res := i_istore_n k_84_45 (Nat.le_of_ble_eq_true rfl) rfl
theorem e_84_46 {x : Int32} {a0 a1 a3 a4 a5 : Option AV} : X xs L d 84 (46, [a0, a1, some (.inl x), a3, a4, a5], sk, h) res ↔ X xs L d 84 (47, [a0, a1, some (.inl x), a3, a4, a5], .inl x :: sk, h) res := i_iload_n k_84_46 rfl
theorem e_84_47 {v0 : Int32} (hs : sk.length ≤ 8) : X xs L d 84 (47, lo, .inl v0 :: sk, h) res ↔ ∃ q : Res, Rn xs L d 78 [.inl v0] h q ∧ X xs L d 84 (50, lo, q.1.toList ++ sk, q.2) res := i_callS k_84_47 ⟨Nat.le_add_left 1 sk.length, Nat.le_trans (Nat.add_le_add_right hs 1) (Nat.le_of_eq (Nat.add_comm 8 1))⟩
theorem e_84_50 {x : Int32} : X xs L d 84 (50, lo, .inl x :: sk, h) res ↔ (if x = 0 then X xs L d 84 (90, lo, sk, h) res else X xs L d 84 (53, lo, sk, h) res) := i_if_eq k_84_50
theorem e_84_53 {x : Option Nat} {a1 a2 a3 a4 a5 : Option AV} : X xs L d 84 (53, [some (.inr x), a1, a2, a3, a4, a5], sk, h) res ↔ X xs L d 84 (54, [some (.inr x), a1, a2, a3, a4, a5], .inr x :: sk, h) res := i_aload_n k_84_53 rfl
theorem e_84_54 {o : Nat} : X xs L d 84 (54, lo, .inr (some o) :: sk, h) res ↔ hK h o = 9 ∧ X xs L d 84 (57, lo, .inr (hR h o 10) :: sk, h) res := i_getR k_84_54
theorem e_84_57 {x : Int32} {a0 a1 a3 a4 a5 : Option AV} : X xs L d 84 (57, [a0, a1, some (.inl x), a3, a4, a5], sk, h) res ↔ X xs L d 84 (58, [a0, a1, some (.inl x), a3, a4, a5], .inl x :: sk, h) res := i_iload_n k_84_57 rfl
theorem e_84_58 : X xs L d 84 (58, lo, sk, h) res ↔ X xs L d 84 (60, lo, .inl 65 :: sk, h) res := i_bipush k_84_58
theorem e_84_60 {x y : Int32} : X xs L d 84 (60, lo, .inl y :: .inl x :: sk, h) res ↔ X xs L d 84 (61, lo, .inl (x - y) :: sk, h) res := i_isub k_84_60
theorem e_84_61 {o : Nat} {i : Int32} : X xs L d 84 (61, lo, .inl i :: .inr (some o) :: sk, h) res ↔ (hK h o = 20 ∧ vp_in i (hL h o)) ∧ X xs L d 84 (62, lo, .inl (hI h o i.toNatClampNeg) :: sk, h) res := i_iaload k_84_61
theorem e_84_62 {x : Int32} : X xs L d 84 (62, lo, .inl x :: sk, h) res ↔ (if 0 < x then X xs L d 84 (90, lo, sk, h) res else X xs L d 84 (65, lo, sk, h) res) := i_if_gt k_84_62
theorem e_84_65 {x : Int32} {a0 a1 a2 a4 a5 : Option AV} : X xs L d 84 (65, [a0, a1, a2, some (.inl x), a4, a5], sk, h) res ↔ X xs L d 84 (66, [a0, a1, a2, some (.inl x), a4, a5], .inl x :: sk, h) res := i_iload_n k_84_65 rfl
theorem e_84_66 : X xs L d 84 (66, lo, sk, h) res ↔ X xs L d 84 (68, lo, .inl 48 :: sk, h) res := i_bipush k_84_66
theorem e_84_68 {x y : Int32} : X xs L d 84 (68, lo, .inl y :: .inl x :: sk, h) res ↔ (if x < y then X xs L d 84 (90, lo, sk, h) res else X xs L d 84 (71, lo, sk, h) res) := i_icmp_lt k_84_68
theorem e_84_71 {x : Int32} {a0 a1 a2 a4 a5 : Option AV} : X xs L d 84 (71, [a0, a1, a2, some (.inl x), a4, a5], sk, h) res ↔ X xs L d 84 (72, [a0, a1, a2, some (.inl x), a4, a5], .inl x :: sk, h) res := i_iload_n k_84_71 rfl
theorem e_84_72 : X xs L d 84 (72, lo, sk, h) res ↔ X xs L d 84 (74, lo, .inl 51 :: sk, h) res := i_bipush k_84_72
theorem e_84_74 {x y : Int32} : X xs L d 84 (74, lo, .inl y :: .inl x :: sk, h) res ↔ (if y < x then X xs L d 84 (90, lo, sk, h) res else X xs L d 84 (77, lo, sk, h) res) := i_icmp_gt k_84_74
theorem e_84_77 {x : Option Nat} {a1 a2 a3 a4 a5 : Option AV} : X xs L d 84 (77, [some (.inr x), a1, a2, a3, a4, a5], sk, h) res ↔ X xs L d 84 (78, [some (.inr x), a1, a2, a3, a4, a5], .inr x :: sk, h) res := i_aload_n k_84_77 rfl
theorem e_84_78 {o : Nat} : X xs L d 84 (78, lo, .inr (some o) :: sk, h) res ↔ hK h o = 9 ∧ X xs L d 84 (81, lo, .inr (hR h o 2) :: sk, h) res := i_getR k_84_78
theorem e_84_81 {x : Int32} {a0 a2 a3 a4 a5 : Option AV} : X xs L d 84 (81, [a0, some (.inl x), a2, a3, a4, a5], sk, h) res ↔ X xs L d 84 (82, [a0, some (.inl x), a2, a3, a4, a5], .inl x :: sk, h) res := i_iload_n k_84_81 rfl
theorem e_84_82 : X xs L d 84 (82, lo, sk, h) res ↔ X xs L d 84 (83, lo, .inl 2 :: sk, h) res := i_iconst k_84_82
theorem e_84_83 {x y : Int32} : X xs L d 84 (83, lo, .inl y :: .inl x :: sk, h) res ↔ X xs L d 84 (84, lo, .inl (x + y) :: sk, h) res := i_iadd k_84_83
theorem e_84_84 {o : Nat} {i : Int32} : X xs L d 84 (84, lo, .inl i :: .inr (some o) :: sk, h) res ↔ (hK h o = 21 ∧ vp_in i (hL h o)) ∧ X xs L d 84 (85, lo, .inl (hI h o i.toNatClampNeg) :: sk, h) res := i_caload k_84_84
theorem e_84_85 : X xs L d 84 (85, lo, sk, h) res ↔ X xs L d 84 (87, lo, .inl 123 :: sk, h) res := i_bipush k_84_85
theorem e_84_87 {x y : Int32} : X xs L d 84 (87, lo, .inl y :: .inl x :: sk, h) res ↔ (if x = y then X xs L d 84 (92, lo, sk, h) res else X xs L d 84 (90, lo, sk, h) res) := i_icmp_eq k_84_87
theorem e_84_90 : X xs L d 84 (90, lo, sk, h) res ↔ X xs L d 84 (91, lo, .inl 0 :: sk, h) res := i_iconst k_84_90
theorem e_84_91 {v : Int32} : X xs L d 84 (91, lo, [.inl v], h) res ↔ (v = 0 ∨ v = 1) ∧ res = (some (.inl v), h) := i_zret k_84_91 rfl
theorem e_84_92 {x : Option Nat} {a1 a2 a3 a4 a5 : Option AV} : X xs L d 84 (92, [some (.inr x), a1, a2, a3, a4, a5], sk, h) res ↔ X xs L d 84 (93, [some (.inr x), a1, a2, a3, a4, a5], .inr x :: sk, h) res := i_aload_n k_84_92 rfl
theorem e_84_93 {o : Nat} : X xs L d 84 (93, lo, .inr (some o) :: sk, h) res ↔ hK h o = 9 ∧ X xs L d 84 (96, lo, .inr (hR h o 10) :: sk, h) res := i_getR k_84_93
theorem e_84_96 {x : Int32} {a0 a1 a3 a4 a5 : Option AV} : X xs L d 84 (96, [a0, a1, some (.inl x), a3, a4, a5], sk, h) res ↔ X xs L d 84 (97, [a0, a1, some (.inl x), a3, a4, a5], .inl x :: sk, h) res := i_iload_n k_84_96 rfl
theorem e_84_97 : X xs L d 84 (97, lo, sk, h) res ↔ X xs L d 84 (99, lo, .inl 65 :: sk, h) res := i_bipush k_84_97
theorem e_84_99 {x y : Int32} : X xs L d 84 (99, lo, .inl y :: .inl x :: sk, h) res ↔ X xs L d 84 (100, lo, .inl (x - y) :: sk, h) res := i_isub k_84_99
theorem e_84_100 {x : Int32} {a0 a2 a3 a4 a5 : Option AV} : X xs L d 84 (100, [a0, some (.inl x), a2, a3, a4, a5], sk, h) res ↔ X xs L d 84 (101, [a0, some (.inl x), a2, a3, a4, a5], .inl x :: sk, h) res := i_iload_n k_84_100 rfl
theorem e_84_101 : X xs L d 84 (101, lo, sk, h) res ↔ X xs L d 84 (102, lo, .inl 2 :: sk, h) res := i_iconst k_84_101
theorem e_84_102 {x y : Int32} : X xs L d 84 (102, lo, .inl y :: .inl x :: sk, h) res ↔ X xs L d 84 (103, lo, .inl (x + y) :: sk, h) res := i_iadd k_84_102
theorem e_84_103 {o : Nat} {i v : Int32} : X xs L d 84 (103, lo, .inl v :: .inl i :: .inr (some o) :: sk, h) res ↔ (hK h o = 20 ∧ vp_in i (hL h o)) ∧ X xs L d 84 (104, lo, sk, sI h o i.toNatClampNeg (v)) res := i_iastore k_84_103
theorem e_84_104 {x : Option Nat} {a1 a2 a3 a4 a5 : Option AV} : X xs L d 84 (104, [some (.inr x), a1, a2, a3, a4, a5], sk, h) res ↔ X xs L d 84 (105, [some (.inr x), a1, a2, a3, a4, a5], .inr x :: sk, h) res := i_aload_n k_84_104 rfl
theorem e_84_105 {o : Nat} : X xs L d 84 (105, lo, .inr (some o) :: sk, h) res ↔ hK h o = 9 ∧ X xs L d 84 (108, lo, .inr (hR h o 11) :: sk, h) res := i_getR k_84_105
theorem e_84_108 {x : Int32} {a0 a1 a3 a4 a5 : Option AV} : X xs L d 84 (108, [a0, a1, some (.inl x), a3, a4, a5], sk, h) res ↔ X xs L d 84 (109, [a0, a1, some (.inl x), a3, a4, a5], .inl x :: sk, h) res := i_iload_n k_84_108 rfl
theorem e_84_109 : X xs L d 84 (109, lo, sk, h) res ↔ X xs L d 84 (111, lo, .inl 65 :: sk, h) res := i_bipush k_84_109
theorem e_84_111 {x y : Int32} : X xs L d 84 (111, lo, .inl y :: .inl x :: sk, h) res ↔ X xs L d 84 (112, lo, .inl (x - y) :: sk, h) res := i_isub k_84_111
theorem e_84_112 {x : Int32} {a0 a1 a2 a4 a5 : Option AV} : X xs L d 84 (112, [a0, a1, a2, some (.inl x), a4, a5], sk, h) res ↔ X xs L d 84 (113, [a0, a1, a2, some (.inl x), a4, a5], .inl x :: sk, h) res := i_iload_n k_84_112 rfl
theorem e_84_113 : X xs L d 84 (113, lo, sk, h) res ↔ X xs L d 84 (115, lo, .inl 48 :: sk, h) res := i_bipush k_84_113
theorem e_84_115 {x y : Int32} : X xs L d 84 (115, lo, .inl y :: .inl x :: sk, h) res ↔ X xs L d 84 (116, lo, .inl (x - y) :: sk, h) res := i_isub k_84_115
theorem e_84_116 {o : Nat} {i v : Int32} : X xs L d 84 (116, lo, .inl v :: .inl i :: .inr (some o) :: sk, h) res ↔ (hK h o = 20 ∧ vp_in i (hL h o)) ∧ X xs L d 84 (117, lo, sk, sI h o i.toNatClampNeg (v)) res := i_iastore k_84_116
theorem e_84_117 : X xs L d 84 (117, lo, sk, h) res ↔ X xs L d 84 (118, lo, .inl 0 :: sk, h) res := i_iconst k_84_117
theorem e_84_118 {x : Int32} {a0 a1 a2 a3 a4 a5 : Option AV} : X xs L d 84 (118, [a0, a1, a2, a3, a4, a5], .inl x :: sk, h) res ↔ X xs L d 84 (120, [a0, a1, a2, a3, some (.inl x), a5], sk, h) res := i_istore k_84_118 (Nat.le_of_ble_eq_true rfl) rfl
theorem e_84_120 : X xs L d 84 (120, lo, sk, h) res ↔ X xs L d 84 (121, lo, .inl 1 :: sk, h) res := i_iconst k_84_120
theorem e_84_121 {x : Int32} {a0 a1 a2 a3 a4 a5 : Option AV} : X xs L d 84 (121, [a0, a1, a2, a3, a4, a5], .inl x :: sk, h) res ↔ X xs L d 84 (123, [a0, a1, a2, a3, a4, some (.inl x)], sk, h) res := i_istore k_84_121 (Nat.le_of_ble_eq_true rfl) rfl
theorem e_84_123 {x : Int32} {a0 a2 a3 a4 a5 : Option AV} : X xs L d 84 (123, [a0, some (.inl x), a2, a3, a4, a5], sk, h) res ↔ X xs L d 84 (124, [a0, some (.inl x), a2, a3, a4, a5], .inl x :: sk, h) res := i_iload_n k_84_123 rfl
theorem e_84_124 : X xs L d 84 (124, lo, sk, h) res ↔ X xs L d 84 (125, lo, .inl 2 :: sk, h) res := i_iconst k_84_124
theorem e_84_125 {x y : Int32} : X xs L d 84 (125, lo, .inl y :: .inl x :: sk, h) res ↔ X xs L d 84 (126, lo, .inl (x + y) :: sk, h) res := i_iadd k_84_125
theorem e_84_126 {x : Int32} {a0 a1 a2 a3 a4 a5 : Option AV} : X xs L d 84 (126, [a0, a1, a2, a3, a4, a5], .inl x :: sk, h) res ↔ X xs L d 84 (127, [a0, some (.inl x), a2, a3, a4, a5], sk, h) res := i_istore_n k_84_126 (Nat.le_of_ble_eq_true rfl) rfl
theorem e_84_127 {x : Int32} {a0 a2 a3 a4 a5 : Option AV} : X xs L d 84 (127, [a0, some (.inl x), a2, a3, a4, a5], sk, h) res ↔ X xs L d 84 (128, [a0, some (.inl x), a2, a3, a4, a5], .inl x :: sk, h) res := i_iload_n k_84_127 rfl
theorem e_84_128 {x : Option Nat} {a1 a2 a3 a4 a5 : Option AV} : X xs L d 84 (128, [some (.inr x), a1, a2, a3, a4, a5], sk, h) res ↔ X xs L d 84 (129, [some (.inr x), a1, a2, a3, a4, a5], .inr x :: sk, h) res := i_aload_n k_84_128 rfl
theorem e_84_129 {o : Nat} : X xs L d 84 (129, lo, .inr (some o) :: sk, h) res ↔ hK h o = 9 ∧ X xs L d 84 (132, lo, .inl (hI h o 3) :: sk, h) res := i_getI k_84_129
theorem e_84_132 {x y : Int32} : X xs L d 84 (132, lo, .inl y :: .inl x :: sk, h) res ↔ (if y ≤ x then X xs L d 84 (229, lo, sk, h) res else X xs L d 84 (135, lo, sk, h) res) := i_icmp_ge k_84_132
theorem e_84_135 {x : Int32} {a0 a1 a2 a3 a4 : Option AV} : X xs L d 84 (135, [a0, a1, a2, a3, a4, some (.inl x)], sk, h) res ↔ X xs L d 84 (137, [a0, a1, a2, a3, a4, some (.inl x)], .inl x :: sk, h) res := i_iload k_84_135 rfl
theorem e_84_137 {x : Int32} : X xs L d 84 (137, lo, .inl x :: sk, h) res ↔ (if x = 0 then X xs L d 84 (229, lo, sk, h) res else X xs L d 84 (140, lo, sk, h) res) := i_if_eq k_84_137
theorem e_84_140 {x : Option Nat} {a1 a2 a3 a4 a5 : Option AV} : X xs L d 84 (140, [some (.inr x), a1, a2, a3, a4, a5], sk, h) res ↔ X xs L d 84 (141, [some (.inr x), a1, a2, a3, a4, a5], .inr x :: sk, h) res := i_aload_n k_84_140 rfl
theorem e_84_141 {o : Nat} : X xs L d 84 (141, lo, .inr (some o) :: sk, h) res ↔ hK h o = 9 ∧ X xs L d 84 (144, lo, .inr (hR h o 2) :: sk, h) res := i_getR k_84_141
theorem e_84_144 {x : Int32} {a0 a2 a3 a4 a5 : Option AV} : X xs L d 84 (144, [a0, some (.inl x), a2, a3, a4, a5], sk, h) res ↔ X xs L d 84 (145, [a0, some (.inl x), a2, a3, a4, a5], .inl x :: sk, h) res := i_iload_n k_84_144 rfl
theorem e_84_145 {o : Nat} {i : Int32} : X xs L d 84 (145, lo, .inl i :: .inr (some o) :: sk, h) res ↔ (hK h o = 21 ∧ vp_in i (hL h o)) ∧ X xs L d 84 (146, lo, .inl (hI h o i.toNatClampNeg) :: sk, h) res := i_caload k_84_145
theorem e_84_146 : X xs L d 84 (146, lo, sk, h) res ↔ X xs L d 84 (148, lo, .inl 123 :: sk, h) res := i_bipush k_84_146
theorem e_84_148 {x y : Int32} : X xs L d 84 (148, lo, .inl y :: .inl x :: sk, h) res ↔ (if x = y then X xs L d 84 (151, lo, sk, h) res else X xs L d 84 (171, lo, sk, h) res) := i_icmp_ne k_84_148
theorem e_84_151 {x : Option Nat} {a1 a2 a3 a4 a5 : Option AV} : X xs L d 84 (151, [some (.inr x), a1, a2, a3, a4, a5], sk, h) res ↔ X xs L d 84 (152, [some (.inr x), a1, a2, a3, a4, a5], .inr x :: sk, h) res := i_aload_n k_84_151 rfl
theorem e_84_152 {o : Nat} : X xs L d 84 (152, lo, .inr (some o) :: sk, h) res ↔ hK h o = 9 ∧ X xs L d 84 (155, lo, .inr (hR h o 12) :: sk, h) res := i_getR k_84_152
theorem e_84_155 {x : Int32} {a0 a1 a2 a3 a5 : Option AV} : X xs L d 84 (155, [a0, a1, a2, a3, some (.inl x), a5], sk, h) res ↔ X xs L d 84 (157, [a0, a1, a2, a3, some (.inl x), a5], .inl x :: sk, h) res := i_iload k_84_155 rfl
theorem e_84_157 {x : Int32} {a0 a2 a3 a4 a5 : Option AV} : X xs L d 84 (157, [a0, some (.inl x), a2, a3, a4, a5], sk, h) res ↔ X xs L d 84 (158, [a0, some (.inl x), a2, a3, a4, a5], .inl x :: sk, h) res := i_iload_n k_84_157 rfl
theorem e_84_158 {o : Nat} {i v : Int32} : X xs L d 84 (158, lo, .inl v :: .inl i :: .inr (some o) :: sk, h) res ↔ (hK h o = 20 ∧ vp_in i (hL h o)) ∧ X xs L d 84 (159, lo, sk, sI h o i.toNatClampNeg (v)) res := i_iastore k_84_158
theorem e_84_159 {x : Int32} {a0 a1 a2 a3 a5 : Option AV} : X xs L d 84 (159, [a0, a1, a2, a3, some (.inl x), a5], sk, h) res ↔ X xs L d 84 (162, [a0, a1, a2, a3, some (.inl (x + 1)), a5], sk, h) res := i_iinc k_84_159 rfl rfl
theorem e_84_162 {x : Int32} {a0 a1 a2 a3 a5 : Option AV} : X xs L d 84 (162, [a0, a1, a2, a3, some (.inl x), a5], sk, h) res ↔ X xs L d 84 (164, [a0, a1, a2, a3, some (.inl x), a5], .inl x :: sk, h) res := i_iload k_84_162 rfl
theorem e_84_164 : X xs L d 84 (164, lo, sk, h) res ↔ X xs L d 84 (166, lo, .inl 6 :: sk, h) res := i_bipush k_84_164
theorem e_84_166 {x y : Int32} : X xs L d 84 (166, lo, .inl y :: .inl x :: sk, h) res ↔ (if x ≤ y then X xs L d 84 (223, lo, sk, h) res else X xs L d 84 (169, lo, sk, h) res) := i_icmp_le k_84_166
theorem e_84_169 : X xs L d 84 (169, lo, sk, h) res ↔ X xs L d 84 (170, lo, .inl 0 :: sk, h) res := i_iconst k_84_169
theorem e_84_170 {v : Int32} : X xs L d 84 (170, lo, [.inl v], h) res ↔ (v = 0 ∨ v = 1) ∧ res = (some (.inl v), h) := i_zret k_84_170 rfl
theorem e_84_171 {x : Option Nat} {a1 a2 a3 a4 a5 : Option AV} : X xs L d 84 (171, [some (.inr x), a1, a2, a3, a4, a5], sk, h) res ↔ X xs L d 84 (172, [some (.inr x), a1, a2, a3, a4, a5], .inr x :: sk, h) res := i_aload_n k_84_171 rfl
theorem e_84_172 {o : Nat} : X xs L d 84 (172, lo, .inr (some o) :: sk, h) res ↔ hK h o = 9 ∧ X xs L d 84 (175, lo, .inr (hR h o 2) :: sk, h) res := i_getR k_84_172
theorem e_84_175 {x : Int32} {a0 a2 a3 a4 a5 : Option AV} : X xs L d 84 (175, [a0, some (.inl x), a2, a3, a4, a5], sk, h) res ↔ X xs L d 84 (176, [a0, some (.inl x), a2, a3, a4, a5], .inl x :: sk, h) res := i_iload_n k_84_175 rfl
theorem e_84_176 {o : Nat} {i : Int32} : X xs L d 84 (176, lo, .inl i :: .inr (some o) :: sk, h) res ↔ (hK h o = 21 ∧ vp_in i (hL h o)) ∧ X xs L d 84 (177, lo, .inl (hI h o i.toNatClampNeg) :: sk, h) res := i_caload k_84_176
theorem e_84_177 : X xs L d 84 (177, lo, sk, h) res ↔ X xs L d 84 (179, lo, .inl 125 :: sk, h) res := i_bipush k_84_177
theorem e_84_179 {x y : Int32} : X xs L d 84 (179, lo, .inl y :: .inl x :: sk, h) res ↔ (if x = y then X xs L d 84 (182, lo, sk, h) res else X xs L d 84 (223, lo, sk, h) res) := i_icmp_ne k_84_179
theorem e_84_182 {x : Int32} {a0 a1 a2 a3 a5 : Option AV} : X xs L d 84 (182, [a0, a1, a2, a3, some (.inl x), a5], sk, h) res ↔ X xs L d 84 (185, [a0, a1, a2, a3, some (.inl (x + (-1))), a5], sk, h) res := i_iinc k_84_182 rfl rfl
theorem e_84_185 {x : Option Nat} {a1 a2 a3 a4 a5 : Option AV} : X xs L d 84 (185, [some (.inr x), a1, a2, a3, a4, a5], sk, h) res ↔ X xs L d 84 (186, [some (.inr x), a1, a2, a3, a4, a5], .inr x :: sk, h) res := i_aload_n k_84_185 rfl
theorem e_84_186 {o : Nat} : X xs L d 84 (186, lo, .inr (some o) :: sk, h) res ↔ hK h o = 9 ∧ X xs L d 84 (189, lo, .inr (hR h o 6) :: sk, h) res := i_getR k_84_186
theorem e_84_189 {x : Int32} {a0 a2 a3 a4 a5 : Option AV} : X xs L d 84 (189, [a0, some (.inl x), a2, a3, a4, a5], sk, h) res ↔ X xs L d 84 (190, [a0, some (.inl x), a2, a3, a4, a5], .inl x :: sk, h) res := i_iload_n k_84_189 rfl
theorem e_84_190 {x : Option Nat} {a1 a2 a3 a4 a5 : Option AV} : X xs L d 84 (190, [some (.inr x), a1, a2, a3, a4, a5], sk, h) res ↔ X xs L d 84 (191, [some (.inr x), a1, a2, a3, a4, a5], .inr x :: sk, h) res := i_aload_n k_84_190 rfl
theorem e_84_191 {o : Nat} : X xs L d 84 (191, lo, .inr (some o) :: sk, h) res ↔ hK h o = 9 ∧ X xs L d 84 (194, lo, .inr (hR h o 12) :: sk, h) res := i_getR k_84_191
theorem e_84_194 {x : Int32} {a0 a1 a2 a3 a5 : Option AV} : X xs L d 84 (194, [a0, a1, a2, a3, some (.inl x), a5], sk, h) res ↔ X xs L d 84 (196, [a0, a1, a2, a3, some (.inl x), a5], .inl x :: sk, h) res := i_iload k_84_194 rfl
theorem e_84_196 {o : Nat} {i : Int32} : X xs L d 84 (196, lo, .inl i :: .inr (some o) :: sk, h) res ↔ (hK h o = 20 ∧ vp_in i (hL h o)) ∧ X xs L d 84 (197, lo, .inl (hI h o i.toNatClampNeg) :: sk, h) res := i_iaload k_84_196
theorem e_84_197 {o : Nat} {i v : Int32} : X xs L d 84 (197, lo, .inl v :: .inl i :: .inr (some o) :: sk, h) res ↔ (hK h o = 20 ∧ vp_in i (hL h o)) ∧ X xs L d 84 (198, lo, sk, sI h o i.toNatClampNeg (v)) res := i_iastore k_84_197
theorem e_84_198 {x : Option Nat} {a1 a2 a3 a4 a5 : Option AV} : X xs L d 84 (198, [some (.inr x), a1, a2, a3, a4, a5], sk, h) res ↔ X xs L d 84 (199, [some (.inr x), a1, a2, a3, a4, a5], .inr x :: sk, h) res := i_aload_n k_84_198 rfl
theorem e_84_199 {o : Nat} : X xs L d 84 (199, lo, .inr (some o) :: sk, h) res ↔ hK h o = 9 ∧ X xs L d 84 (202, lo, .inr (hR h o 6) :: sk, h) res := i_getR k_84_199
theorem e_84_202 {x : Option Nat} {a1 a2 a3 a4 a5 : Option AV} : X xs L d 84 (202, [some (.inr x), a1, a2, a3, a4, a5], sk, h) res ↔ X xs L d 84 (203, [some (.inr x), a1, a2, a3, a4, a5], .inr x :: sk, h) res := i_aload_n k_84_202 rfl
theorem e_84_203 {o : Nat} : X xs L d 84 (203, lo, .inr (some o) :: sk, h) res ↔ hK h o = 9 ∧ X xs L d 84 (206, lo, .inr (hR h o 12) :: sk, h) res := i_getR k_84_203
theorem e_84_206 {x : Int32} {a0 a1 a2 a3 a5 : Option AV} : X xs L d 84 (206, [a0, a1, a2, a3, some (.inl x), a5], sk, h) res ↔ X xs L d 84 (208, [a0, a1, a2, a3, some (.inl x), a5], .inl x :: sk, h) res := i_iload k_84_206 rfl
theorem e_84_208 {o : Nat} {i : Int32} : X xs L d 84 (208, lo, .inl i :: .inr (some o) :: sk, h) res ↔ (hK h o = 20 ∧ vp_in i (hL h o)) ∧ X xs L d 84 (209, lo, .inl (hI h o i.toNatClampNeg) :: sk, h) res := i_iaload k_84_208
theorem e_84_209 {x : Int32} {a0 a2 a3 a4 a5 : Option AV} : X xs L d 84 (209, [a0, some (.inl x), a2, a3, a4, a5], sk, h) res ↔ X xs L d 84 (210, [a0, some (.inl x), a2, a3, a4, a5], .inl x :: sk, h) res := i_iload_n k_84_209 rfl
theorem e_84_210 {o : Nat} {i v : Int32} : X xs L d 84 (210, lo, .inl v :: .inl i :: .inr (some o) :: sk, h) res ↔ (hK h o = 20 ∧ vp_in i (hL h o)) ∧ X xs L d 84 (211, lo, sk, sI h o i.toNatClampNeg (v)) res := i_iastore k_84_210
theorem e_84_211 {x : Int32} {a0 a1 a2 a3 a5 : Option AV} : X xs L d 84 (211, [a0, a1, a2, a3, some (.inl x), a5], sk, h) res ↔ X xs L d 84 (213, [a0, a1, a2, a3, some (.inl x), a5], .inl x :: sk, h) res := i_iload k_84_211 rfl
theorem e_84_213 {x : Int32} : X xs L d 84 (213, lo, .inl x :: sk, h) res ↔ (if x ≤ 0 then X xs L d 84 (220, lo, sk, h) res else X xs L d 84 (216, lo, sk, h) res) := i_if_le k_84_213
theorem e_84_216 : X xs L d 84 (216, lo, sk, h) res ↔ X xs L d 84 (217, lo, .inl 1 :: sk, h) res := i_iconst k_84_216
theorem e_84_217 : X xs L d 84 (217, lo, sk, h) res ↔ X xs L d 84 (221, lo, sk, h) res := i_goto k_84_217
theorem e_84_220 : X xs L d 84 (220, lo, sk, h) res ↔ X xs L d 84 (221, lo, .inl 0 :: sk, h) res := i_iconst k_84_220
theorem e_84_221 {x : Int32} {a0 a1 a2 a3 a4 a5 : Option AV} : X xs L d 84 (221, [a0, a1, a2, a3, a4, a5], .inl x :: sk, h) res ↔ X xs L d 84 (223, [a0, a1, a2, a3, a4, some (.inl x)], sk, h) res := i_istore k_84_221 (Nat.le_of_ble_eq_true rfl) rfl
theorem e_84_223 {x : Int32} {a0 a2 a3 a4 a5 : Option AV} : X xs L d 84 (223, [a0, some (.inl x), a2, a3, a4, a5], sk, h) res ↔ X xs L d 84 (226, [a0, some (.inl (x + 1)), a2, a3, a4, a5], sk, h) res := i_iinc k_84_223 rfl rfl
theorem e_84_226 : X xs L d 84 (226, lo, sk, h) res ↔ X xs L d 84 (127, lo, sk, h) res := i_goto k_84_226
theorem e_84_229 {x : Int32} {a0 a1 a2 a3 a4 : Option AV} : X xs L d 84 (229, [a0, a1, a2, a3, a4, some (.inl x)], sk, h) res ↔ X xs L d 84 (231, [a0, a1, a2, a3, a4, some (.inl x)], .inl x :: sk, h) res := i_iload k_84_229 rfl
theorem e_84_231 {x : Int32} : X xs L d 84 (231, lo, .inl x :: sk, h) res ↔ (if x = 0 then X xs L d 84 (236, lo, sk, h) res else X xs L d 84 (234, lo, sk, h) res) := i_if_eq k_84_231
theorem e_84_234 : X xs L d 84 (234, lo, sk, h) res ↔ X xs L d 84 (235, lo, .inl 0 :: sk, h) res := i_iconst k_84_234
theorem e_84_235 {v : Int32} : X xs L d 84 (235, lo, [.inl v], h) res ↔ (v = 0 ∨ v = 1) ∧ res = (some (.inl v), h) := i_zret k_84_235 rfl
theorem e_84_236 : X xs L d 84 (236, lo, sk, h) res ↔ X xs L d 84 (22, lo, sk, h) res := i_goto k_84_236
theorem e_84_239 {x : Option Nat} {a1 a2 a3 a4 a5 : Option AV} : X xs L d 84 (239, [some (.inr x), a1, a2, a3, a4, a5], sk, h) res ↔ X xs L d 84 (240, [some (.inr x), a1, a2, a3, a4, a5], .inr x :: sk, h) res := i_aload_n k_84_239 rfl
theorem e_84_240 {o : Nat} : X xs L d 84 (240, lo, .inr (some o) :: sk, h) res ↔ hK h o = 9 ∧ X xs L d 84 (243, lo, .inr (hR h o 10) :: sk, h) res := i_getR k_84_240
theorem e_84_243 : X xs L d 84 (243, lo, sk, h) res ↔ X xs L d 84 (244, lo, .inl 0 :: sk, h) res := i_iconst k_84_243
theorem e_84_244 {o : Nat} {i : Int32} : X xs L d 84 (244, lo, .inl i :: .inr (some o) :: sk, h) res ↔ (hK h o = 20 ∧ vp_in i (hL h o)) ∧ X xs L d 84 (245, lo, .inl (hI h o i.toNatClampNeg) :: sk, h) res := i_iaload k_84_244
theorem e_84_245 {x : Int32} : X xs L d 84 (245, lo, .inl x :: sk, h) res ↔ (if x ≤ 0 then X xs L d 84 (261, lo, sk, h) res else X xs L d 84 (248, lo, sk, h) res) := i_if_le k_84_245
theorem e_84_248 {x : Option Nat} {a1 a2 a3 a4 a5 : Option AV} : X xs L d 84 (248, [some (.inr x), a1, a2, a3, a4, a5], sk, h) res ↔ X xs L d 84 (249, [some (.inr x), a1, a2, a3, a4, a5], .inr x :: sk, h) res := i_aload_n k_84_248 rfl
theorem e_84_249 {o : Nat} : X xs L d 84 (249, lo, .inr (some o) :: sk, h) res ↔ hK h o = 9 ∧ X xs L d 84 (252, lo, .inr (hR h o 11) :: sk, h) res := i_getR k_84_249
theorem e_84_252 : X xs L d 84 (252, lo, sk, h) res ↔ X xs L d 84 (253, lo, .inl 0 :: sk, h) res := i_iconst k_84_252
theorem e_84_253 {o : Nat} {i : Int32} : X xs L d 84 (253, lo, .inl i :: .inr (some o) :: sk, h) res ↔ (hK h o = 20 ∧ vp_in i (hL h o)) ∧ X xs L d 84 (254, lo, .inl (hI h o i.toNatClampNeg) :: sk, h) res := i_iaload k_84_253
theorem e_84_254 {x : Int32} : X xs L d 84 (254, lo, .inl x :: sk, h) res ↔ (if x = 0 then X xs L d 84 (257, lo, sk, h) res else X xs L d 84 (261, lo, sk, h) res) := i_if_ne k_84_254
theorem e_84_257 : X xs L d 84 (257, lo, sk, h) res ↔ X xs L d 84 (258, lo, .inl 1 :: sk, h) res := i_iconst k_84_257
theorem e_84_258 : X xs L d 84 (258, lo, sk, h) res ↔ X xs L d 84 (262, lo, sk, h) res := i_goto k_84_258
theorem e_84_261 : X xs L d 84 (261, lo, sk, h) res ↔ X xs L d 84 (262, lo, .inl 0 :: sk, h) res := i_iconst k_84_261
theorem e_84_262 {v : Int32} : X xs L d 84 (262, lo, [.inl v], h) res ↔ (v = 0 ∨ v = 1) ∧ res = (some (.inl v), h) := i_zret k_84_262 rfl
theorem k_85_0 : am_cd 85 0 = some (.aload_n 0, 1, [], [])   := rfl
theorem k_85_1 : am_cd 85 1 = some (.getfield 13, 3, [9, 2, 2], [(0, 706)])   := rfl
theorem k_85_4 : am_cd 85 4 = some (.iload_n 1, 1, [], [])   := rfl
theorem k_85_5 : am_cd 85 5 = some (.caload, 1, [], [])   := rfl
theorem k_85_6 : am_cd 85 6 = some (.istore_n 3, 1, [], [])   := rfl
theorem k_85_7 : am_cd 85 7 = some (.aload_n 0, 1, [], [])   := rfl
theorem k_85_8 : am_cd 85 8 = some (.getfield 26, 3, [9, 9, 2], [(0, 713)])   := rfl
theorem k_85_11 : am_cd 85 11 = some (.iload_n 1, 1, [], [])   := rfl
theorem k_85_12 : am_cd 85 12 = some (.aload_n 0, 1, [], [])   := rfl
theorem k_85_13 : am_cd 85 13 = some (.getfield 126, 3, [9, 5, 0], [(0, 709)])   := rfl
theorem k_85_16 : am_cd 85 16 = some (.iastore, 1, [], [])   := rfl
theorem k_85_17 : am_cd 85 17 = some (.aload_n 0, 1, [], [])   := rfl
theorem k_85_18 : am_cd 85 18 = some (.dup, 1, [], [])   := rfl
theorem k_85_19 : am_cd 85 19 = some (.getfield 126, 3, [9, 5, 0], [(0, 709)])   := rfl
theorem k_85_22 : am_cd 85 22 = some (.iconst 1, 1, [], [(1, 0)])   := rfl
theorem k_85_23 : am_cd 85 23 = some (.iadd, 1, [], [])   := rfl
theorem k_85_24 : am_cd 85 24 = some (.putfield 126, 3, [9, 5, 0], [(0, 709)])   := rfl
theorem k_85_27 : am_cd 85 27 = some (.iload_n 3, 1, [], [])   := rfl
theorem k_85_28 : am_cd 85 28 = some (.bipush 126, 2, [], [(126, 0)])   := rfl
theorem k_85_30 : am_cd 85 30 = some (.if_icmp .ne 9, 3, [39], [])   := rfl
theorem k_85_33 : am_cd 85 33 = some (.iload_n 1, 1, [], [])   := rfl
theorem k_85_34 : am_cd 85 34 = some (.iconst 1, 1, [], [(1, 0)])   := rfl
theorem k_85_35 : am_cd 85 35 = some (.iadd, 1, [], [])   := rfl
theorem k_85_36 : am_cd 85 36 = some (.goto 74, 3, [110], [])   := rfl
theorem k_85_39 : am_cd 85 39 = some (.iload_n 3, 1, [], [])   := rfl
theorem k_85_40 : am_cd 85 40 = some (.invokestatic 110, 3, [77, 1], [(0, 869), (0, 870)])   := rfl
theorem k_85_43 : am_cd 85 43 = some (.ifCond .eq 26, 3, [69], [])   := rfl
theorem k_85_46 : am_cd 85 46 = some (.aload_n 0, 1, [], [])   := rfl
theorem k_85_47 : am_cd 85 47 = some (.getfield 13, 3, [9, 2, 2], [(0, 706)])   := rfl
theorem k_85_50 : am_cd 85 50 = some (.iload_n 1, 1, [], [])   := rfl
theorem k_85_51 : am_cd 85 51 = some (.iconst 1, 1, [], [(1, 0)])   := rfl
theorem k_85_52 : am_cd 85 52 = some (.iadd, 1, [], [])   := rfl
theorem k_85_53 : am_cd 85 53 = some (.caload, 1, [], [])   := rfl
theorem k_85_54 : am_cd 85 54 = some (.bipush 61, 2, [], [(61, 0)])   := rfl
theorem k_85_56 : am_cd 85 56 = some (.if_icmp .ne 13, 3, [69], [])   := rfl
theorem k_85_59 : am_cd 85 59 = some (.aload_n 0, 1, [], [])   := rfl
theorem k_85_60 : am_cd 85 60 = some (.iload_n 1, 1, [], [])   := rfl
theorem k_85_61 : am_cd 85 61 = some (.iconst 2, 1, [], [(2, 0)])   := rfl
theorem k_85_62 : am_cd 85 62 = some (.iadd, 1, [], [])   := rfl
theorem k_85_63 : am_cd 85 63 = some (.invokevirtual 129, 3, [83, 2, 9], [(0, 872), (0, 874), (0, 34)])   := rfl
theorem k_85_66 : am_cd 85 66 = some (.goto 44, 3, [110], [])   := rfl
theorem k_85_69 : am_cd 85 69 = some (.iload_n 3, 1, [], [])   := rfl
theorem k_85_70 : am_cd 85 70 = some (.bipush 33, 2, [], [(33, 0)])   := rfl
theorem k_85_72 : am_cd 85 72 = some (.if_icmp .eq 27, 3, [99], [])   := rfl
theorem k_85_75 : am_cd 85 75 = some (.iload_n 3, 1, [], [])   := rfl
theorem k_85_76 : am_cd 85 76 = some (.bipush 94, 2, [], [(94, 0)])   := rfl
theorem k_85_78 : am_cd 85 78 = some (.if_icmp .eq 21, 3, [99], [])   := rfl
theorem k_85_81 : am_cd 85 81 = some (.iload_n 3, 1, [], [])   := rfl
theorem k_85_82 : am_cd 85 82 = some (.bipush 35, 2, [], [(35, 0)])   := rfl
theorem k_85_84 : am_cd 85 84 = some (.if_icmp .eq 15, 3, [99], [])   := rfl
theorem k_85_87 : am_cd 85 87 = some (.iload_n 3, 1, [], [])   := rfl
theorem k_85_88 : am_cd 85 88 = some (.bipush 63, 2, [], [(63, 0)])   := rfl
theorem k_85_90 : am_cd 85 90 = some (.if_icmp .eq 9, 3, [99], [])   := rfl
theorem k_85_93 : am_cd 85 93 = some (.iload_n 3, 1, [], [])   := rfl
theorem k_85_94 : am_cd 85 94 = some (.bipush 64, 2, [], [(64, 0)])   := rfl
theorem k_85_96 : am_cd 85 96 = some (.if_icmp .ne 13, 3, [109], [])   := rfl
theorem k_85_99 : am_cd 85 99 = some (.aload_n 0, 1, [], [])   := rfl
theorem k_85_100 : am_cd 85 100 = some (.iload_n 1, 1, [], [])   := rfl
theorem k_85_101 : am_cd 85 101 = some (.iconst 1, 1, [], [(1, 0)])   := rfl
theorem k_85_102 : am_cd 85 102 = some (.iadd, 1, [], [])   := rfl
theorem k_85_103 : am_cd 85 103 = some (.invokevirtual 129, 3, [83, 2, 9], [(0, 872), (0, 874), (0, 34)])   := rfl
theorem k_85_106 : am_cd 85 106 = some (.goto 4, 3, [110], [])   := rfl
theorem k_85_109 : am_cd 85 109 = some (.iconst (-1), 1, [], [(-1, 0)])   := rfl
theorem k_85_110 : am_cd 85 110 = some (.istore 4, 2, [], [])   := rfl
theorem k_85_112 : am_cd 85 112 = some (.iload 4, 2, [], [])   := rfl
theorem k_85_114 : am_cd 85 114 = some (.ifCond .lt 12, 3, [126], [])   := rfl
theorem k_85_117 : am_cd 85 117 = some (.aload_n 0, 1, [], [])   := rfl
theorem k_85_118 : am_cd 85 118 = some (.getfield 126, 3, [9, 5, 0], [(0, 709)])   := rfl
theorem k_85_121 : am_cd 85 121 = some (.bipush 40, 2, [], [(40, 0)])   := rfl
theorem k_85_123 : am_cd 85 123 = some (.if_icmp .le 5, 3, [128], [])   := rfl
theorem k_85_126 : am_cd 85 126 = some (.iconst (-1), 1, [], [(-1, 0)])   := rfl
theorem k_85_127 : am_cd 85 127 = some (.ireturn, 1, [], [])   := rfl
theorem k_85_128 : am_cd 85 128 = some (.iload_n 3, 1, [], [])   := rfl
theorem k_85_129 : am_cd 85 129 = some (.bipush 126, 2, [], [(126, 0)])   := rfl
theorem k_85_131 : am_cd 85 131 = some (.if_icmp .eq 45, 3, [176], [])   := rfl
theorem k_85_134 : am_cd 85 134 = some (.iload_n 3, 1, [], [])   := rfl
theorem k_85_135 : am_cd 85 135 = some (.bipush 63, 2, [], [(63, 0)])   := rfl
theorem k_85_137 : am_cd 85 137 = some (.if_icmp .eq 39, 3, [176], [])   := rfl
theorem k_85_140 : am_cd 85 140 = some (.iload_n 3, 1, [], [])   := rfl
theorem k_85_141 : am_cd 85 141 = some (.bipush 64, 2, [], [(64, 0)])   := rfl
theorem k_85_143 : am_cd 85 143 = some (.if_icmp .eq 33, 3, [176], [])   := rfl
theorem k_85_146 : am_cd 85 146 = some (.aload_n 0, 1, [], [])   := rfl
theorem k_85_147 : am_cd 85 147 = some (.getfield 13, 3, [9, 2, 2], [(0, 706)])   := rfl
theorem k_85_150 : am_cd 85 150 = some (.iload 4, 2, [], [])   := rfl
theorem k_85_152 : am_cd 85 152 = some (.caload, 1, [], [])   := rfl
theorem k_85_153 : am_cd 85 153 = some (.bipush 59, 2, [], [(59, 0)])   := rfl
theorem k_85_155 : am_cd 85 155 = some (.if_icmp .ne 19, 3, [174], [])   := rfl
theorem k_85_158 : am_cd 85 158 = some (.iload 4, 2, [], [])   := rfl
theorem k_85_160 : am_cd 85 160 = some (.aload_n 0, 1, [], [])   := rfl
theorem k_85_161 : am_cd 85 161 = some (.getfield 123, 3, [9, 3, 0], [(0, 707)])   := rfl
theorem k_85_164 : am_cd 85 164 = some (.if_icmp .ge 10, 3, [174], [])   := rfl
theorem k_85_167 : am_cd 85 167 = some (.iload 4, 2, [], [])   := rfl
theorem k_85_169 : am_cd 85 169 = some (.iconst 1, 1, [], [(1, 0)])   := rfl
theorem k_85_170 : am_cd 85 170 = some (.iadd, 1, [], [])   := rfl
theorem k_85_171 : am_cd 85 171 = some (.goto 4, 3, [175], [])   := rfl
theorem k_85_174 : am_cd 85 174 = some (.iconst (-1), 1, [], [(-1, 0)])   := rfl
theorem k_85_175 : am_cd 85 175 = some (.ireturn, 1, [], [])   := rfl
theorem k_85_176 : am_cd 85 176 = some (.aload_n 0, 1, [], [])   := rfl
theorem k_85_177 : am_cd 85 177 = some (.getfield 13, 3, [9, 2, 2], [(0, 706)])   := rfl
theorem k_85_180 : am_cd 85 180 = some (.iload 4, 2, [], [])   := rfl
theorem k_85_182 : am_cd 85 182 = some (.caload, 1, [], [])   := rfl
theorem k_85_183 : am_cd 85 183 = some (.bipush 123, 2, [], [(123, 0)])   := rfl
theorem k_85_185 : am_cd 85 185 = some (.if_icmp .eq 5, 3, [190], [])   := rfl
theorem k_85_188 : am_cd 85 188 = some (.iconst (-1), 1, [], [(-1, 0)])   := rfl
theorem k_85_189 : am_cd 85 189 = some (.ireturn, 1, [], [])   := rfl
theorem k_85_190 : am_cd 85 190 = some (.aload_n 0, 1, [], [])   := rfl
theorem k_85_191 : am_cd 85 191 = some (.getfield 20, 3, [9, 7, 2], [(0, 711)])   := rfl
theorem k_85_194 : am_cd 85 194 = some (.iload 4, 2, [], [])   := rfl
theorem k_85_196 : am_cd 85 196 = some (.iload_n 3, 1, [], [])   := rfl
theorem k_85_197 : am_cd 85 197 = some (.bipush 63, 2, [], [(63, 0)])   := rfl
theorem k_85_199 : am_cd 85 199 = some (.if_icmp .ne 7, 3, [206], [])   := rfl
theorem k_85_202 : am_cd 85 202 = some (.iconst 1, 1, [], [(1, 0)])   := rfl
theorem k_85_203 : am_cd 85 203 = some (.goto 14, 3, [217], [])   := rfl
theorem k_85_206 : am_cd 85 206 = some (.iload_n 3, 1, [], [])   := rfl
theorem k_85_207 : am_cd 85 207 = some (.bipush 64, 2, [], [(64, 0)])   := rfl
theorem k_85_209 : am_cd 85 209 = some (.if_icmp .ne 7, 3, [216], [])   := rfl
theorem k_85_212 : am_cd 85 212 = some (.iconst 2, 1, [], [(2, 0)])   := rfl
theorem k_85_213 : am_cd 85 213 = some (.goto 4, 3, [217], [])   := rfl
theorem k_85_216 : am_cd 85 216 = some (.iconst 3, 1, [], [(3, 0)])   := rfl
theorem k_85_217 : am_cd 85 217 = some (.iastore, 1, [], [])   := rfl
theorem k_85_218 : am_cd 85 218 = some (.aload_n 0, 1, [], [])   := rfl
theorem k_85_219 : am_cd 85 219 = some (.getfield 23, 3, [9, 8, 2], [(0, 712)])   := rfl
theorem k_85_222 : am_cd 85 222 = some (.iload 4, 2, [], [])   := rfl
theorem k_85_224 : am_cd 85 224 = some (.iload_n 1, 1, [], [])   := rfl
theorem k_85_225 : am_cd 85 225 = some (.iastore, 1, [], [])   := rfl
theorem k_85_226 : am_cd 85 226 = some (.aload_n 0, 1, [], [])   := rfl
theorem k_85_227 : am_cd 85 227 = some (.getfield 38, 3, [9, 13, 2], [(0, 717)])   := rfl
theorem k_85_230 : am_cd 85 230 = some (.iload_n 2, 1, [], [])   := rfl
theorem k_85_231 : am_cd 85 231 = some (.iload 4, 2, [], [])   := rfl
theorem k_85_233 : am_cd 85 233 = some (.iastore, 1, [], [])   := rfl
theorem k_85_234 : am_cd 85 234 = some (.iload 4, 2, [], [])   := rfl
theorem k_85_236 : am_cd 85 236 = some (.iconst 1, 1, [], [(1, 0)])   := rfl
theorem k_85_237 : am_cd 85 237 = some (.iadd, 1, [], [])   := rfl
theorem k_85_238 : am_cd 85 238 = some (.ireturn, 1, [], [])   := rfl
theorem e_85_0 {x : Option Nat} {a1 a2 a3 a4 : Option AV} : X xs L d 85 (0, [some (.inr x), a1, a2, a3, a4], sk, h) res ↔ X xs L d 85 (1, [some (.inr x), a1, a2, a3, a4], .inr x :: sk, h) res := i_aload_n k_85_0 rfl
theorem e_85_1 {o : Nat} : X xs L d 85 (1, lo, .inr (some o) :: sk, h) res ↔ hK h o = 9 ∧ X xs L d 85 (4, lo, .inr (hR h o 2) :: sk, h) res := i_getR k_85_1
theorem e_85_4 {x : Int32} {a0 a2 a3 a4 : Option AV} : X xs L d 85 (4, [a0, some (.inl x), a2, a3, a4], sk, h) res ↔ X xs L d 85 (5, [a0, some (.inl x), a2, a3, a4], .inl x :: sk, h) res := i_iload_n k_85_4 rfl
theorem e_85_5 {o : Nat} {i : Int32} : X xs L d 85 (5, lo, .inl i :: .inr (some o) :: sk, h) res ↔ (hK h o = 21 ∧ vp_in i (hL h o)) ∧ X xs L d 85 (6, lo, .inl (hI h o i.toNatClampNeg) :: sk, h) res := i_caload k_85_5
theorem e_85_6 {x : Int32} {a0 a1 a2 a3 a4 : Option AV} : X xs L d 85 (6, [a0, a1, a2, a3, a4], .inl x :: sk, h) res ↔ X xs L d 85 (7, [a0, a1, a2, some (.inl x), a4], sk, h) res := i_istore_n k_85_6 (Nat.le_of_ble_eq_true rfl) rfl
theorem e_85_7 {x : Option Nat} {a1 a2 a3 a4 : Option AV} : X xs L d 85 (7, [some (.inr x), a1, a2, a3, a4], sk, h) res ↔ X xs L d 85 (8, [some (.inr x), a1, a2, a3, a4], .inr x :: sk, h) res := i_aload_n k_85_7 rfl
theorem e_85_8 {o : Nat} : X xs L d 85 (8, lo, .inr (some o) :: sk, h) res ↔ hK h o = 9 ∧ X xs L d 85 (11, lo, .inr (hR h o 9) :: sk, h) res := i_getR k_85_8
theorem e_85_11 {x : Int32} {a0 a2 a3 a4 : Option AV} : X xs L d 85 (11, [a0, some (.inl x), a2, a3, a4], sk, h) res ↔ X xs L d 85 (12, [a0, some (.inl x), a2, a3, a4], .inl x :: sk, h) res := i_iload_n k_85_11 rfl
theorem e_85_12 {x : Option Nat} {a1 a2 a3 a4 : Option AV} : X xs L d 85 (12, [some (.inr x), a1, a2, a3, a4], sk, h) res ↔ X xs L d 85 (13, [some (.inr x), a1, a2, a3, a4], .inr x :: sk, h) res := i_aload_n k_85_12 rfl
theorem e_85_13 {o : Nat} : X xs L d 85 (13, lo, .inr (some o) :: sk, h) res ↔ hK h o = 9 ∧ X xs L d 85 (16, lo, .inl (hI h o 5) :: sk, h) res := i_getI k_85_13
theorem e_85_16 {o : Nat} {i v : Int32} : X xs L d 85 (16, lo, .inl v :: .inl i :: .inr (some o) :: sk, h) res ↔ (hK h o = 20 ∧ vp_in i (hL h o)) ∧ X xs L d 85 (17, lo, sk, sI h o i.toNatClampNeg (v)) res := i_iastore k_85_16
theorem e_85_17 {x : Option Nat} {a1 a2 a3 a4 : Option AV} : X xs L d 85 (17, [some (.inr x), a1, a2, a3, a4], sk, h) res ↔ X xs L d 85 (18, [some (.inr x), a1, a2, a3, a4], .inr x :: sk, h) res := i_aload_n k_85_17 rfl
theorem e_85_18 {v : AV} : X xs L d 85 (18, lo, v :: sk, h) res ↔ X xs L d 85 (19, lo, v :: v :: sk, h) res := i_dup k_85_18
theorem e_85_19 {o : Nat} : X xs L d 85 (19, lo, .inr (some o) :: sk, h) res ↔ hK h o = 9 ∧ X xs L d 85 (22, lo, .inl (hI h o 5) :: sk, h) res := i_getI k_85_19
theorem e_85_22 : X xs L d 85 (22, lo, sk, h) res ↔ X xs L d 85 (23, lo, .inl 1 :: sk, h) res := i_iconst k_85_22
theorem e_85_23 {x y : Int32} : X xs L d 85 (23, lo, .inl y :: .inl x :: sk, h) res ↔ X xs L d 85 (24, lo, .inl (x + y) :: sk, h) res := i_iadd k_85_23
theorem e_85_24 {o : Nat} {v : Int32} : X xs L d 85 (24, lo, .inl v :: .inr (some o) :: sk, h) res ↔ hK h o = 9 ∧ X xs L d 85 (27, lo, sk, sI h o 5 v) res := i_putI k_85_24
theorem e_85_27 {x : Int32} {a0 a1 a2 a4 : Option AV} : X xs L d 85 (27, [a0, a1, a2, some (.inl x), a4], sk, h) res ↔ X xs L d 85 (28, [a0, a1, a2, some (.inl x), a4], .inl x :: sk, h) res := i_iload_n k_85_27 rfl
theorem e_85_28 : X xs L d 85 (28, lo, sk, h) res ↔ X xs L d 85 (30, lo, .inl 126 :: sk, h) res := i_bipush k_85_28
theorem e_85_30 {x y : Int32} : X xs L d 85 (30, lo, .inl y :: .inl x :: sk, h) res ↔ (if x = y then X xs L d 85 (33, lo, sk, h) res else X xs L d 85 (39, lo, sk, h) res) := i_icmp_ne k_85_30
theorem e_85_33 {x : Int32} {a0 a2 a3 a4 : Option AV} : X xs L d 85 (33, [a0, some (.inl x), a2, a3, a4], sk, h) res ↔ X xs L d 85 (34, [a0, some (.inl x), a2, a3, a4], .inl x :: sk, h) res := i_iload_n k_85_33 rfl
theorem e_85_34 : X xs L d 85 (34, lo, sk, h) res ↔ X xs L d 85 (35, lo, .inl 1 :: sk, h) res := i_iconst k_85_34
theorem e_85_35 {x y : Int32} : X xs L d 85 (35, lo, .inl y :: .inl x :: sk, h) res ↔ X xs L d 85 (36, lo, .inl (x + y) :: sk, h) res := i_iadd k_85_35
theorem e_85_36 : X xs L d 85 (36, lo, sk, h) res ↔ X xs L d 85 (110, lo, sk, h) res := i_goto k_85_36
theorem e_85_39 {x : Int32} {a0 a1 a2 a4 : Option AV} : X xs L d 85 (39, [a0, a1, a2, some (.inl x), a4], sk, h) res ↔ X xs L d 85 (40, [a0, a1, a2, some (.inl x), a4], .inl x :: sk, h) res := i_iload_n k_85_39 rfl
theorem e_85_40 {v0 : Int32} (hs : sk.length ≤ 8) : X xs L d 85 (40, lo, .inl v0 :: sk, h) res ↔ ∃ q : Res, Rn xs L d 77 [.inl v0] h q ∧ X xs L d 85 (43, lo, q.1.toList ++ sk, q.2) res := i_callS k_85_40 ⟨Nat.le_add_left 1 sk.length, Nat.le_trans (Nat.add_le_add_right hs 1) (Nat.le_of_eq (Nat.add_comm 8 1))⟩
theorem e_85_43 {x : Int32} : X xs L d 85 (43, lo, .inl x :: sk, h) res ↔ (if x = 0 then X xs L d 85 (69, lo, sk, h) res else X xs L d 85 (46, lo, sk, h) res) := i_if_eq k_85_43
theorem e_85_46 {x : Option Nat} {a1 a2 a3 a4 : Option AV} : X xs L d 85 (46, [some (.inr x), a1, a2, a3, a4], sk, h) res ↔ X xs L d 85 (47, [some (.inr x), a1, a2, a3, a4], .inr x :: sk, h) res := i_aload_n k_85_46 rfl
theorem e_85_47 {o : Nat} : X xs L d 85 (47, lo, .inr (some o) :: sk, h) res ↔ hK h o = 9 ∧ X xs L d 85 (50, lo, .inr (hR h o 2) :: sk, h) res := i_getR k_85_47
theorem e_85_50 {x : Int32} {a0 a2 a3 a4 : Option AV} : X xs L d 85 (50, [a0, some (.inl x), a2, a3, a4], sk, h) res ↔ X xs L d 85 (51, [a0, some (.inl x), a2, a3, a4], .inl x :: sk, h) res := i_iload_n k_85_50 rfl
theorem e_85_51 : X xs L d 85 (51, lo, sk, h) res ↔ X xs L d 85 (52, lo, .inl 1 :: sk, h) res := i_iconst k_85_51
theorem e_85_52 {x y : Int32} : X xs L d 85 (52, lo, .inl y :: .inl x :: sk, h) res ↔ X xs L d 85 (53, lo, .inl (x + y) :: sk, h) res := i_iadd k_85_52
theorem e_85_53 {o : Nat} {i : Int32} : X xs L d 85 (53, lo, .inl i :: .inr (some o) :: sk, h) res ↔ (hK h o = 21 ∧ vp_in i (hL h o)) ∧ X xs L d 85 (54, lo, .inl (hI h o i.toNatClampNeg) :: sk, h) res := i_caload k_85_53
theorem e_85_54 : X xs L d 85 (54, lo, sk, h) res ↔ X xs L d 85 (56, lo, .inl 61 :: sk, h) res := i_bipush k_85_54
theorem e_85_56 {x y : Int32} : X xs L d 85 (56, lo, .inl y :: .inl x :: sk, h) res ↔ (if x = y then X xs L d 85 (59, lo, sk, h) res else X xs L d 85 (69, lo, sk, h) res) := i_icmp_ne k_85_56
theorem e_85_59 {x : Option Nat} {a1 a2 a3 a4 : Option AV} : X xs L d 85 (59, [some (.inr x), a1, a2, a3, a4], sk, h) res ↔ X xs L d 85 (60, [some (.inr x), a1, a2, a3, a4], .inr x :: sk, h) res := i_aload_n k_85_59 rfl
theorem e_85_60 {x : Int32} {a0 a2 a3 a4 : Option AV} : X xs L d 85 (60, [a0, some (.inl x), a2, a3, a4], sk, h) res ↔ X xs L d 85 (61, [a0, some (.inl x), a2, a3, a4], .inl x :: sk, h) res := i_iload_n k_85_60 rfl
theorem e_85_61 : X xs L d 85 (61, lo, sk, h) res ↔ X xs L d 85 (62, lo, .inl 2 :: sk, h) res := i_iconst k_85_61
theorem e_85_62 {x y : Int32} : X xs L d 85 (62, lo, .inl y :: .inl x :: sk, h) res ↔ X xs L d 85 (63, lo, .inl (x + y) :: sk, h) res := i_iadd k_85_62
theorem e_85_63 {o : Nat} {v0 : Int32} (hs : sk.length ≤ 8) : X xs L d 85 (63, lo, .inl v0 :: .inr (some o) :: sk, h) res ↔ hK h o = 9 ∧ ∃ q : Res, Rn xs L d 83 [.inr (some o), .inl v0] h q ∧ X xs L d 85 (66, lo, q.1.toList ++ sk, q.2) res := i_callV k_85_63 rfl ⟨Nat.le_add_left 2 sk.length, Nat.le_trans (Nat.add_le_add_right hs 2) (Nat.le_of_eq (Nat.add_comm 8 2))⟩
theorem e_85_66 : X xs L d 85 (66, lo, sk, h) res ↔ X xs L d 85 (110, lo, sk, h) res := i_goto k_85_66
theorem e_85_69 {x : Int32} {a0 a1 a2 a4 : Option AV} : X xs L d 85 (69, [a0, a1, a2, some (.inl x), a4], sk, h) res ↔ X xs L d 85 (70, [a0, a1, a2, some (.inl x), a4], .inl x :: sk, h) res := i_iload_n k_85_69 rfl
theorem e_85_70 : X xs L d 85 (70, lo, sk, h) res ↔ X xs L d 85 (72, lo, .inl 33 :: sk, h) res := i_bipush k_85_70
theorem e_85_72 {x y : Int32} : X xs L d 85 (72, lo, .inl y :: .inl x :: sk, h) res ↔ (if x = y then X xs L d 85 (99, lo, sk, h) res else X xs L d 85 (75, lo, sk, h) res) := i_icmp_eq k_85_72
theorem e_85_75 {x : Int32} {a0 a1 a2 a4 : Option AV} : X xs L d 85 (75, [a0, a1, a2, some (.inl x), a4], sk, h) res ↔ X xs L d 85 (76, [a0, a1, a2, some (.inl x), a4], .inl x :: sk, h) res := i_iload_n k_85_75 rfl
theorem e_85_76 : X xs L d 85 (76, lo, sk, h) res ↔ X xs L d 85 (78, lo, .inl 94 :: sk, h) res := i_bipush k_85_76
theorem e_85_78 {x y : Int32} : X xs L d 85 (78, lo, .inl y :: .inl x :: sk, h) res ↔ (if x = y then X xs L d 85 (99, lo, sk, h) res else X xs L d 85 (81, lo, sk, h) res) := i_icmp_eq k_85_78
theorem e_85_81 {x : Int32} {a0 a1 a2 a4 : Option AV} : X xs L d 85 (81, [a0, a1, a2, some (.inl x), a4], sk, h) res ↔ X xs L d 85 (82, [a0, a1, a2, some (.inl x), a4], .inl x :: sk, h) res := i_iload_n k_85_81 rfl
theorem e_85_82 : X xs L d 85 (82, lo, sk, h) res ↔ X xs L d 85 (84, lo, .inl 35 :: sk, h) res := i_bipush k_85_82
theorem e_85_84 {x y : Int32} : X xs L d 85 (84, lo, .inl y :: .inl x :: sk, h) res ↔ (if x = y then X xs L d 85 (99, lo, sk, h) res else X xs L d 85 (87, lo, sk, h) res) := i_icmp_eq k_85_84
theorem e_85_87 {x : Int32} {a0 a1 a2 a4 : Option AV} : X xs L d 85 (87, [a0, a1, a2, some (.inl x), a4], sk, h) res ↔ X xs L d 85 (88, [a0, a1, a2, some (.inl x), a4], .inl x :: sk, h) res := i_iload_n k_85_87 rfl
theorem e_85_88 : X xs L d 85 (88, lo, sk, h) res ↔ X xs L d 85 (90, lo, .inl 63 :: sk, h) res := i_bipush k_85_88
theorem e_85_90 {x y : Int32} : X xs L d 85 (90, lo, .inl y :: .inl x :: sk, h) res ↔ (if x = y then X xs L d 85 (99, lo, sk, h) res else X xs L d 85 (93, lo, sk, h) res) := i_icmp_eq k_85_90
theorem e_85_93 {x : Int32} {a0 a1 a2 a4 : Option AV} : X xs L d 85 (93, [a0, a1, a2, some (.inl x), a4], sk, h) res ↔ X xs L d 85 (94, [a0, a1, a2, some (.inl x), a4], .inl x :: sk, h) res := i_iload_n k_85_93 rfl
theorem e_85_94 : X xs L d 85 (94, lo, sk, h) res ↔ X xs L d 85 (96, lo, .inl 64 :: sk, h) res := i_bipush k_85_94
theorem e_85_96 {x y : Int32} : X xs L d 85 (96, lo, .inl y :: .inl x :: sk, h) res ↔ (if x = y then X xs L d 85 (99, lo, sk, h) res else X xs L d 85 (109, lo, sk, h) res) := i_icmp_ne k_85_96
theorem e_85_99 {x : Option Nat} {a1 a2 a3 a4 : Option AV} : X xs L d 85 (99, [some (.inr x), a1, a2, a3, a4], sk, h) res ↔ X xs L d 85 (100, [some (.inr x), a1, a2, a3, a4], .inr x :: sk, h) res := i_aload_n k_85_99 rfl
theorem e_85_100 {x : Int32} {a0 a2 a3 a4 : Option AV} : X xs L d 85 (100, [a0, some (.inl x), a2, a3, a4], sk, h) res ↔ X xs L d 85 (101, [a0, some (.inl x), a2, a3, a4], .inl x :: sk, h) res := i_iload_n k_85_100 rfl
theorem e_85_101 : X xs L d 85 (101, lo, sk, h) res ↔ X xs L d 85 (102, lo, .inl 1 :: sk, h) res := i_iconst k_85_101
theorem e_85_102 {x y : Int32} : X xs L d 85 (102, lo, .inl y :: .inl x :: sk, h) res ↔ X xs L d 85 (103, lo, .inl (x + y) :: sk, h) res := i_iadd k_85_102
theorem e_85_103 {o : Nat} {v0 : Int32} (hs : sk.length ≤ 8) : X xs L d 85 (103, lo, .inl v0 :: .inr (some o) :: sk, h) res ↔ hK h o = 9 ∧ ∃ q : Res, Rn xs L d 83 [.inr (some o), .inl v0] h q ∧ X xs L d 85 (106, lo, q.1.toList ++ sk, q.2) res := i_callV k_85_103 rfl ⟨Nat.le_add_left 2 sk.length, Nat.le_trans (Nat.add_le_add_right hs 2) (Nat.le_of_eq (Nat.add_comm 8 2))⟩
theorem e_85_106 : X xs L d 85 (106, lo, sk, h) res ↔ X xs L d 85 (110, lo, sk, h) res := i_goto k_85_106
theorem e_85_109 : X xs L d 85 (109, lo, sk, h) res ↔ X xs L d 85 (110, lo, .inl (-1) :: sk, h) res := i_iconst k_85_109
theorem e_85_110 {x : Int32} {a0 a1 a2 a3 a4 : Option AV} : X xs L d 85 (110, [a0, a1, a2, a3, a4], .inl x :: sk, h) res ↔ X xs L d 85 (112, [a0, a1, a2, a3, some (.inl x)], sk, h) res := i_istore k_85_110 (Nat.le_of_ble_eq_true rfl) rfl
theorem e_85_112 {x : Int32} {a0 a1 a2 a3 : Option AV} : X xs L d 85 (112, [a0, a1, a2, a3, some (.inl x)], sk, h) res ↔ X xs L d 85 (114, [a0, a1, a2, a3, some (.inl x)], .inl x :: sk, h) res := i_iload k_85_112 rfl
theorem e_85_114 {x : Int32} : X xs L d 85 (114, lo, .inl x :: sk, h) res ↔ (if x < 0 then X xs L d 85 (126, lo, sk, h) res else X xs L d 85 (117, lo, sk, h) res) := i_if_lt k_85_114
theorem e_85_117 {x : Option Nat} {a1 a2 a3 a4 : Option AV} : X xs L d 85 (117, [some (.inr x), a1, a2, a3, a4], sk, h) res ↔ X xs L d 85 (118, [some (.inr x), a1, a2, a3, a4], .inr x :: sk, h) res := i_aload_n k_85_117 rfl
theorem e_85_118 {o : Nat} : X xs L d 85 (118, lo, .inr (some o) :: sk, h) res ↔ hK h o = 9 ∧ X xs L d 85 (121, lo, .inl (hI h o 5) :: sk, h) res := i_getI k_85_118
theorem e_85_121 : X xs L d 85 (121, lo, sk, h) res ↔ X xs L d 85 (123, lo, .inl 40 :: sk, h) res := i_bipush k_85_121
theorem e_85_123 {x y : Int32} : X xs L d 85 (123, lo, .inl y :: .inl x :: sk, h) res ↔ (if x ≤ y then X xs L d 85 (128, lo, sk, h) res else X xs L d 85 (126, lo, sk, h) res) := i_icmp_le k_85_123
theorem e_85_126 : X xs L d 85 (126, lo, sk, h) res ↔ X xs L d 85 (127, lo, .inl (-1) :: sk, h) res := i_iconst k_85_126
theorem e_85_127 {v : Int32} : X xs L d 85 (127, lo, [.inl v], h) res ↔ res = (some (.inl v), h) := i_iret k_85_127 rfl
theorem e_85_128 {x : Int32} {a0 a1 a2 a4 : Option AV} : X xs L d 85 (128, [a0, a1, a2, some (.inl x), a4], sk, h) res ↔ X xs L d 85 (129, [a0, a1, a2, some (.inl x), a4], .inl x :: sk, h) res := i_iload_n k_85_128 rfl
theorem e_85_129 : X xs L d 85 (129, lo, sk, h) res ↔ X xs L d 85 (131, lo, .inl 126 :: sk, h) res := i_bipush k_85_129
theorem e_85_131 {x y : Int32} : X xs L d 85 (131, lo, .inl y :: .inl x :: sk, h) res ↔ (if x = y then X xs L d 85 (176, lo, sk, h) res else X xs L d 85 (134, lo, sk, h) res) := i_icmp_eq k_85_131
theorem e_85_134 {x : Int32} {a0 a1 a2 a4 : Option AV} : X xs L d 85 (134, [a0, a1, a2, some (.inl x), a4], sk, h) res ↔ X xs L d 85 (135, [a0, a1, a2, some (.inl x), a4], .inl x :: sk, h) res := i_iload_n k_85_134 rfl
theorem e_85_135 : X xs L d 85 (135, lo, sk, h) res ↔ X xs L d 85 (137, lo, .inl 63 :: sk, h) res := i_bipush k_85_135
theorem e_85_137 {x y : Int32} : X xs L d 85 (137, lo, .inl y :: .inl x :: sk, h) res ↔ (if x = y then X xs L d 85 (176, lo, sk, h) res else X xs L d 85 (140, lo, sk, h) res) := i_icmp_eq k_85_137
theorem e_85_140 {x : Int32} {a0 a1 a2 a4 : Option AV} : X xs L d 85 (140, [a0, a1, a2, some (.inl x), a4], sk, h) res ↔ X xs L d 85 (141, [a0, a1, a2, some (.inl x), a4], .inl x :: sk, h) res := i_iload_n k_85_140 rfl
theorem e_85_141 : X xs L d 85 (141, lo, sk, h) res ↔ X xs L d 85 (143, lo, .inl 64 :: sk, h) res := i_bipush k_85_141
theorem e_85_143 {x y : Int32} : X xs L d 85 (143, lo, .inl y :: .inl x :: sk, h) res ↔ (if x = y then X xs L d 85 (176, lo, sk, h) res else X xs L d 85 (146, lo, sk, h) res) := i_icmp_eq k_85_143
theorem e_85_146 {x : Option Nat} {a1 a2 a3 a4 : Option AV} : X xs L d 85 (146, [some (.inr x), a1, a2, a3, a4], sk, h) res ↔ X xs L d 85 (147, [some (.inr x), a1, a2, a3, a4], .inr x :: sk, h) res := i_aload_n k_85_146 rfl
theorem e_85_147 {o : Nat} : X xs L d 85 (147, lo, .inr (some o) :: sk, h) res ↔ hK h o = 9 ∧ X xs L d 85 (150, lo, .inr (hR h o 2) :: sk, h) res := i_getR k_85_147
theorem e_85_150 {x : Int32} {a0 a1 a2 a3 : Option AV} : X xs L d 85 (150, [a0, a1, a2, a3, some (.inl x)], sk, h) res ↔ X xs L d 85 (152, [a0, a1, a2, a3, some (.inl x)], .inl x :: sk, h) res := i_iload k_85_150 rfl
theorem e_85_152 {o : Nat} {i : Int32} : X xs L d 85 (152, lo, .inl i :: .inr (some o) :: sk, h) res ↔ (hK h o = 21 ∧ vp_in i (hL h o)) ∧ X xs L d 85 (153, lo, .inl (hI h o i.toNatClampNeg) :: sk, h) res := i_caload k_85_152
theorem e_85_153 : X xs L d 85 (153, lo, sk, h) res ↔ X xs L d 85 (155, lo, .inl 59 :: sk, h) res := i_bipush k_85_153
theorem e_85_155 {x y : Int32} : X xs L d 85 (155, lo, .inl y :: .inl x :: sk, h) res ↔ (if x = y then X xs L d 85 (158, lo, sk, h) res else X xs L d 85 (174, lo, sk, h) res) := i_icmp_ne k_85_155
theorem e_85_158 {x : Int32} {a0 a1 a2 a3 : Option AV} : X xs L d 85 (158, [a0, a1, a2, a3, some (.inl x)], sk, h) res ↔ X xs L d 85 (160, [a0, a1, a2, a3, some (.inl x)], .inl x :: sk, h) res := i_iload k_85_158 rfl
theorem e_85_160 {x : Option Nat} {a1 a2 a3 a4 : Option AV} : X xs L d 85 (160, [some (.inr x), a1, a2, a3, a4], sk, h) res ↔ X xs L d 85 (161, [some (.inr x), a1, a2, a3, a4], .inr x :: sk, h) res := i_aload_n k_85_160 rfl
theorem e_85_161 {o : Nat} : X xs L d 85 (161, lo, .inr (some o) :: sk, h) res ↔ hK h o = 9 ∧ X xs L d 85 (164, lo, .inl (hI h o 3) :: sk, h) res := i_getI k_85_161
theorem e_85_164 {x y : Int32} : X xs L d 85 (164, lo, .inl y :: .inl x :: sk, h) res ↔ (if y ≤ x then X xs L d 85 (174, lo, sk, h) res else X xs L d 85 (167, lo, sk, h) res) := i_icmp_ge k_85_164
theorem e_85_167 {x : Int32} {a0 a1 a2 a3 : Option AV} : X xs L d 85 (167, [a0, a1, a2, a3, some (.inl x)], sk, h) res ↔ X xs L d 85 (169, [a0, a1, a2, a3, some (.inl x)], .inl x :: sk, h) res := i_iload k_85_167 rfl
theorem e_85_169 : X xs L d 85 (169, lo, sk, h) res ↔ X xs L d 85 (170, lo, .inl 1 :: sk, h) res := i_iconst k_85_169
theorem e_85_170 {x y : Int32} : X xs L d 85 (170, lo, .inl y :: .inl x :: sk, h) res ↔ X xs L d 85 (171, lo, .inl (x + y) :: sk, h) res := i_iadd k_85_170
theorem e_85_171 : X xs L d 85 (171, lo, sk, h) res ↔ X xs L d 85 (175, lo, sk, h) res := i_goto k_85_171
theorem e_85_174 : X xs L d 85 (174, lo, sk, h) res ↔ X xs L d 85 (175, lo, .inl (-1) :: sk, h) res := i_iconst k_85_174
theorem e_85_175 {v : Int32} : X xs L d 85 (175, lo, [.inl v], h) res ↔ res = (some (.inl v), h) := i_iret k_85_175 rfl
theorem e_85_176 {x : Option Nat} {a1 a2 a3 a4 : Option AV} : X xs L d 85 (176, [some (.inr x), a1, a2, a3, a4], sk, h) res ↔ X xs L d 85 (177, [some (.inr x), a1, a2, a3, a4], .inr x :: sk, h) res := i_aload_n k_85_176 rfl
theorem e_85_177 {o : Nat} : X xs L d 85 (177, lo, .inr (some o) :: sk, h) res ↔ hK h o = 9 ∧ X xs L d 85 (180, lo, .inr (hR h o 2) :: sk, h) res := i_getR k_85_177
theorem e_85_180 {x : Int32} {a0 a1 a2 a3 : Option AV} : X xs L d 85 (180, [a0, a1, a2, a3, some (.inl x)], sk, h) res ↔ X xs L d 85 (182, [a0, a1, a2, a3, some (.inl x)], .inl x :: sk, h) res := i_iload k_85_180 rfl
theorem e_85_182 {o : Nat} {i : Int32} : X xs L d 85 (182, lo, .inl i :: .inr (some o) :: sk, h) res ↔ (hK h o = 21 ∧ vp_in i (hL h o)) ∧ X xs L d 85 (183, lo, .inl (hI h o i.toNatClampNeg) :: sk, h) res := i_caload k_85_182
theorem e_85_183 : X xs L d 85 (183, lo, sk, h) res ↔ X xs L d 85 (185, lo, .inl 123 :: sk, h) res := i_bipush k_85_183
theorem e_85_185 {x y : Int32} : X xs L d 85 (185, lo, .inl y :: .inl x :: sk, h) res ↔ (if x = y then X xs L d 85 (190, lo, sk, h) res else X xs L d 85 (188, lo, sk, h) res) := i_icmp_eq k_85_185
theorem e_85_188 : X xs L d 85 (188, lo, sk, h) res ↔ X xs L d 85 (189, lo, .inl (-1) :: sk, h) res := i_iconst k_85_188
theorem e_85_189 {v : Int32} : X xs L d 85 (189, lo, [.inl v], h) res ↔ res = (some (.inl v), h) := i_iret k_85_189 rfl
theorem e_85_190 {x : Option Nat} {a1 a2 a3 a4 : Option AV} : X xs L d 85 (190, [some (.inr x), a1, a2, a3, a4], sk, h) res ↔ X xs L d 85 (191, [some (.inr x), a1, a2, a3, a4], .inr x :: sk, h) res := i_aload_n k_85_190 rfl
theorem e_85_191 {o : Nat} : X xs L d 85 (191, lo, .inr (some o) :: sk, h) res ↔ hK h o = 9 ∧ X xs L d 85 (194, lo, .inr (hR h o 7) :: sk, h) res := i_getR k_85_191
theorem e_85_194 {x : Int32} {a0 a1 a2 a3 : Option AV} : X xs L d 85 (194, [a0, a1, a2, a3, some (.inl x)], sk, h) res ↔ X xs L d 85 (196, [a0, a1, a2, a3, some (.inl x)], .inl x :: sk, h) res := i_iload k_85_194 rfl
theorem e_85_196 {x : Int32} {a0 a1 a2 a4 : Option AV} : X xs L d 85 (196, [a0, a1, a2, some (.inl x), a4], sk, h) res ↔ X xs L d 85 (197, [a0, a1, a2, some (.inl x), a4], .inl x :: sk, h) res := i_iload_n k_85_196 rfl
theorem e_85_197 : X xs L d 85 (197, lo, sk, h) res ↔ X xs L d 85 (199, lo, .inl 63 :: sk, h) res := i_bipush k_85_197
theorem e_85_199 {x y : Int32} : X xs L d 85 (199, lo, .inl y :: .inl x :: sk, h) res ↔ (if x = y then X xs L d 85 (202, lo, sk, h) res else X xs L d 85 (206, lo, sk, h) res) := i_icmp_ne k_85_199
theorem e_85_202 : X xs L d 85 (202, lo, sk, h) res ↔ X xs L d 85 (203, lo, .inl 1 :: sk, h) res := i_iconst k_85_202
theorem e_85_203 : X xs L d 85 (203, lo, sk, h) res ↔ X xs L d 85 (217, lo, sk, h) res := i_goto k_85_203
theorem e_85_206 {x : Int32} {a0 a1 a2 a4 : Option AV} : X xs L d 85 (206, [a0, a1, a2, some (.inl x), a4], sk, h) res ↔ X xs L d 85 (207, [a0, a1, a2, some (.inl x), a4], .inl x :: sk, h) res := i_iload_n k_85_206 rfl
theorem e_85_207 : X xs L d 85 (207, lo, sk, h) res ↔ X xs L d 85 (209, lo, .inl 64 :: sk, h) res := i_bipush k_85_207
theorem e_85_209 {x y : Int32} : X xs L d 85 (209, lo, .inl y :: .inl x :: sk, h) res ↔ (if x = y then X xs L d 85 (212, lo, sk, h) res else X xs L d 85 (216, lo, sk, h) res) := i_icmp_ne k_85_209
theorem e_85_212 : X xs L d 85 (212, lo, sk, h) res ↔ X xs L d 85 (213, lo, .inl 2 :: sk, h) res := i_iconst k_85_212
theorem e_85_213 : X xs L d 85 (213, lo, sk, h) res ↔ X xs L d 85 (217, lo, sk, h) res := i_goto k_85_213
theorem e_85_216 : X xs L d 85 (216, lo, sk, h) res ↔ X xs L d 85 (217, lo, .inl 3 :: sk, h) res := i_iconst k_85_216
theorem e_85_217 {o : Nat} {i v : Int32} : X xs L d 85 (217, lo, .inl v :: .inl i :: .inr (some o) :: sk, h) res ↔ (hK h o = 20 ∧ vp_in i (hL h o)) ∧ X xs L d 85 (218, lo, sk, sI h o i.toNatClampNeg (v)) res := i_iastore k_85_217
theorem e_85_218 {x : Option Nat} {a1 a2 a3 a4 : Option AV} : X xs L d 85 (218, [some (.inr x), a1, a2, a3, a4], sk, h) res ↔ X xs L d 85 (219, [some (.inr x), a1, a2, a3, a4], .inr x :: sk, h) res := i_aload_n k_85_218 rfl
theorem e_85_219 {o : Nat} : X xs L d 85 (219, lo, .inr (some o) :: sk, h) res ↔ hK h o = 9 ∧ X xs L d 85 (222, lo, .inr (hR h o 8) :: sk, h) res := i_getR k_85_219
theorem e_85_222 {x : Int32} {a0 a1 a2 a3 : Option AV} : X xs L d 85 (222, [a0, a1, a2, a3, some (.inl x)], sk, h) res ↔ X xs L d 85 (224, [a0, a1, a2, a3, some (.inl x)], .inl x :: sk, h) res := i_iload k_85_222 rfl
theorem e_85_224 {x : Int32} {a0 a2 a3 a4 : Option AV} : X xs L d 85 (224, [a0, some (.inl x), a2, a3, a4], sk, h) res ↔ X xs L d 85 (225, [a0, some (.inl x), a2, a3, a4], .inl x :: sk, h) res := i_iload_n k_85_224 rfl
theorem e_85_225 {o : Nat} {i v : Int32} : X xs L d 85 (225, lo, .inl v :: .inl i :: .inr (some o) :: sk, h) res ↔ (hK h o = 20 ∧ vp_in i (hL h o)) ∧ X xs L d 85 (226, lo, sk, sI h o i.toNatClampNeg (v)) res := i_iastore k_85_225
theorem e_85_226 {x : Option Nat} {a1 a2 a3 a4 : Option AV} : X xs L d 85 (226, [some (.inr x), a1, a2, a3, a4], sk, h) res ↔ X xs L d 85 (227, [some (.inr x), a1, a2, a3, a4], .inr x :: sk, h) res := i_aload_n k_85_226 rfl
theorem e_85_227 {o : Nat} : X xs L d 85 (227, lo, .inr (some o) :: sk, h) res ↔ hK h o = 9 ∧ X xs L d 85 (230, lo, .inr (hR h o 13) :: sk, h) res := i_getR k_85_227
theorem e_85_230 {x : Int32} {a0 a1 a3 a4 : Option AV} : X xs L d 85 (230, [a0, a1, some (.inl x), a3, a4], sk, h) res ↔ X xs L d 85 (231, [a0, a1, some (.inl x), a3, a4], .inl x :: sk, h) res := i_iload_n k_85_230 rfl
theorem e_85_231 {x : Int32} {a0 a1 a2 a3 : Option AV} : X xs L d 85 (231, [a0, a1, a2, a3, some (.inl x)], sk, h) res ↔ X xs L d 85 (233, [a0, a1, a2, a3, some (.inl x)], .inl x :: sk, h) res := i_iload k_85_231 rfl
theorem e_85_233 {o : Nat} {i v : Int32} : X xs L d 85 (233, lo, .inl v :: .inl i :: .inr (some o) :: sk, h) res ↔ (hK h o = 20 ∧ vp_in i (hL h o)) ∧ X xs L d 85 (234, lo, sk, sI h o i.toNatClampNeg (v)) res := i_iastore k_85_233
theorem e_85_234 {x : Int32} {a0 a1 a2 a3 : Option AV} : X xs L d 85 (234, [a0, a1, a2, a3, some (.inl x)], sk, h) res ↔ X xs L d 85 (236, [a0, a1, a2, a3, some (.inl x)], .inl x :: sk, h) res := i_iload k_85_234 rfl
theorem e_85_236 : X xs L d 85 (236, lo, sk, h) res ↔ X xs L d 85 (237, lo, .inl 1 :: sk, h) res := i_iconst k_85_236
theorem e_85_237 {x y : Int32} : X xs L d 85 (237, lo, .inl y :: .inl x :: sk, h) res ↔ X xs L d 85 (238, lo, .inl (x + y) :: sk, h) res := i_iadd k_85_237
theorem e_85_238 {v : Int32} : X xs L d 85 (238, lo, [.inl v], h) res ↔ res = (some (.inl v), h) := i_iret k_85_238 rfl
theorem k_86_0 : am_cd 86 0 = some (.iconst 1, 1, [], [(1, 0)])   := rfl
theorem k_86_1 : am_cd 86 1 = some (.istore_n 2, 1, [], [])   := rfl
theorem k_86_2 : am_cd 86 2 = some (.aload_n 0, 1, [], [])   := rfl
theorem k_86_3 : am_cd 86 3 = some (.getfield 20, 3, [9, 7, 2], [(0, 711)])   := rfl
theorem k_86_6 : am_cd 86 6 = some (.aload_n 0, 1, [], [])   := rfl
theorem k_86_7 : am_cd 86 7 = some (.getfield 29, 3, [9, 10, 2], [(0, 714)])   := rfl
theorem k_86_10 : am_cd 86 10 = some (.iload_n 1, 1, [], [])   := rfl
theorem k_86_11 : am_cd 86 11 = some (.iaload, 1, [], [])   := rfl
theorem k_86_12 : am_cd 86 12 = some (.iconst 0, 1, [], [(0, 0)])   := rfl
theorem k_86_13 : am_cd 86 13 = some (.iastore, 1, [], [])   := rfl
theorem k_86_14 : am_cd 86 14 = some (.aload_n 0, 1, [], [])   := rfl
theorem k_86_15 : am_cd 86 15 = some (.getfield 38, 3, [9, 13, 2], [(0, 717)])   := rfl
theorem k_86_18 : am_cd 86 18 = some (.iconst 0, 1, [], [(0, 0)])   := rfl
theorem k_86_19 : am_cd 86 19 = some (.aload_n 0, 1, [], [])   := rfl
theorem k_86_20 : am_cd 86 20 = some (.getfield 29, 3, [9, 10, 2], [(0, 714)])   := rfl
theorem k_86_23 : am_cd 86 23 = some (.iload_n 1, 1, [], [])   := rfl
theorem k_86_24 : am_cd 86 24 = some (.iaload, 1, [], [])   := rfl
theorem k_86_25 : am_cd 86 25 = some (.iastore, 1, [], [])   := rfl
theorem k_86_26 : am_cd 86 26 = some (.aload_n 0, 1, [], [])   := rfl
theorem k_86_27 : am_cd 86 27 = some (.getfield 29, 3, [9, 10, 2], [(0, 714)])   := rfl
theorem k_86_30 : am_cd 86 30 = some (.iload_n 1, 1, [], [])   := rfl
theorem k_86_31 : am_cd 86 31 = some (.iaload, 1, [], [])   := rfl
theorem k_86_32 : am_cd 86 32 = some (.iconst 1, 1, [], [(1, 0)])   := rfl
theorem k_86_33 : am_cd 86 33 = some (.iadd, 1, [], [])   := rfl
theorem k_86_34 : am_cd 86 34 = some (.istore_n 3, 1, [], [])   := rfl
theorem k_86_35 : am_cd 86 35 = some (.iload_n 2, 1, [], [])   := rfl
theorem k_86_36 : am_cd 86 36 = some (.ifCond .le 131, 3, [167], [])   := rfl
theorem k_86_39 : am_cd 86 39 = some (.aload_n 0, 1, [], [])   := rfl
theorem k_86_40 : am_cd 86 40 = some (.getfield 13, 3, [9, 2, 2], [(0, 706)])   := rfl
theorem k_86_43 : am_cd 86 43 = some (.iload_n 3, 1, [], [])   := rfl
theorem k_86_44 : am_cd 86 44 = some (.caload, 1, [], [])   := rfl
theorem k_86_45 : am_cd 86 45 = some (.bipush 125, 2, [], [(125, 0)])   := rfl
theorem k_86_47 : am_cd 86 47 = some (.if_icmp .ne 77, 3, [124], [])   := rfl
theorem k_86_50 : am_cd 86 50 = some (.iinc 2 (-1), 3, [], [(-1, 0)])   := rfl
theorem k_86_53 : am_cd 86 53 = some (.aload_n 0, 1, [], [])   := rfl
theorem k_86_54 : am_cd 86 54 = some (.getfield 38, 3, [9, 13, 2], [(0, 717)])   := rfl
theorem k_86_57 : am_cd 86 57 = some (.iload_n 2, 1, [], [])   := rfl
theorem k_86_58 : am_cd 86 58 = some (.iaload, 1, [], [])   := rfl
theorem k_86_59 : am_cd 86 59 = some (.istore 4, 2, [], [])   := rfl
theorem k_86_61 : am_cd 86 61 = some (.iinc 3 1, 3, [], [(1, 0)])   := rfl
theorem k_86_64 : am_cd 86 64 = some (.aload_n 0, 1, [], [])   := rfl
theorem k_86_65 : am_cd 86 65 = some (.getfield 20, 3, [9, 7, 2], [(0, 711)])   := rfl
theorem k_86_68 : am_cd 86 68 = some (.iload 4, 2, [], [])   := rfl
theorem k_86_70 : am_cd 86 70 = some (.iaload, 1, [], [])   := rfl
theorem k_86_71 : am_cd 86 71 = some (.iconst 3, 1, [], [(3, 0)])   := rfl
theorem k_86_72 : am_cd 86 72 = some (.if_icmp .ne 49, 3, [121], [])   := rfl
theorem k_86_75 : am_cd 86 75 = some (.aload_n 0, 1, [], [])   := rfl
theorem k_86_76 : am_cd 86 76 = some (.getfield 13, 3, [9, 2, 2], [(0, 706)])   := rfl
theorem k_86_79 : am_cd 86 79 = some (.iload_n 3, 1, [], [])   := rfl
theorem k_86_80 : am_cd 86 80 = some (.caload, 1, [], [])   := rfl
theorem k_86_81 : am_cd 86 81 = some (.bipush 123, 2, [], [(123, 0)])   := rfl
theorem k_86_83 : am_cd 86 83 = some (.if_icmp .eq 5, 3, [88], [])   := rfl
theorem k_86_86 : am_cd 86 86 = some (.iconst 0, 1, [], [(0, 0)])   := rfl
theorem k_86_87 : am_cd 86 87 = some (.ireturn, 1, [], [])   := rfl
theorem k_86_88 : am_cd 86 88 = some (.aload_n 0, 1, [], [])   := rfl
theorem k_86_89 : am_cd 86 89 = some (.getfield 20, 3, [9, 7, 2], [(0, 711)])   := rfl
theorem k_86_92 : am_cd 86 92 = some (.iload_n 3, 1, [], [])   := rfl
theorem k_86_93 : am_cd 86 93 = some (.iconst 4, 1, [], [(4, 0)])   := rfl
theorem k_86_94 : am_cd 86 94 = some (.iastore, 1, [], [])   := rfl
theorem k_86_95 : am_cd 86 95 = some (.aload_n 0, 1, [], [])   := rfl
theorem k_86_96 : am_cd 86 96 = some (.getfield 23, 3, [9, 8, 2], [(0, 712)])   := rfl
theorem k_86_99 : am_cd 86 99 = some (.iload_n 3, 1, [], [])   := rfl
theorem k_86_100 : am_cd 86 100 = some (.aload_n 0, 1, [], [])   := rfl
theorem k_86_101 : am_cd 86 101 = some (.getfield 23, 3, [9, 8, 2], [(0, 712)])   := rfl
theorem k_86_104 : am_cd 86 104 = some (.iload 4, 2, [], [])   := rfl
theorem k_86_106 : am_cd 86 106 = some (.iaload, 1, [], [])   := rfl
theorem k_86_107 : am_cd 86 107 = some (.iastore, 1, [], [])   := rfl
theorem k_86_108 : am_cd 86 108 = some (.aload_n 0, 1, [], [])   := rfl
theorem k_86_109 : am_cd 86 109 = some (.getfield 38, 3, [9, 13, 2], [(0, 717)])   := rfl
theorem k_86_112 : am_cd 86 112 = some (.iload_n 2, 1, [], [])   := rfl
theorem k_86_113 : am_cd 86 113 = some (.iload_n 3, 1, [], [])   := rfl
theorem k_86_114 : am_cd 86 114 = some (.iastore, 1, [], [])   := rfl
theorem k_86_115 : am_cd 86 115 = some (.iinc 2 1, 3, [], [(1, 0)])   := rfl
theorem k_86_118 : am_cd 86 118 = some (.iinc 3 1, 3, [], [(1, 0)])   := rfl
theorem k_86_121 : am_cd 86 121 = some (.goto (-86), 3, [35], [])   := rfl
theorem k_86_124 : am_cd 86 124 = some (.aload_n 0, 1, [], [])   := rfl
theorem k_86_125 : am_cd 86 125 = some (.iload_n 3, 1, [], [])   := rfl
theorem k_86_126 : am_cd 86 126 = some (.iload_n 2, 1, [], [])   := rfl
theorem k_86_127 : am_cd 86 127 = some (.invokevirtual 133, 3, [85, 3, 9], [(0, 865), (0, 867), (0, 33)])   := rfl
theorem k_86_130 : am_cd 86 130 = some (.istore 4, 2, [], [])   := rfl
theorem k_86_132 : am_cd 86 132 = some (.iload 4, 2, [], [])   := rfl
theorem k_86_134 : am_cd 86 134 = some (.ifCond .ge 5, 3, [139], [])   := rfl
theorem k_86_137 : am_cd 86 137 = some (.iconst 0, 1, [], [(0, 0)])   := rfl
theorem k_86_138 : am_cd 86 138 = some (.ireturn, 1, [], [])   := rfl
theorem k_86_139 : am_cd 86 139 = some (.aload_n 0, 1, [], [])   := rfl
theorem k_86_140 : am_cd 86 140 = some (.getfield 13, 3, [9, 2, 2], [(0, 706)])   := rfl
theorem k_86_143 : am_cd 86 143 = some (.iload 4, 2, [], [])   := rfl
theorem k_86_145 : am_cd 86 145 = some (.iconst 1, 1, [], [(1, 0)])   := rfl
theorem k_86_146 : am_cd 86 146 = some (.isub, 1, [], [])   := rfl
theorem k_86_147 : am_cd 86 147 = some (.caload, 1, [], [])   := rfl
theorem k_86_148 : am_cd 86 148 = some (.bipush 123, 2, [], [(123, 0)])   := rfl
theorem k_86_150 : am_cd 86 150 = some (.if_icmp .ne 9, 3, [159], [])   := rfl
theorem k_86_153 : am_cd 86 153 = some (.iload_n 2, 1, [], [])   := rfl
theorem k_86_154 : am_cd 86 154 = some (.iconst 1, 1, [], [(1, 0)])   := rfl
theorem k_86_155 : am_cd 86 155 = some (.iadd, 1, [], [])   := rfl
theorem k_86_156 : am_cd 86 156 = some (.goto 4, 3, [160], [])   := rfl
theorem k_86_159 : am_cd 86 159 = some (.iload_n 2, 1, [], [])   := rfl
theorem k_86_160 : am_cd 86 160 = some (.istore_n 2, 1, [], [])   := rfl
theorem k_86_161 : am_cd 86 161 = some (.iload 4, 2, [], [])   := rfl
theorem k_86_163 : am_cd 86 163 = some (.istore_n 3, 1, [], [])   := rfl
theorem k_86_164 : am_cd 86 164 = some (.goto (-129), 3, [35], [])   := rfl
theorem k_86_167 : am_cd 86 167 = some (.iconst 1, 1, [], [(1, 0)])   := rfl
theorem k_86_168 : am_cd 86 168 = some (.ireturn, 1, [], [])   := rfl
theorem e_86_0 : X xs L d 86 (0, lo, sk, h) res ↔ X xs L d 86 (1, lo, .inl 1 :: sk, h) res := i_iconst k_86_0
theorem e_86_1 {x : Int32} {a0 a1 a2 a3 a4 : Option AV} : X xs L d 86 (1, [a0, a1, a2, a3, a4], .inl x :: sk, h) res ↔ X xs L d 86 (2, [a0, a1, some (.inl x), a3, a4], sk, h) res := i_istore_n k_86_1 (Nat.le_of_ble_eq_true rfl) rfl
theorem e_86_2 {x : Option Nat} {a1 a2 a3 a4 : Option AV} : X xs L d 86 (2, [some (.inr x), a1, a2, a3, a4], sk, h) res ↔ X xs L d 86 (3, [some (.inr x), a1, a2, a3, a4], .inr x :: sk, h) res := i_aload_n k_86_2 rfl
theorem e_86_3 {o : Nat} : X xs L d 86 (3, lo, .inr (some o) :: sk, h) res ↔ hK h o = 9 ∧ X xs L d 86 (6, lo, .inr (hR h o 7) :: sk, h) res := i_getR k_86_3
theorem e_86_6 {x : Option Nat} {a1 a2 a3 a4 : Option AV} : X xs L d 86 (6, [some (.inr x), a1, a2, a3, a4], sk, h) res ↔ X xs L d 86 (7, [some (.inr x), a1, a2, a3, a4], .inr x :: sk, h) res := i_aload_n k_86_6 rfl
theorem e_86_7 {o : Nat} : X xs L d 86 (7, lo, .inr (some o) :: sk, h) res ↔ hK h o = 9 ∧ X xs L d 86 (10, lo, .inr (hR h o 10) :: sk, h) res := i_getR k_86_7
theorem e_86_10 {x : Int32} {a0 a2 a3 a4 : Option AV} : X xs L d 86 (10, [a0, some (.inl x), a2, a3, a4], sk, h) res ↔ X xs L d 86 (11, [a0, some (.inl x), a2, a3, a4], .inl x :: sk, h) res := i_iload_n k_86_10 rfl
theorem e_86_11 {o : Nat} {i : Int32} : X xs L d 86 (11, lo, .inl i :: .inr (some o) :: sk, h) res ↔ (hK h o = 20 ∧ vp_in i (hL h o)) ∧ X xs L d 86 (12, lo, .inl (hI h o i.toNatClampNeg) :: sk, h) res := i_iaload k_86_11
theorem e_86_12 : X xs L d 86 (12, lo, sk, h) res ↔ X xs L d 86 (13, lo, .inl 0 :: sk, h) res := i_iconst k_86_12
theorem e_86_13 {o : Nat} {i v : Int32} : X xs L d 86 (13, lo, .inl v :: .inl i :: .inr (some o) :: sk, h) res ↔ (hK h o = 20 ∧ vp_in i (hL h o)) ∧ X xs L d 86 (14, lo, sk, sI h o i.toNatClampNeg (v)) res := i_iastore k_86_13
theorem e_86_14 {x : Option Nat} {a1 a2 a3 a4 : Option AV} : X xs L d 86 (14, [some (.inr x), a1, a2, a3, a4], sk, h) res ↔ X xs L d 86 (15, [some (.inr x), a1, a2, a3, a4], .inr x :: sk, h) res := i_aload_n k_86_14 rfl
theorem e_86_15 {o : Nat} : X xs L d 86 (15, lo, .inr (some o) :: sk, h) res ↔ hK h o = 9 ∧ X xs L d 86 (18, lo, .inr (hR h o 13) :: sk, h) res := i_getR k_86_15
theorem e_86_18 : X xs L d 86 (18, lo, sk, h) res ↔ X xs L d 86 (19, lo, .inl 0 :: sk, h) res := i_iconst k_86_18
theorem e_86_19 {x : Option Nat} {a1 a2 a3 a4 : Option AV} : X xs L d 86 (19, [some (.inr x), a1, a2, a3, a4], sk, h) res ↔ X xs L d 86 (20, [some (.inr x), a1, a2, a3, a4], .inr x :: sk, h) res := i_aload_n k_86_19 rfl
theorem e_86_20 {o : Nat} : X xs L d 86 (20, lo, .inr (some o) :: sk, h) res ↔ hK h o = 9 ∧ X xs L d 86 (23, lo, .inr (hR h o 10) :: sk, h) res := i_getR k_86_20
theorem e_86_23 {x : Int32} {a0 a2 a3 a4 : Option AV} : X xs L d 86 (23, [a0, some (.inl x), a2, a3, a4], sk, h) res ↔ X xs L d 86 (24, [a0, some (.inl x), a2, a3, a4], .inl x :: sk, h) res := i_iload_n k_86_23 rfl
theorem e_86_24 {o : Nat} {i : Int32} : X xs L d 86 (24, lo, .inl i :: .inr (some o) :: sk, h) res ↔ (hK h o = 20 ∧ vp_in i (hL h o)) ∧ X xs L d 86 (25, lo, .inl (hI h o i.toNatClampNeg) :: sk, h) res := i_iaload k_86_24
theorem e_86_25 {o : Nat} {i v : Int32} : X xs L d 86 (25, lo, .inl v :: .inl i :: .inr (some o) :: sk, h) res ↔ (hK h o = 20 ∧ vp_in i (hL h o)) ∧ X xs L d 86 (26, lo, sk, sI h o i.toNatClampNeg (v)) res := i_iastore k_86_25
theorem e_86_26 {x : Option Nat} {a1 a2 a3 a4 : Option AV} : X xs L d 86 (26, [some (.inr x), a1, a2, a3, a4], sk, h) res ↔ X xs L d 86 (27, [some (.inr x), a1, a2, a3, a4], .inr x :: sk, h) res := i_aload_n k_86_26 rfl
theorem e_86_27 {o : Nat} : X xs L d 86 (27, lo, .inr (some o) :: sk, h) res ↔ hK h o = 9 ∧ X xs L d 86 (30, lo, .inr (hR h o 10) :: sk, h) res := i_getR k_86_27
theorem e_86_30 {x : Int32} {a0 a2 a3 a4 : Option AV} : X xs L d 86 (30, [a0, some (.inl x), a2, a3, a4], sk, h) res ↔ X xs L d 86 (31, [a0, some (.inl x), a2, a3, a4], .inl x :: sk, h) res := i_iload_n k_86_30 rfl
theorem e_86_31 {o : Nat} {i : Int32} : X xs L d 86 (31, lo, .inl i :: .inr (some o) :: sk, h) res ↔ (hK h o = 20 ∧ vp_in i (hL h o)) ∧ X xs L d 86 (32, lo, .inl (hI h o i.toNatClampNeg) :: sk, h) res := i_iaload k_86_31
theorem e_86_32 : X xs L d 86 (32, lo, sk, h) res ↔ X xs L d 86 (33, lo, .inl 1 :: sk, h) res := i_iconst k_86_32
theorem e_86_33 {x y : Int32} : X xs L d 86 (33, lo, .inl y :: .inl x :: sk, h) res ↔ X xs L d 86 (34, lo, .inl (x + y) :: sk, h) res := i_iadd k_86_33
theorem e_86_34 {x : Int32} {a0 a1 a2 a3 a4 : Option AV} : X xs L d 86 (34, [a0, a1, a2, a3, a4], .inl x :: sk, h) res ↔ X xs L d 86 (35, [a0, a1, a2, some (.inl x), a4], sk, h) res := i_istore_n k_86_34 (Nat.le_of_ble_eq_true rfl) rfl
theorem e_86_35 {x : Int32} {a0 a1 a3 a4 : Option AV} : X xs L d 86 (35, [a0, a1, some (.inl x), a3, a4], sk, h) res ↔ X xs L d 86 (36, [a0, a1, some (.inl x), a3, a4], .inl x :: sk, h) res := i_iload_n k_86_35 rfl
theorem e_86_36 {x : Int32} : X xs L d 86 (36, lo, .inl x :: sk, h) res ↔ (if x ≤ 0 then X xs L d 86 (167, lo, sk, h) res else X xs L d 86 (39, lo, sk, h) res) := i_if_le k_86_36
theorem e_86_39 {x : Option Nat} {a1 a2 a3 a4 : Option AV} : X xs L d 86 (39, [some (.inr x), a1, a2, a3, a4], sk, h) res ↔ X xs L d 86 (40, [some (.inr x), a1, a2, a3, a4], .inr x :: sk, h) res := i_aload_n k_86_39 rfl
theorem e_86_40 {o : Nat} : X xs L d 86 (40, lo, .inr (some o) :: sk, h) res ↔ hK h o = 9 ∧ X xs L d 86 (43, lo, .inr (hR h o 2) :: sk, h) res := i_getR k_86_40
theorem e_86_43 {x : Int32} {a0 a1 a2 a4 : Option AV} : X xs L d 86 (43, [a0, a1, a2, some (.inl x), a4], sk, h) res ↔ X xs L d 86 (44, [a0, a1, a2, some (.inl x), a4], .inl x :: sk, h) res := i_iload_n k_86_43 rfl
theorem e_86_44 {o : Nat} {i : Int32} : X xs L d 86 (44, lo, .inl i :: .inr (some o) :: sk, h) res ↔ (hK h o = 21 ∧ vp_in i (hL h o)) ∧ X xs L d 86 (45, lo, .inl (hI h o i.toNatClampNeg) :: sk, h) res := i_caload k_86_44
theorem e_86_45 : X xs L d 86 (45, lo, sk, h) res ↔ X xs L d 86 (47, lo, .inl 125 :: sk, h) res := i_bipush k_86_45
theorem e_86_47 {x y : Int32} : X xs L d 86 (47, lo, .inl y :: .inl x :: sk, h) res ↔ (if x = y then X xs L d 86 (50, lo, sk, h) res else X xs L d 86 (124, lo, sk, h) res) := i_icmp_ne k_86_47
theorem e_86_50 {x : Int32} {a0 a1 a3 a4 : Option AV} : X xs L d 86 (50, [a0, a1, some (.inl x), a3, a4], sk, h) res ↔ X xs L d 86 (53, [a0, a1, some (.inl (x + (-1))), a3, a4], sk, h) res := i_iinc k_86_50 rfl rfl
theorem e_86_53 {x : Option Nat} {a1 a2 a3 a4 : Option AV} : X xs L d 86 (53, [some (.inr x), a1, a2, a3, a4], sk, h) res ↔ X xs L d 86 (54, [some (.inr x), a1, a2, a3, a4], .inr x :: sk, h) res := i_aload_n k_86_53 rfl
theorem e_86_54 {o : Nat} : X xs L d 86 (54, lo, .inr (some o) :: sk, h) res ↔ hK h o = 9 ∧ X xs L d 86 (57, lo, .inr (hR h o 13) :: sk, h) res := i_getR k_86_54
theorem e_86_57 {x : Int32} {a0 a1 a3 a4 : Option AV} : X xs L d 86 (57, [a0, a1, some (.inl x), a3, a4], sk, h) res ↔ X xs L d 86 (58, [a0, a1, some (.inl x), a3, a4], .inl x :: sk, h) res := i_iload_n k_86_57 rfl
theorem e_86_58 {o : Nat} {i : Int32} : X xs L d 86 (58, lo, .inl i :: .inr (some o) :: sk, h) res ↔ (hK h o = 20 ∧ vp_in i (hL h o)) ∧ X xs L d 86 (59, lo, .inl (hI h o i.toNatClampNeg) :: sk, h) res := i_iaload k_86_58
theorem e_86_59 {x : Int32} {a0 a1 a2 a3 a4 : Option AV} : X xs L d 86 (59, [a0, a1, a2, a3, a4], .inl x :: sk, h) res ↔ X xs L d 86 (61, [a0, a1, a2, a3, some (.inl x)], sk, h) res := i_istore k_86_59 (Nat.le_of_ble_eq_true rfl) rfl
theorem e_86_61 {x : Int32} {a0 a1 a2 a4 : Option AV} : X xs L d 86 (61, [a0, a1, a2, some (.inl x), a4], sk, h) res ↔ X xs L d 86 (64, [a0, a1, a2, some (.inl (x + 1)), a4], sk, h) res := i_iinc k_86_61 rfl rfl
theorem e_86_64 {x : Option Nat} {a1 a2 a3 a4 : Option AV} : X xs L d 86 (64, [some (.inr x), a1, a2, a3, a4], sk, h) res ↔ X xs L d 86 (65, [some (.inr x), a1, a2, a3, a4], .inr x :: sk, h) res := i_aload_n k_86_64 rfl
theorem e_86_65 {o : Nat} : X xs L d 86 (65, lo, .inr (some o) :: sk, h) res ↔ hK h o = 9 ∧ X xs L d 86 (68, lo, .inr (hR h o 7) :: sk, h) res := i_getR k_86_65
theorem e_86_68 {x : Int32} {a0 a1 a2 a3 : Option AV} : X xs L d 86 (68, [a0, a1, a2, a3, some (.inl x)], sk, h) res ↔ X xs L d 86 (70, [a0, a1, a2, a3, some (.inl x)], .inl x :: sk, h) res := i_iload k_86_68 rfl
theorem e_86_70 {o : Nat} {i : Int32} : X xs L d 86 (70, lo, .inl i :: .inr (some o) :: sk, h) res ↔ (hK h o = 20 ∧ vp_in i (hL h o)) ∧ X xs L d 86 (71, lo, .inl (hI h o i.toNatClampNeg) :: sk, h) res := i_iaload k_86_70
theorem e_86_71 : X xs L d 86 (71, lo, sk, h) res ↔ X xs L d 86 (72, lo, .inl 3 :: sk, h) res := i_iconst k_86_71
theorem e_86_72 {x y : Int32} : X xs L d 86 (72, lo, .inl y :: .inl x :: sk, h) res ↔ (if x = y then X xs L d 86 (75, lo, sk, h) res else X xs L d 86 (121, lo, sk, h) res) := i_icmp_ne k_86_72
theorem e_86_75 {x : Option Nat} {a1 a2 a3 a4 : Option AV} : X xs L d 86 (75, [some (.inr x), a1, a2, a3, a4], sk, h) res ↔ X xs L d 86 (76, [some (.inr x), a1, a2, a3, a4], .inr x :: sk, h) res := i_aload_n k_86_75 rfl
theorem e_86_76 {o : Nat} : X xs L d 86 (76, lo, .inr (some o) :: sk, h) res ↔ hK h o = 9 ∧ X xs L d 86 (79, lo, .inr (hR h o 2) :: sk, h) res := i_getR k_86_76
theorem e_86_79 {x : Int32} {a0 a1 a2 a4 : Option AV} : X xs L d 86 (79, [a0, a1, a2, some (.inl x), a4], sk, h) res ↔ X xs L d 86 (80, [a0, a1, a2, some (.inl x), a4], .inl x :: sk, h) res := i_iload_n k_86_79 rfl
theorem e_86_80 {o : Nat} {i : Int32} : X xs L d 86 (80, lo, .inl i :: .inr (some o) :: sk, h) res ↔ (hK h o = 21 ∧ vp_in i (hL h o)) ∧ X xs L d 86 (81, lo, .inl (hI h o i.toNatClampNeg) :: sk, h) res := i_caload k_86_80
theorem e_86_81 : X xs L d 86 (81, lo, sk, h) res ↔ X xs L d 86 (83, lo, .inl 123 :: sk, h) res := i_bipush k_86_81
theorem e_86_83 {x y : Int32} : X xs L d 86 (83, lo, .inl y :: .inl x :: sk, h) res ↔ (if x = y then X xs L d 86 (88, lo, sk, h) res else X xs L d 86 (86, lo, sk, h) res) := i_icmp_eq k_86_83
theorem e_86_86 : X xs L d 86 (86, lo, sk, h) res ↔ X xs L d 86 (87, lo, .inl 0 :: sk, h) res := i_iconst k_86_86
theorem e_86_87 {v : Int32} : X xs L d 86 (87, lo, [.inl v], h) res ↔ (v = 0 ∨ v = 1) ∧ res = (some (.inl v), h) := i_zret k_86_87 rfl
theorem e_86_88 {x : Option Nat} {a1 a2 a3 a4 : Option AV} : X xs L d 86 (88, [some (.inr x), a1, a2, a3, a4], sk, h) res ↔ X xs L d 86 (89, [some (.inr x), a1, a2, a3, a4], .inr x :: sk, h) res := i_aload_n k_86_88 rfl
theorem e_86_89 {o : Nat} : X xs L d 86 (89, lo, .inr (some o) :: sk, h) res ↔ hK h o = 9 ∧ X xs L d 86 (92, lo, .inr (hR h o 7) :: sk, h) res := i_getR k_86_89
theorem e_86_92 {x : Int32} {a0 a1 a2 a4 : Option AV} : X xs L d 86 (92, [a0, a1, a2, some (.inl x), a4], sk, h) res ↔ X xs L d 86 (93, [a0, a1, a2, some (.inl x), a4], .inl x :: sk, h) res := i_iload_n k_86_92 rfl
theorem e_86_93 : X xs L d 86 (93, lo, sk, h) res ↔ X xs L d 86 (94, lo, .inl 4 :: sk, h) res := i_iconst k_86_93
theorem e_86_94 {o : Nat} {i v : Int32} : X xs L d 86 (94, lo, .inl v :: .inl i :: .inr (some o) :: sk, h) res ↔ (hK h o = 20 ∧ vp_in i (hL h o)) ∧ X xs L d 86 (95, lo, sk, sI h o i.toNatClampNeg (v)) res := i_iastore k_86_94
theorem e_86_95 {x : Option Nat} {a1 a2 a3 a4 : Option AV} : X xs L d 86 (95, [some (.inr x), a1, a2, a3, a4], sk, h) res ↔ X xs L d 86 (96, [some (.inr x), a1, a2, a3, a4], .inr x :: sk, h) res := i_aload_n k_86_95 rfl
theorem e_86_96 {o : Nat} : X xs L d 86 (96, lo, .inr (some o) :: sk, h) res ↔ hK h o = 9 ∧ X xs L d 86 (99, lo, .inr (hR h o 8) :: sk, h) res := i_getR k_86_96
theorem e_86_99 {x : Int32} {a0 a1 a2 a4 : Option AV} : X xs L d 86 (99, [a0, a1, a2, some (.inl x), a4], sk, h) res ↔ X xs L d 86 (100, [a0, a1, a2, some (.inl x), a4], .inl x :: sk, h) res := i_iload_n k_86_99 rfl
theorem e_86_100 {x : Option Nat} {a1 a2 a3 a4 : Option AV} : X xs L d 86 (100, [some (.inr x), a1, a2, a3, a4], sk, h) res ↔ X xs L d 86 (101, [some (.inr x), a1, a2, a3, a4], .inr x :: sk, h) res := i_aload_n k_86_100 rfl
theorem e_86_101 {o : Nat} : X xs L d 86 (101, lo, .inr (some o) :: sk, h) res ↔ hK h o = 9 ∧ X xs L d 86 (104, lo, .inr (hR h o 8) :: sk, h) res := i_getR k_86_101
theorem e_86_104 {x : Int32} {a0 a1 a2 a3 : Option AV} : X xs L d 86 (104, [a0, a1, a2, a3, some (.inl x)], sk, h) res ↔ X xs L d 86 (106, [a0, a1, a2, a3, some (.inl x)], .inl x :: sk, h) res := i_iload k_86_104 rfl
theorem e_86_106 {o : Nat} {i : Int32} : X xs L d 86 (106, lo, .inl i :: .inr (some o) :: sk, h) res ↔ (hK h o = 20 ∧ vp_in i (hL h o)) ∧ X xs L d 86 (107, lo, .inl (hI h o i.toNatClampNeg) :: sk, h) res := i_iaload k_86_106
theorem e_86_107 {o : Nat} {i v : Int32} : X xs L d 86 (107, lo, .inl v :: .inl i :: .inr (some o) :: sk, h) res ↔ (hK h o = 20 ∧ vp_in i (hL h o)) ∧ X xs L d 86 (108, lo, sk, sI h o i.toNatClampNeg (v)) res := i_iastore k_86_107
theorem e_86_108 {x : Option Nat} {a1 a2 a3 a4 : Option AV} : X xs L d 86 (108, [some (.inr x), a1, a2, a3, a4], sk, h) res ↔ X xs L d 86 (109, [some (.inr x), a1, a2, a3, a4], .inr x :: sk, h) res := i_aload_n k_86_108 rfl
theorem e_86_109 {o : Nat} : X xs L d 86 (109, lo, .inr (some o) :: sk, h) res ↔ hK h o = 9 ∧ X xs L d 86 (112, lo, .inr (hR h o 13) :: sk, h) res := i_getR k_86_109
theorem e_86_112 {x : Int32} {a0 a1 a3 a4 : Option AV} : X xs L d 86 (112, [a0, a1, some (.inl x), a3, a4], sk, h) res ↔ X xs L d 86 (113, [a0, a1, some (.inl x), a3, a4], .inl x :: sk, h) res := i_iload_n k_86_112 rfl
theorem e_86_113 {x : Int32} {a0 a1 a2 a4 : Option AV} : X xs L d 86 (113, [a0, a1, a2, some (.inl x), a4], sk, h) res ↔ X xs L d 86 (114, [a0, a1, a2, some (.inl x), a4], .inl x :: sk, h) res := i_iload_n k_86_113 rfl
theorem e_86_114 {o : Nat} {i v : Int32} : X xs L d 86 (114, lo, .inl v :: .inl i :: .inr (some o) :: sk, h) res ↔ (hK h o = 20 ∧ vp_in i (hL h o)) ∧ X xs L d 86 (115, lo, sk, sI h o i.toNatClampNeg (v)) res := i_iastore k_86_114
theorem e_86_115 {x : Int32} {a0 a1 a3 a4 : Option AV} : X xs L d 86 (115, [a0, a1, some (.inl x), a3, a4], sk, h) res ↔ X xs L d 86 (118, [a0, a1, some (.inl (x + 1)), a3, a4], sk, h) res := i_iinc k_86_115 rfl rfl
theorem e_86_118 {x : Int32} {a0 a1 a2 a4 : Option AV} : X xs L d 86 (118, [a0, a1, a2, some (.inl x), a4], sk, h) res ↔ X xs L d 86 (121, [a0, a1, a2, some (.inl (x + 1)), a4], sk, h) res := i_iinc k_86_118 rfl rfl
theorem e_86_121 : X xs L d 86 (121, lo, sk, h) res ↔ X xs L d 86 (35, lo, sk, h) res := i_goto k_86_121
theorem e_86_124 {x : Option Nat} {a1 a2 a3 a4 : Option AV} : X xs L d 86 (124, [some (.inr x), a1, a2, a3, a4], sk, h) res ↔ X xs L d 86 (125, [some (.inr x), a1, a2, a3, a4], .inr x :: sk, h) res := i_aload_n k_86_124 rfl
theorem e_86_125 {x : Int32} {a0 a1 a2 a4 : Option AV} : X xs L d 86 (125, [a0, a1, a2, some (.inl x), a4], sk, h) res ↔ X xs L d 86 (126, [a0, a1, a2, some (.inl x), a4], .inl x :: sk, h) res := i_iload_n k_86_125 rfl
theorem e_86_126 {x : Int32} {a0 a1 a3 a4 : Option AV} : X xs L d 86 (126, [a0, a1, some (.inl x), a3, a4], sk, h) res ↔ X xs L d 86 (127, [a0, a1, some (.inl x), a3, a4], .inl x :: sk, h) res := i_iload_n k_86_126 rfl
theorem e_86_127 {o : Nat} {v0 : Int32} {v1 : Int32} (hs : sk.length ≤ 8) : X xs L d 86 (127, lo, .inl v1 :: .inl v0 :: .inr (some o) :: sk, h) res ↔ hK h o = 9 ∧ ∃ q : Res, Rn xs L d 85 [.inr (some o), .inl v0, .inl v1] h q ∧ X xs L d 86 (130, lo, q.1.toList ++ sk, q.2) res := i_callV k_86_127 rfl ⟨Nat.le_add_left 3 sk.length, Nat.le_trans (Nat.add_le_add_right hs 3) (Nat.le_of_eq (Nat.add_comm 8 3))⟩
theorem e_86_130 {x : Int32} {a0 a1 a2 a3 a4 : Option AV} : X xs L d 86 (130, [a0, a1, a2, a3, a4], .inl x :: sk, h) res ↔ X xs L d 86 (132, [a0, a1, a2, a3, some (.inl x)], sk, h) res := i_istore k_86_130 (Nat.le_of_ble_eq_true rfl) rfl
theorem e_86_132 {x : Int32} {a0 a1 a2 a3 : Option AV} : X xs L d 86 (132, [a0, a1, a2, a3, some (.inl x)], sk, h) res ↔ X xs L d 86 (134, [a0, a1, a2, a3, some (.inl x)], .inl x :: sk, h) res := i_iload k_86_132 rfl
theorem e_86_134 {x : Int32} : X xs L d 86 (134, lo, .inl x :: sk, h) res ↔ (if 0 ≤ x then X xs L d 86 (139, lo, sk, h) res else X xs L d 86 (137, lo, sk, h) res) := i_if_ge k_86_134
theorem e_86_137 : X xs L d 86 (137, lo, sk, h) res ↔ X xs L d 86 (138, lo, .inl 0 :: sk, h) res := i_iconst k_86_137
theorem e_86_138 {v : Int32} : X xs L d 86 (138, lo, [.inl v], h) res ↔ (v = 0 ∨ v = 1) ∧ res = (some (.inl v), h) := i_zret k_86_138 rfl
theorem e_86_139 {x : Option Nat} {a1 a2 a3 a4 : Option AV} : X xs L d 86 (139, [some (.inr x), a1, a2, a3, a4], sk, h) res ↔ X xs L d 86 (140, [some (.inr x), a1, a2, a3, a4], .inr x :: sk, h) res := i_aload_n k_86_139 rfl
theorem e_86_140 {o : Nat} : X xs L d 86 (140, lo, .inr (some o) :: sk, h) res ↔ hK h o = 9 ∧ X xs L d 86 (143, lo, .inr (hR h o 2) :: sk, h) res := i_getR k_86_140
theorem e_86_143 {x : Int32} {a0 a1 a2 a3 : Option AV} : X xs L d 86 (143, [a0, a1, a2, a3, some (.inl x)], sk, h) res ↔ X xs L d 86 (145, [a0, a1, a2, a3, some (.inl x)], .inl x :: sk, h) res := i_iload k_86_143 rfl
theorem e_86_145 : X xs L d 86 (145, lo, sk, h) res ↔ X xs L d 86 (146, lo, .inl 1 :: sk, h) res := i_iconst k_86_145
theorem e_86_146 {x y : Int32} : X xs L d 86 (146, lo, .inl y :: .inl x :: sk, h) res ↔ X xs L d 86 (147, lo, .inl (x - y) :: sk, h) res := i_isub k_86_146
theorem e_86_147 {o : Nat} {i : Int32} : X xs L d 86 (147, lo, .inl i :: .inr (some o) :: sk, h) res ↔ (hK h o = 21 ∧ vp_in i (hL h o)) ∧ X xs L d 86 (148, lo, .inl (hI h o i.toNatClampNeg) :: sk, h) res := i_caload k_86_147
theorem e_86_148 : X xs L d 86 (148, lo, sk, h) res ↔ X xs L d 86 (150, lo, .inl 123 :: sk, h) res := i_bipush k_86_148
theorem e_86_150 {x y : Int32} : X xs L d 86 (150, lo, .inl y :: .inl x :: sk, h) res ↔ (if x = y then X xs L d 86 (153, lo, sk, h) res else X xs L d 86 (159, lo, sk, h) res) := i_icmp_ne k_86_150
theorem e_86_153 {x : Int32} {a0 a1 a3 a4 : Option AV} : X xs L d 86 (153, [a0, a1, some (.inl x), a3, a4], sk, h) res ↔ X xs L d 86 (154, [a0, a1, some (.inl x), a3, a4], .inl x :: sk, h) res := i_iload_n k_86_153 rfl
theorem e_86_154 : X xs L d 86 (154, lo, sk, h) res ↔ X xs L d 86 (155, lo, .inl 1 :: sk, h) res := i_iconst k_86_154
theorem e_86_155 {x y : Int32} : X xs L d 86 (155, lo, .inl y :: .inl x :: sk, h) res ↔ X xs L d 86 (156, lo, .inl (x + y) :: sk, h) res := i_iadd k_86_155
theorem e_86_156 : X xs L d 86 (156, lo, sk, h) res ↔ X xs L d 86 (160, lo, sk, h) res := i_goto k_86_156
theorem e_86_159 {x : Int32} {a0 a1 a3 a4 : Option AV} : X xs L d 86 (159, [a0, a1, some (.inl x), a3, a4], sk, h) res ↔ X xs L d 86 (160, [a0, a1, some (.inl x), a3, a4], .inl x :: sk, h) res := i_iload_n k_86_159 rfl
theorem e_86_160 {x : Int32} {a0 a1 a2 a3 a4 : Option AV} : X xs L d 86 (160, [a0, a1, a2, a3, a4], .inl x :: sk, h) res ↔ X xs L d 86 (161, [a0, a1, some (.inl x), a3, a4], sk, h) res := i_istore_n k_86_160 (Nat.le_of_ble_eq_true rfl) rfl
theorem e_86_161 {x : Int32} {a0 a1 a2 a3 : Option AV} : X xs L d 86 (161, [a0, a1, a2, a3, some (.inl x)], sk, h) res ↔ X xs L d 86 (163, [a0, a1, a2, a3, some (.inl x)], .inl x :: sk, h) res := i_iload k_86_161 rfl
theorem e_86_163 {x : Int32} {a0 a1 a2 a3 a4 : Option AV} : X xs L d 86 (163, [a0, a1, a2, a3, a4], .inl x :: sk, h) res ↔ X xs L d 86 (164, [a0, a1, a2, some (.inl x), a4], sk, h) res := i_istore_n k_86_163 (Nat.le_of_ble_eq_true rfl) rfl
theorem e_86_164 : X xs L d 86 (164, lo, sk, h) res ↔ X xs L d 86 (35, lo, sk, h) res := i_goto k_86_164
theorem e_86_167 : X xs L d 86 (167, lo, sk, h) res ↔ X xs L d 86 (168, lo, .inl 1 :: sk, h) res := i_iconst k_86_167
theorem e_86_168 {v : Int32} : X xs L d 86 (168, lo, [.inl v], h) res ↔ (v = 0 ∨ v = 1) ∧ res = (some (.inl v), h) := i_zret k_86_168 rfl
theorem k_87_0 : am_cd 87 0 = some (.aload_n 0, 1, [], [])   := rfl
theorem k_87_1 : am_cd 87 1 = some (.invokevirtual 136, 3, [84, 1, 9], [(0, 854), (0, 856), (0, 31)])   := rfl
theorem k_87_4 : am_cd 87 4 = some (.ifCond .ne 5, 3, [9], [])   := rfl
theorem k_87_7 : am_cd 87 7 = some (.iconst 0, 1, [], [(0, 0)])   := rfl
theorem k_87_8 : am_cd 87 8 = some (.ireturn, 1, [], [])   := rfl
theorem k_87_9 : am_cd 87 9 = some (.aload_n 0, 1, [], [])   := rfl
theorem k_87_10 : am_cd 87 10 = some (.iconst 0, 1, [], [(0, 0)])   := rfl
theorem k_87_11 : am_cd 87 11 = some (.putfield 126, 3, [9, 5, 0], [(0, 709)])   := rfl
theorem k_87_14 : am_cd 87 14 = some (.iconst 0, 1, [], [(0, 0)])   := rfl
theorem k_87_15 : am_cd 87 15 = some (.istore_n 1, 1, [], [])   := rfl
theorem k_87_16 : am_cd 87 16 = some (.iload_n 1, 1, [], [])   := rfl
theorem k_87_17 : am_cd 87 17 = some (.sipush 152, 3, [], [(152, 0)])   := rfl
theorem k_87_20 : am_cd 87 20 = some (.if_icmp .ge 16, 3, [36], [])   := rfl
theorem k_87_23 : am_cd 87 23 = some (.aload_n 0, 1, [], [])   := rfl
theorem k_87_24 : am_cd 87 24 = some (.getfield 26, 3, [9, 9, 2], [(0, 713)])   := rfl
theorem k_87_27 : am_cd 87 27 = some (.iload_n 1, 1, [], [])   := rfl
theorem k_87_28 : am_cd 87 28 = some (.iconst (-1), 1, [], [(-1, 0)])   := rfl
theorem k_87_29 : am_cd 87 29 = some (.iastore, 1, [], [])   := rfl
theorem k_87_30 : am_cd 87 30 = some (.iinc 1 1, 3, [], [(1, 0)])   := rfl
theorem k_87_33 : am_cd 87 33 = some (.goto (-17), 3, [16], [])   := rfl
theorem k_87_36 : am_cd 87 36 = some (.iconst 0, 1, [], [(0, 0)])   := rfl
theorem k_87_37 : am_cd 87 37 = some (.istore_n 1, 1, [], [])   := rfl
theorem k_87_38 : am_cd 87 38 = some (.iload_n 1, 1, [], [])   := rfl
theorem k_87_39 : am_cd 87 39 = some (.aload_n 0, 1, [], [])   := rfl
theorem k_87_40 : am_cd 87 40 = some (.getfield 123, 3, [9, 3, 0], [(0, 707)])   := rfl
theorem k_87_43 : am_cd 87 43 = some (.if_icmp .ge 46, 3, [89], [])   := rfl
theorem k_87_46 : am_cd 87 46 = some (.iconst 0, 1, [], [(0, 0)])   := rfl
theorem k_87_47 : am_cd 87 47 = some (.istore_n 2, 1, [], [])   := rfl
theorem k_87_48 : am_cd 87 48 = some (.iload_n 2, 1, [], [])   := rfl
theorem k_87_49 : am_cd 87 49 = some (.iconst 4, 1, [], [(4, 0)])   := rfl
theorem k_87_50 : am_cd 87 50 = some (.if_icmp .ge 33, 3, [83], [])   := rfl
theorem k_87_53 : am_cd 87 53 = some (.aload_n 0, 1, [], [])   := rfl
theorem k_87_54 : am_cd 87 54 = some (.getfield 29, 3, [9, 10, 2], [(0, 714)])   := rfl
theorem k_87_57 : am_cd 87 57 = some (.iload_n 2, 1, [], [])   := rfl
theorem k_87_58 : am_cd 87 58 = some (.iaload, 1, [], [])   := rfl
theorem k_87_59 : am_cd 87 59 = some (.iload_n 1, 1, [], [])   := rfl
theorem k_87_60 : am_cd 87 60 = some (.if_icmp .ne 17, 3, [77], [])   := rfl
theorem k_87_63 : am_cd 87 63 = some (.iload_n 1, 1, [], [])   := rfl
theorem k_87_64 : am_cd 87 64 = some (.ifCond .le 13, 3, [77], [])   := rfl
theorem k_87_67 : am_cd 87 67 = some (.aload_n 0, 1, [], [])   := rfl
theorem k_87_68 : am_cd 87 68 = some (.iload_n 2, 1, [], [])   := rfl
theorem k_87_69 : am_cd 87 69 = some (.invokevirtual 140, 3, [86, 2, 9], [(0, 861), (0, 863), (0, 32)])   := rfl
theorem k_87_72 : am_cd 87 72 = some (.ifCond .ne 5, 3, [77], [])   := rfl
theorem k_87_75 : am_cd 87 75 = some (.iconst 0, 1, [], [(0, 0)])   := rfl
theorem k_87_76 : am_cd 87 76 = some (.ireturn, 1, [], [])   := rfl
theorem k_87_77 : am_cd 87 77 = some (.iinc 2 1, 3, [], [(1, 0)])   := rfl
theorem k_87_80 : am_cd 87 80 = some (.goto (-32), 3, [48], [])   := rfl
theorem k_87_83 : am_cd 87 83 = some (.iinc 1 1, 3, [], [(1, 0)])   := rfl
theorem k_87_86 : am_cd 87 86 = some (.goto (-48), 3, [38], [])   := rfl
theorem k_87_89 : am_cd 87 89 = some (.iconst 1, 1, [], [(1, 0)])   := rfl
theorem k_87_90 : am_cd 87 90 = some (.ireturn, 1, [], [])   := rfl
theorem e_87_0 {x : Option Nat} {a1 a2 : Option AV} : X xs L d 87 (0, [some (.inr x), a1, a2], sk, h) res ↔ X xs L d 87 (1, [some (.inr x), a1, a2], .inr x :: sk, h) res := i_aload_n k_87_0 rfl
theorem e_87_1 {o : Nat} (hs : sk.length ≤ 8) : X xs L d 87 (1, lo, .inr (some o) :: sk, h) res ↔ hK h o = 9 ∧ ∃ q : Res, Rn xs L d 84 [.inr (some o)] h q ∧ X xs L d 87 (4, lo, q.1.toList ++ sk, q.2) res := i_callV k_87_1 rfl ⟨Nat.le_add_left 1 sk.length, Nat.le_trans (Nat.add_le_add_right hs 1) (Nat.le_of_eq (Nat.add_comm 8 1))⟩
theorem e_87_4 {x : Int32} : X xs L d 87 (4, lo, .inl x :: sk, h) res ↔ (if x = 0 then X xs L d 87 (7, lo, sk, h) res else X xs L d 87 (9, lo, sk, h) res) := i_if_ne k_87_4
theorem e_87_7 : X xs L d 87 (7, lo, sk, h) res ↔ X xs L d 87 (8, lo, .inl 0 :: sk, h) res := i_iconst k_87_7
theorem e_87_8 {v : Int32} : X xs L d 87 (8, lo, [.inl v], h) res ↔ (v = 0 ∨ v = 1) ∧ res = (some (.inl v), h) := i_zret k_87_8 rfl
theorem e_87_9 {x : Option Nat} {a1 a2 : Option AV} : X xs L d 87 (9, [some (.inr x), a1, a2], sk, h) res ↔ X xs L d 87 (10, [some (.inr x), a1, a2], .inr x :: sk, h) res := i_aload_n k_87_9 rfl
theorem e_87_10 : X xs L d 87 (10, lo, sk, h) res ↔ X xs L d 87 (11, lo, .inl 0 :: sk, h) res := i_iconst k_87_10
theorem e_87_11 {o : Nat} {v : Int32} : X xs L d 87 (11, lo, .inl v :: .inr (some o) :: sk, h) res ↔ hK h o = 9 ∧ X xs L d 87 (14, lo, sk, sI h o 5 v) res := i_putI k_87_11
theorem e_87_14 : X xs L d 87 (14, lo, sk, h) res ↔ X xs L d 87 (15, lo, .inl 0 :: sk, h) res := i_iconst k_87_14
theorem e_87_15 {x : Int32} {a0 a1 a2 : Option AV} : X xs L d 87 (15, [a0, a1, a2], .inl x :: sk, h) res ↔ X xs L d 87 (16, [a0, some (.inl x), a2], sk, h) res := i_istore_n k_87_15 (Nat.le_of_ble_eq_true rfl) rfl
theorem e_87_16 {x : Int32} {a0 a2 : Option AV} : X xs L d 87 (16, [a0, some (.inl x), a2], sk, h) res ↔ X xs L d 87 (17, [a0, some (.inl x), a2], .inl x :: sk, h) res := i_iload_n k_87_16 rfl
theorem e_87_17 : X xs L d 87 (17, lo, sk, h) res ↔ X xs L d 87 (20, lo, .inl 152 :: sk, h) res := i_sipush k_87_17
theorem e_87_20 {x y : Int32} : X xs L d 87 (20, lo, .inl y :: .inl x :: sk, h) res ↔ (if y ≤ x then X xs L d 87 (36, lo, sk, h) res else X xs L d 87 (23, lo, sk, h) res) := i_icmp_ge k_87_20
theorem e_87_23 {x : Option Nat} {a1 a2 : Option AV} : X xs L d 87 (23, [some (.inr x), a1, a2], sk, h) res ↔ X xs L d 87 (24, [some (.inr x), a1, a2], .inr x :: sk, h) res := i_aload_n k_87_23 rfl
theorem e_87_24 {o : Nat} : X xs L d 87 (24, lo, .inr (some o) :: sk, h) res ↔ hK h o = 9 ∧ X xs L d 87 (27, lo, .inr (hR h o 9) :: sk, h) res := i_getR k_87_24
theorem e_87_27 {x : Int32} {a0 a2 : Option AV} : X xs L d 87 (27, [a0, some (.inl x), a2], sk, h) res ↔ X xs L d 87 (28, [a0, some (.inl x), a2], .inl x :: sk, h) res := i_iload_n k_87_27 rfl
theorem e_87_28 : X xs L d 87 (28, lo, sk, h) res ↔ X xs L d 87 (29, lo, .inl (-1) :: sk, h) res := i_iconst k_87_28
theorem e_87_29 {o : Nat} {i v : Int32} : X xs L d 87 (29, lo, .inl v :: .inl i :: .inr (some o) :: sk, h) res ↔ (hK h o = 20 ∧ vp_in i (hL h o)) ∧ X xs L d 87 (30, lo, sk, sI h o i.toNatClampNeg (v)) res := i_iastore k_87_29
theorem e_87_30 {x : Int32} {a0 a2 : Option AV} : X xs L d 87 (30, [a0, some (.inl x), a2], sk, h) res ↔ X xs L d 87 (33, [a0, some (.inl (x + 1)), a2], sk, h) res := i_iinc k_87_30 rfl rfl
theorem e_87_33 : X xs L d 87 (33, lo, sk, h) res ↔ X xs L d 87 (16, lo, sk, h) res := i_goto k_87_33
theorem e_87_36 : X xs L d 87 (36, lo, sk, h) res ↔ X xs L d 87 (37, lo, .inl 0 :: sk, h) res := i_iconst k_87_36
theorem e_87_37 {x : Int32} {a0 a1 a2 : Option AV} : X xs L d 87 (37, [a0, a1, a2], .inl x :: sk, h) res ↔ X xs L d 87 (38, [a0, some (.inl x), a2], sk, h) res := i_istore_n k_87_37 (Nat.le_of_ble_eq_true rfl) rfl
theorem e_87_38 {x : Int32} {a0 a2 : Option AV} : X xs L d 87 (38, [a0, some (.inl x), a2], sk, h) res ↔ X xs L d 87 (39, [a0, some (.inl x), a2], .inl x :: sk, h) res := i_iload_n k_87_38 rfl
theorem e_87_39 {x : Option Nat} {a1 a2 : Option AV} : X xs L d 87 (39, [some (.inr x), a1, a2], sk, h) res ↔ X xs L d 87 (40, [some (.inr x), a1, a2], .inr x :: sk, h) res := i_aload_n k_87_39 rfl
theorem e_87_40 {o : Nat} : X xs L d 87 (40, lo, .inr (some o) :: sk, h) res ↔ hK h o = 9 ∧ X xs L d 87 (43, lo, .inl (hI h o 3) :: sk, h) res := i_getI k_87_40
theorem e_87_43 {x y : Int32} : X xs L d 87 (43, lo, .inl y :: .inl x :: sk, h) res ↔ (if y ≤ x then X xs L d 87 (89, lo, sk, h) res else X xs L d 87 (46, lo, sk, h) res) := i_icmp_ge k_87_43
theorem e_87_46 : X xs L d 87 (46, lo, sk, h) res ↔ X xs L d 87 (47, lo, .inl 0 :: sk, h) res := i_iconst k_87_46
theorem e_87_47 {x : Int32} {a0 a1 a2 : Option AV} : X xs L d 87 (47, [a0, a1, a2], .inl x :: sk, h) res ↔ X xs L d 87 (48, [a0, a1, some (.inl x)], sk, h) res := i_istore_n k_87_47 (Nat.le_of_ble_eq_true rfl) rfl
theorem e_87_48 {x : Int32} {a0 a1 : Option AV} : X xs L d 87 (48, [a0, a1, some (.inl x)], sk, h) res ↔ X xs L d 87 (49, [a0, a1, some (.inl x)], .inl x :: sk, h) res := i_iload_n k_87_48 rfl
theorem e_87_49 : X xs L d 87 (49, lo, sk, h) res ↔ X xs L d 87 (50, lo, .inl 4 :: sk, h) res := i_iconst k_87_49
theorem e_87_50 {x y : Int32} : X xs L d 87 (50, lo, .inl y :: .inl x :: sk, h) res ↔ (if y ≤ x then X xs L d 87 (83, lo, sk, h) res else X xs L d 87 (53, lo, sk, h) res) := i_icmp_ge k_87_50
theorem e_87_53 {x : Option Nat} {a1 a2 : Option AV} : X xs L d 87 (53, [some (.inr x), a1, a2], sk, h) res ↔ X xs L d 87 (54, [some (.inr x), a1, a2], .inr x :: sk, h) res := i_aload_n k_87_53 rfl
theorem e_87_54 {o : Nat} : X xs L d 87 (54, lo, .inr (some o) :: sk, h) res ↔ hK h o = 9 ∧ X xs L d 87 (57, lo, .inr (hR h o 10) :: sk, h) res := i_getR k_87_54
theorem e_87_57 {x : Int32} {a0 a1 : Option AV} : X xs L d 87 (57, [a0, a1, some (.inl x)], sk, h) res ↔ X xs L d 87 (58, [a0, a1, some (.inl x)], .inl x :: sk, h) res := i_iload_n k_87_57 rfl
theorem e_87_58 {o : Nat} {i : Int32} : X xs L d 87 (58, lo, .inl i :: .inr (some o) :: sk, h) res ↔ (hK h o = 20 ∧ vp_in i (hL h o)) ∧ X xs L d 87 (59, lo, .inl (hI h o i.toNatClampNeg) :: sk, h) res := i_iaload k_87_58
theorem e_87_59 {x : Int32} {a0 a2 : Option AV} : X xs L d 87 (59, [a0, some (.inl x), a2], sk, h) res ↔ X xs L d 87 (60, [a0, some (.inl x), a2], .inl x :: sk, h) res := i_iload_n k_87_59 rfl
theorem e_87_60 {x y : Int32} : X xs L d 87 (60, lo, .inl y :: .inl x :: sk, h) res ↔ (if x = y then X xs L d 87 (63, lo, sk, h) res else X xs L d 87 (77, lo, sk, h) res) := i_icmp_ne k_87_60
theorem e_87_63 {x : Int32} {a0 a2 : Option AV} : X xs L d 87 (63, [a0, some (.inl x), a2], sk, h) res ↔ X xs L d 87 (64, [a0, some (.inl x), a2], .inl x :: sk, h) res := i_iload_n k_87_63 rfl
theorem e_87_64 {x : Int32} : X xs L d 87 (64, lo, .inl x :: sk, h) res ↔ (if x ≤ 0 then X xs L d 87 (77, lo, sk, h) res else X xs L d 87 (67, lo, sk, h) res) := i_if_le k_87_64
theorem e_87_67 {x : Option Nat} {a1 a2 : Option AV} : X xs L d 87 (67, [some (.inr x), a1, a2], sk, h) res ↔ X xs L d 87 (68, [some (.inr x), a1, a2], .inr x :: sk, h) res := i_aload_n k_87_67 rfl
theorem e_87_68 {x : Int32} {a0 a1 : Option AV} : X xs L d 87 (68, [a0, a1, some (.inl x)], sk, h) res ↔ X xs L d 87 (69, [a0, a1, some (.inl x)], .inl x :: sk, h) res := i_iload_n k_87_68 rfl
theorem e_87_69 {o : Nat} {v0 : Int32} (hs : sk.length ≤ 8) : X xs L d 87 (69, lo, .inl v0 :: .inr (some o) :: sk, h) res ↔ hK h o = 9 ∧ ∃ q : Res, Rn xs L d 86 [.inr (some o), .inl v0] h q ∧ X xs L d 87 (72, lo, q.1.toList ++ sk, q.2) res := i_callV k_87_69 rfl ⟨Nat.le_add_left 2 sk.length, Nat.le_trans (Nat.add_le_add_right hs 2) (Nat.le_of_eq (Nat.add_comm 8 2))⟩
theorem e_87_72 {x : Int32} : X xs L d 87 (72, lo, .inl x :: sk, h) res ↔ (if x = 0 then X xs L d 87 (75, lo, sk, h) res else X xs L d 87 (77, lo, sk, h) res) := i_if_ne k_87_72
theorem e_87_75 : X xs L d 87 (75, lo, sk, h) res ↔ X xs L d 87 (76, lo, .inl 0 :: sk, h) res := i_iconst k_87_75
theorem e_87_76 {v : Int32} : X xs L d 87 (76, lo, [.inl v], h) res ↔ (v = 0 ∨ v = 1) ∧ res = (some (.inl v), h) := i_zret k_87_76 rfl
theorem e_87_77 {x : Int32} {a0 a1 : Option AV} : X xs L d 87 (77, [a0, a1, some (.inl x)], sk, h) res ↔ X xs L d 87 (80, [a0, a1, some (.inl (x + 1))], sk, h) res := i_iinc k_87_77 rfl rfl
theorem e_87_80 : X xs L d 87 (80, lo, sk, h) res ↔ X xs L d 87 (48, lo, sk, h) res := i_goto k_87_80
theorem e_87_83 {x : Int32} {a0 a2 : Option AV} : X xs L d 87 (83, [a0, some (.inl x), a2], sk, h) res ↔ X xs L d 87 (86, [a0, some (.inl (x + 1)), a2], sk, h) res := i_iinc k_87_83 rfl rfl
theorem e_87_86 : X xs L d 87 (86, lo, sk, h) res ↔ X xs L d 87 (38, lo, sk, h) res := i_goto k_87_86
theorem e_87_89 : X xs L d 87 (89, lo, sk, h) res ↔ X xs L d 87 (90, lo, .inl 1 :: sk, h) res := i_iconst k_87_89
theorem e_87_90 {v : Int32} : X xs L d 87 (90, lo, [.inl v], h) res ↔ (v = 0 ∨ v = 1) ∧ res = (some (.inl v), h) := i_zret k_87_90 rfl
theorem k_88_0 : am_cd 88 0 = some (.aload_n 0, 1, [], [])   := rfl
theorem k_88_1 : am_cd 88 1 = some (.invokevirtual 144, 3, [87, 1, 9], [(0, 850), (0, 852), (0, 30)])   := rfl
theorem k_88_4 : am_cd 88 4 = some (.istore_n 1, 1, [], [])   := rfl
theorem k_88_5 : am_cd 88 5 = some (.return_, 1, [], [])   := rfl
theorem e_88_0 {x : Option Nat} {a1 : Option AV} : X xs L d 88 (0, [some (.inr x), a1], sk, h) res ↔ X xs L d 88 (1, [some (.inr x), a1], .inr x :: sk, h) res := i_aload_n k_88_0 rfl
theorem e_88_1 {o : Nat} (hs : sk.length ≤ 8) : X xs L d 88 (1, lo, .inr (some o) :: sk, h) res ↔ hK h o = 9 ∧ ∃ q : Res, Rn xs L d 87 [.inr (some o)] h q ∧ X xs L d 88 (4, lo, q.1.toList ++ sk, q.2) res := i_callV k_88_1 rfl ⟨Nat.le_add_left 1 sk.length, Nat.le_trans (Nat.add_le_add_right hs 1) (Nat.le_of_eq (Nat.add_comm 8 1))⟩
theorem e_88_4 {x : Int32} {a0 a1 : Option AV} : X xs L d 88 (4, [a0, a1], .inl x :: sk, h) res ↔ X xs L d 88 (5, [a0, some (.inl x)], sk, h) res := i_istore_n k_88_4 (Nat.le_of_ble_eq_true rfl) rfl
theorem e_88_5 : X xs L d 88 (5, lo, [], h) res ↔ res = (none, h) := i_vret k_88_5 rfl
theorem k_89_0 : am_cd 89 0 = some (.aload_n 0, 1, [], [])   := rfl
theorem k_89_1 : am_cd 89 1 = some (.getfield 123, 3, [9, 3, 0], [(0, 707)])   := rfl
theorem k_89_4 : am_cd 89 4 = some (.istore_n 1, 1, [], [])   := rfl
theorem k_89_5 : am_cd 89 5 = some (.iconst 0, 1, [], [(0, 0)])   := rfl
theorem k_89_6 : am_cd 89 6 = some (.istore_n 2, 1, [], [])   := rfl
theorem k_89_7 : am_cd 89 7 = some (.iload_n 2, 1, [], [])   := rfl
theorem k_89_8 : am_cd 89 8 = some (.sipush 152, 3, [], [(152, 0)])   := rfl
theorem k_89_11 : am_cd 89 11 = some (.if_icmp .ge 25, 3, [36], [])   := rfl
theorem k_89_14 : am_cd 89 14 = some (.aload_n 0, 1, [], [])   := rfl
theorem k_89_15 : am_cd 89 15 = some (.getfield 13, 3, [9, 2, 2], [(0, 706)])   := rfl
theorem k_89_18 : am_cd 89 18 = some (.sipush 6232, 3, [], [(6232, 0)])   := rfl
theorem k_89_21 : am_cd 89 21 = some (.iload_n 2, 1, [], [])   := rfl
theorem k_89_22 : am_cd 89 22 = some (.iadd, 1, [], [])   := rfl
theorem k_89_23 : am_cd 89 23 = some (.aload_n 0, 1, [], [])   := rfl
theorem k_89_24 : am_cd 89 24 = some (.getfield 13, 3, [9, 2, 2], [(0, 706)])   := rfl
theorem k_89_27 : am_cd 89 27 = some (.iload_n 2, 1, [], [])   := rfl
theorem k_89_28 : am_cd 89 28 = some (.caload, 1, [], [])   := rfl
theorem k_89_29 : am_cd 89 29 = some (.castore, 1, [], [])   := rfl
theorem k_89_30 : am_cd 89 30 = some (.iinc 2 1, 3, [], [(1, 0)])   := rfl
theorem k_89_33 : am_cd 89 33 = some (.goto (-26), 3, [7], [])   := rfl
theorem k_89_36 : am_cd 89 36 = some (.aload_n 0, 1, [], [])   := rfl
theorem k_89_37 : am_cd 89 37 = some (.iconst 0, 1, [], [(0, 0)])   := rfl
theorem k_89_38 : am_cd 89 38 = some (.invokevirtual 147, 3, [81, 2, 9], [(0, 846), (0, 848), (0, 29)])   := rfl
theorem k_89_41 : am_cd 89 41 = some (.aload_n 0, 1, [], [])   := rfl
theorem k_89_42 : am_cd 89 42 = some (.aload_n 0, 1, [], [])   := rfl
theorem k_89_43 : am_cd 89 43 = some (.getfield 102, 3, [9, 0, 0], [(0, 704)])   := rfl
theorem k_89_46 : am_cd 89 46 = some (.putfield 123, 3, [9, 3, 0], [(0, 707)])   := rfl
theorem k_89_49 : am_cd 89 49 = some (.aload_n 0, 1, [], [])   := rfl
theorem k_89_50 : am_cd 89 50 = some (.iconst 0, 1, [], [(0, 0)])   := rfl
theorem k_89_51 : am_cd 89 51 = some (.putfield 102, 3, [9, 0, 0], [(0, 704)])   := rfl
theorem k_89_54 : am_cd 89 54 = some (.aload_n 0, 1, [], [])   := rfl
theorem k_89_55 : am_cd 89 55 = some (.invokevirtual 144, 3, [87, 1, 9], [(0, 850), (0, 852), (0, 30)])   := rfl
theorem k_89_58 : am_cd 89 58 = some (.ifCond .ne 52, 3, [110], [])   := rfl
theorem k_89_61 : am_cd 89 61 = some (.iconst 0, 1, [], [(0, 0)])   := rfl
theorem k_89_62 : am_cd 89 62 = some (.istore_n 2, 1, [], [])   := rfl
theorem k_89_63 : am_cd 89 63 = some (.iload_n 2, 1, [], [])   := rfl
theorem k_89_64 : am_cd 89 64 = some (.sipush 152, 3, [], [(152, 0)])   := rfl
theorem k_89_67 : am_cd 89 67 = some (.if_icmp .ge 25, 3, [92], [])   := rfl
theorem k_89_70 : am_cd 89 70 = some (.aload_n 0, 1, [], [])   := rfl
theorem k_89_71 : am_cd 89 71 = some (.getfield 13, 3, [9, 2, 2], [(0, 706)])   := rfl
theorem k_89_74 : am_cd 89 74 = some (.iload_n 2, 1, [], [])   := rfl
theorem k_89_75 : am_cd 89 75 = some (.aload_n 0, 1, [], [])   := rfl
theorem k_89_76 : am_cd 89 76 = some (.getfield 13, 3, [9, 2, 2], [(0, 706)])   := rfl
theorem k_89_79 : am_cd 89 79 = some (.sipush 6232, 3, [], [(6232, 0)])   := rfl
theorem k_89_82 : am_cd 89 82 = some (.iload_n 2, 1, [], [])   := rfl
theorem k_89_83 : am_cd 89 83 = some (.iadd, 1, [], [])   := rfl
theorem k_89_84 : am_cd 89 84 = some (.caload, 1, [], [])   := rfl
theorem k_89_85 : am_cd 89 85 = some (.castore, 1, [], [])   := rfl
theorem k_89_86 : am_cd 89 86 = some (.iinc 2 1, 3, [], [(1, 0)])   := rfl
theorem k_89_89 : am_cd 89 89 = some (.goto (-26), 3, [63], [])   := rfl
theorem k_89_92 : am_cd 89 92 = some (.aload_n 0, 1, [], [])   := rfl
theorem k_89_93 : am_cd 89 93 = some (.iload_n 1, 1, [], [])   := rfl
theorem k_89_94 : am_cd 89 94 = some (.putfield 123, 3, [9, 3, 0], [(0, 707)])   := rfl
theorem k_89_97 : am_cd 89 97 = some (.aload_n 0, 1, [], [])   := rfl
theorem k_89_98 : am_cd 89 98 = some (.getfield 151, 3, [9, 4, 1], [(0, 708)])   := rfl
theorem k_89_101 : am_cd 89 101 = some (.ifCond .eq 7, 3, [108], [])   := rfl
theorem k_89_104 : am_cd 89 104 = some (.aload_n 0, 1, [], [])   := rfl
theorem k_89_105 : am_cd 89 105 = some (.invokevirtual 155, 3, [88, 1, 9], [(0, 886), (0, 888), (0, 36)])   := rfl
theorem k_89_108 : am_cd 89 108 = some (.iconst (-1), 1, [], [(-1, 0)])   := rfl
theorem k_89_109 : am_cd 89 109 = some (.ireturn, 1, [], [])   := rfl
theorem k_89_110 : am_cd 89 110 = some (.aload_n 0, 1, [], [])   := rfl
theorem k_89_111 : am_cd 89 111 = some (.iconst 1, 1, [], [(1, 0)])   := rfl
theorem k_89_112 : am_cd 89 112 = some (.putfield 151, 3, [9, 4, 1], [(0, 708)])   := rfl
theorem k_89_115 : am_cd 89 115 = some (.aload_n 0, 1, [], [])   := rfl
theorem k_89_116 : am_cd 89 116 = some (.iconst 0, 1, [], [(0, 0)])   := rfl
theorem k_89_117 : am_cd 89 117 = some (.putfield 158, 3, [9, 30, 0], [(0, 734)])   := rfl
theorem k_89_120 : am_cd 89 120 = some (.aload_n 0, 1, [], [])   := rfl
theorem k_89_121 : am_cd 89 121 = some (.iconst 0, 1, [], [(0, 0)])   := rfl
theorem k_89_122 : am_cd 89 122 = some (.putfield 161, 3, [9, 31, 0], [(0, 735)])   := rfl
theorem k_89_125 : am_cd 89 125 = some (.aload_n 0, 1, [], [])   := rfl
theorem k_89_126 : am_cd 89 126 = some (.iconst 0, 1, [], [(0, 0)])   := rfl
theorem k_89_127 : am_cd 89 127 = some (.putfield 164, 3, [9, 32, 0], [(0, 736)])   := rfl
theorem k_89_130 : am_cd 89 130 = some (.aload_n 0, 1, [], [])   := rfl
theorem k_89_131 : am_cd 89 131 = some (.getfield 47, 3, [9, 16, 2], [(0, 720)])   := rfl
theorem k_89_134 : am_cd 89 134 = some (.iconst 0, 1, [], [(0, 0)])   := rfl
theorem k_89_135 : am_cd 89 135 = some (.iconst 0, 1, [], [(0, 0)])   := rfl
theorem k_89_136 : am_cd 89 136 = some (.iastore, 1, [], [])   := rfl
theorem k_89_137 : am_cd 89 137 = some (.aload_n 0, 1, [], [])   := rfl
theorem k_89_138 : am_cd 89 138 = some (.iconst 0, 1, [], [(0, 0)])   := rfl
theorem k_89_139 : am_cd 89 139 = some (.putfield 167, 3, [9, 33, 1], [(0, 737)])   := rfl
theorem k_89_142 : am_cd 89 142 = some (.aload_n 0, 1, [], [])   := rfl
theorem k_89_143 : am_cd 89 143 = some (.iconst 0, 1, [], [(0, 0)])   := rfl
theorem k_89_144 : am_cd 89 144 = some (.putfield 170, 3, [9, 34, 0], [(0, 738)])   := rfl
theorem k_89_147 : am_cd 89 147 = some (.aload_n 0, 1, [], [])   := rfl
theorem k_89_148 : am_cd 89 148 = some (.iconst 0, 1, [], [(0, 0)])   := rfl
theorem k_89_149 : am_cd 89 149 = some (.putfield 173, 3, [9, 40, 0], [(0, 744)])   := rfl
theorem k_89_152 : am_cd 89 152 = some (.aload_n 0, 1, [], [])   := rfl
theorem k_89_153 : am_cd 89 153 = some (.iconst 0, 1, [], [(0, 0)])   := rfl
theorem k_89_154 : am_cd 89 154 = some (.putfield 176, 3, [9, 42, 0], [(0, 746)])   := rfl
theorem k_89_157 : am_cd 89 157 = some (.iconst 0, 1, [], [(0, 0)])   := rfl
theorem k_89_158 : am_cd 89 158 = some (.istore_n 2, 1, [], [])   := rfl
theorem k_89_159 : am_cd 89 159 = some (.iload_n 2, 1, [], [])   := rfl
theorem k_89_160 : am_cd 89 160 = some (.bipush 40, 2, [], [(40, 0)])   := rfl
theorem k_89_162 : am_cd 89 162 = some (.if_icmp .ge 16, 3, [178], [])   := rfl
theorem k_89_165 : am_cd 89 165 = some (.aload_n 0, 1, [], [])   := rfl
theorem k_89_166 : am_cd 89 166 = some (.getfield 80, 3, [9, 35, 2], [(0, 739)])   := rfl
theorem k_89_169 : am_cd 89 169 = some (.iload_n 2, 1, [], [])   := rfl
theorem k_89_170 : am_cd 89 170 = some (.iconst 0, 1, [], [(0, 0)])   := rfl
theorem k_89_171 : am_cd 89 171 = some (.bastore, 1, [], [])   := rfl
theorem k_89_172 : am_cd 89 172 = some (.iinc 2 1, 3, [], [(1, 0)])   := rfl
theorem k_89_175 : am_cd 89 175 = some (.goto (-16), 3, [159], [])   := rfl
theorem k_89_178 : am_cd 89 178 = some (.aload_n 0, 1, [], [])   := rfl
theorem k_89_179 : am_cd 89 179 = some (.getfield 126, 3, [9, 5, 0], [(0, 709)])   := rfl
theorem k_89_182 : am_cd 89 182 = some (.ireturn, 1, [], [])   := rfl
theorem e_89_0 {x : Option Nat} {a1 a2 : Option AV} : X xs L d 89 (0, [some (.inr x), a1, a2], sk, h) res ↔ X xs L d 89 (1, [some (.inr x), a1, a2], .inr x :: sk, h) res := i_aload_n k_89_0 rfl
theorem e_89_1 {o : Nat} : X xs L d 89 (1, lo, .inr (some o) :: sk, h) res ↔ hK h o = 9 ∧ X xs L d 89 (4, lo, .inl (hI h o 3) :: sk, h) res := i_getI k_89_1
theorem e_89_4 {x : Int32} {a0 a1 a2 : Option AV} : X xs L d 89 (4, [a0, a1, a2], .inl x :: sk, h) res ↔ X xs L d 89 (5, [a0, some (.inl x), a2], sk, h) res := i_istore_n k_89_4 (Nat.le_of_ble_eq_true rfl) rfl
theorem e_89_5 : X xs L d 89 (5, lo, sk, h) res ↔ X xs L d 89 (6, lo, .inl 0 :: sk, h) res := i_iconst k_89_5
theorem e_89_6 {x : Int32} {a0 a1 a2 : Option AV} : X xs L d 89 (6, [a0, a1, a2], .inl x :: sk, h) res ↔ X xs L d 89 (7, [a0, a1, some (.inl x)], sk, h) res := i_istore_n k_89_6 (Nat.le_of_ble_eq_true rfl) rfl
theorem e_89_7 {x : Int32} {a0 a1 : Option AV} : X xs L d 89 (7, [a0, a1, some (.inl x)], sk, h) res ↔ X xs L d 89 (8, [a0, a1, some (.inl x)], .inl x :: sk, h) res := i_iload_n k_89_7 rfl
theorem e_89_8 : X xs L d 89 (8, lo, sk, h) res ↔ X xs L d 89 (11, lo, .inl 152 :: sk, h) res := i_sipush k_89_8
theorem e_89_11 {x y : Int32} : X xs L d 89 (11, lo, .inl y :: .inl x :: sk, h) res ↔ (if y ≤ x then X xs L d 89 (36, lo, sk, h) res else X xs L d 89 (14, lo, sk, h) res) := i_icmp_ge k_89_11
theorem e_89_14 {x : Option Nat} {a1 a2 : Option AV} : X xs L d 89 (14, [some (.inr x), a1, a2], sk, h) res ↔ X xs L d 89 (15, [some (.inr x), a1, a2], .inr x :: sk, h) res := i_aload_n k_89_14 rfl
theorem e_89_15 {o : Nat} : X xs L d 89 (15, lo, .inr (some o) :: sk, h) res ↔ hK h o = 9 ∧ X xs L d 89 (18, lo, .inr (hR h o 2) :: sk, h) res := i_getR k_89_15
theorem e_89_18 : X xs L d 89 (18, lo, sk, h) res ↔ X xs L d 89 (21, lo, .inl 6232 :: sk, h) res := i_sipush k_89_18
theorem e_89_21 {x : Int32} {a0 a1 : Option AV} : X xs L d 89 (21, [a0, a1, some (.inl x)], sk, h) res ↔ X xs L d 89 (22, [a0, a1, some (.inl x)], .inl x :: sk, h) res := i_iload_n k_89_21 rfl
theorem e_89_22 {x y : Int32} : X xs L d 89 (22, lo, .inl y :: .inl x :: sk, h) res ↔ X xs L d 89 (23, lo, .inl (x + y) :: sk, h) res := i_iadd k_89_22
theorem e_89_23 {x : Option Nat} {a1 a2 : Option AV} : X xs L d 89 (23, [some (.inr x), a1, a2], sk, h) res ↔ X xs L d 89 (24, [some (.inr x), a1, a2], .inr x :: sk, h) res := i_aload_n k_89_23 rfl
theorem e_89_24 {o : Nat} : X xs L d 89 (24, lo, .inr (some o) :: sk, h) res ↔ hK h o = 9 ∧ X xs L d 89 (27, lo, .inr (hR h o 2) :: sk, h) res := i_getR k_89_24
theorem e_89_27 {x : Int32} {a0 a1 : Option AV} : X xs L d 89 (27, [a0, a1, some (.inl x)], sk, h) res ↔ X xs L d 89 (28, [a0, a1, some (.inl x)], .inl x :: sk, h) res := i_iload_n k_89_27 rfl
theorem e_89_28 {o : Nat} {i : Int32} : X xs L d 89 (28, lo, .inl i :: .inr (some o) :: sk, h) res ↔ (hK h o = 21 ∧ vp_in i (hL h o)) ∧ X xs L d 89 (29, lo, .inl (hI h o i.toNatClampNeg) :: sk, h) res := i_caload k_89_28
theorem e_89_29 {o : Nat} {i v : Int32} : X xs L d 89 (29, lo, .inl v :: .inl i :: .inr (some o) :: sk, h) res ↔ (hK h o = 21 ∧ vp_in i (hL h o)) ∧ X xs L d 89 (30, lo, sk, sI h o i.toNatClampNeg (vp_nar .char v)) res := i_castore k_89_29
theorem e_89_30 {x : Int32} {a0 a1 : Option AV} : X xs L d 89 (30, [a0, a1, some (.inl x)], sk, h) res ↔ X xs L d 89 (33, [a0, a1, some (.inl (x + 1))], sk, h) res := i_iinc k_89_30 rfl rfl
theorem e_89_33 : X xs L d 89 (33, lo, sk, h) res ↔ X xs L d 89 (7, lo, sk, h) res := i_goto k_89_33
theorem e_89_36 {x : Option Nat} {a1 a2 : Option AV} : X xs L d 89 (36, [some (.inr x), a1, a2], sk, h) res ↔ X xs L d 89 (37, [some (.inr x), a1, a2], .inr x :: sk, h) res := i_aload_n k_89_36 rfl
theorem e_89_37 : X xs L d 89 (37, lo, sk, h) res ↔ X xs L d 89 (38, lo, .inl 0 :: sk, h) res := i_iconst k_89_37
theorem e_89_38 {o : Nat} {v0 : Int32} (hs : sk.length ≤ 8) : X xs L d 89 (38, lo, .inl v0 :: .inr (some o) :: sk, h) res ↔ hK h o = 9 ∧ ∃ q : Res, Rn xs L d 81 [.inr (some o), .inl v0] h q ∧ X xs L d 89 (41, lo, q.1.toList ++ sk, q.2) res := i_callV k_89_38 rfl ⟨Nat.le_add_left 2 sk.length, Nat.le_trans (Nat.add_le_add_right hs 2) (Nat.le_of_eq (Nat.add_comm 8 2))⟩
theorem e_89_41 {x : Option Nat} {a1 a2 : Option AV} : X xs L d 89 (41, [some (.inr x), a1, a2], sk, h) res ↔ X xs L d 89 (42, [some (.inr x), a1, a2], .inr x :: sk, h) res := i_aload_n k_89_41 rfl
theorem e_89_42 {x : Option Nat} {a1 a2 : Option AV} : X xs L d 89 (42, [some (.inr x), a1, a2], sk, h) res ↔ X xs L d 89 (43, [some (.inr x), a1, a2], .inr x :: sk, h) res := i_aload_n k_89_42 rfl
theorem e_89_43 {o : Nat} : X xs L d 89 (43, lo, .inr (some o) :: sk, h) res ↔ hK h o = 9 ∧ X xs L d 89 (46, lo, .inl (hI h o 0) :: sk, h) res := i_getI k_89_43
theorem e_89_46 {o : Nat} {v : Int32} : X xs L d 89 (46, lo, .inl v :: .inr (some o) :: sk, h) res ↔ hK h o = 9 ∧ X xs L d 89 (49, lo, sk, sI h o 3 v) res := i_putI k_89_46
theorem e_89_49 {x : Option Nat} {a1 a2 : Option AV} : X xs L d 89 (49, [some (.inr x), a1, a2], sk, h) res ↔ X xs L d 89 (50, [some (.inr x), a1, a2], .inr x :: sk, h) res := i_aload_n k_89_49 rfl
theorem e_89_50 : X xs L d 89 (50, lo, sk, h) res ↔ X xs L d 89 (51, lo, .inl 0 :: sk, h) res := i_iconst k_89_50
theorem e_89_51 {o : Nat} {v : Int32} : X xs L d 89 (51, lo, .inl v :: .inr (some o) :: sk, h) res ↔ hK h o = 9 ∧ X xs L d 89 (54, lo, sk, sI h o 0 v) res := i_putI k_89_51
theorem e_89_54 {x : Option Nat} {a1 a2 : Option AV} : X xs L d 89 (54, [some (.inr x), a1, a2], sk, h) res ↔ X xs L d 89 (55, [some (.inr x), a1, a2], .inr x :: sk, h) res := i_aload_n k_89_54 rfl
theorem e_89_55 {o : Nat} (hs : sk.length ≤ 8) : X xs L d 89 (55, lo, .inr (some o) :: sk, h) res ↔ hK h o = 9 ∧ ∃ q : Res, Rn xs L d 87 [.inr (some o)] h q ∧ X xs L d 89 (58, lo, q.1.toList ++ sk, q.2) res := i_callV k_89_55 rfl ⟨Nat.le_add_left 1 sk.length, Nat.le_trans (Nat.add_le_add_right hs 1) (Nat.le_of_eq (Nat.add_comm 8 1))⟩
theorem e_89_58 {x : Int32} : X xs L d 89 (58, lo, .inl x :: sk, h) res ↔ (if x = 0 then X xs L d 89 (61, lo, sk, h) res else X xs L d 89 (110, lo, sk, h) res) := i_if_ne k_89_58
theorem e_89_61 : X xs L d 89 (61, lo, sk, h) res ↔ X xs L d 89 (62, lo, .inl 0 :: sk, h) res := i_iconst k_89_61
theorem e_89_62 {x : Int32} {a0 a1 a2 : Option AV} : X xs L d 89 (62, [a0, a1, a2], .inl x :: sk, h) res ↔ X xs L d 89 (63, [a0, a1, some (.inl x)], sk, h) res := i_istore_n k_89_62 (Nat.le_of_ble_eq_true rfl) rfl
theorem e_89_63 {x : Int32} {a0 a1 : Option AV} : X xs L d 89 (63, [a0, a1, some (.inl x)], sk, h) res ↔ X xs L d 89 (64, [a0, a1, some (.inl x)], .inl x :: sk, h) res := i_iload_n k_89_63 rfl
theorem e_89_64 : X xs L d 89 (64, lo, sk, h) res ↔ X xs L d 89 (67, lo, .inl 152 :: sk, h) res := i_sipush k_89_64
theorem e_89_67 {x y : Int32} : X xs L d 89 (67, lo, .inl y :: .inl x :: sk, h) res ↔ (if y ≤ x then X xs L d 89 (92, lo, sk, h) res else X xs L d 89 (70, lo, sk, h) res) := i_icmp_ge k_89_67
theorem e_89_70 {x : Option Nat} {a1 a2 : Option AV} : X xs L d 89 (70, [some (.inr x), a1, a2], sk, h) res ↔ X xs L d 89 (71, [some (.inr x), a1, a2], .inr x :: sk, h) res := i_aload_n k_89_70 rfl
theorem e_89_71 {o : Nat} : X xs L d 89 (71, lo, .inr (some o) :: sk, h) res ↔ hK h o = 9 ∧ X xs L d 89 (74, lo, .inr (hR h o 2) :: sk, h) res := i_getR k_89_71
theorem e_89_74 {x : Int32} {a0 a1 : Option AV} : X xs L d 89 (74, [a0, a1, some (.inl x)], sk, h) res ↔ X xs L d 89 (75, [a0, a1, some (.inl x)], .inl x :: sk, h) res := i_iload_n k_89_74 rfl
theorem e_89_75 {x : Option Nat} {a1 a2 : Option AV} : X xs L d 89 (75, [some (.inr x), a1, a2], sk, h) res ↔ X xs L d 89 (76, [some (.inr x), a1, a2], .inr x :: sk, h) res := i_aload_n k_89_75 rfl
theorem e_89_76 {o : Nat} : X xs L d 89 (76, lo, .inr (some o) :: sk, h) res ↔ hK h o = 9 ∧ X xs L d 89 (79, lo, .inr (hR h o 2) :: sk, h) res := i_getR k_89_76
theorem e_89_79 : X xs L d 89 (79, lo, sk, h) res ↔ X xs L d 89 (82, lo, .inl 6232 :: sk, h) res := i_sipush k_89_79
theorem e_89_82 {x : Int32} {a0 a1 : Option AV} : X xs L d 89 (82, [a0, a1, some (.inl x)], sk, h) res ↔ X xs L d 89 (83, [a0, a1, some (.inl x)], .inl x :: sk, h) res := i_iload_n k_89_82 rfl
theorem e_89_83 {x y : Int32} : X xs L d 89 (83, lo, .inl y :: .inl x :: sk, h) res ↔ X xs L d 89 (84, lo, .inl (x + y) :: sk, h) res := i_iadd k_89_83
theorem e_89_84 {o : Nat} {i : Int32} : X xs L d 89 (84, lo, .inl i :: .inr (some o) :: sk, h) res ↔ (hK h o = 21 ∧ vp_in i (hL h o)) ∧ X xs L d 89 (85, lo, .inl (hI h o i.toNatClampNeg) :: sk, h) res := i_caload k_89_84
theorem e_89_85 {o : Nat} {i v : Int32} : X xs L d 89 (85, lo, .inl v :: .inl i :: .inr (some o) :: sk, h) res ↔ (hK h o = 21 ∧ vp_in i (hL h o)) ∧ X xs L d 89 (86, lo, sk, sI h o i.toNatClampNeg (vp_nar .char v)) res := i_castore k_89_85
theorem e_89_86 {x : Int32} {a0 a1 : Option AV} : X xs L d 89 (86, [a0, a1, some (.inl x)], sk, h) res ↔ X xs L d 89 (89, [a0, a1, some (.inl (x + 1))], sk, h) res := i_iinc k_89_86 rfl rfl
theorem e_89_89 : X xs L d 89 (89, lo, sk, h) res ↔ X xs L d 89 (63, lo, sk, h) res := i_goto k_89_89
theorem e_89_92 {x : Option Nat} {a1 a2 : Option AV} : X xs L d 89 (92, [some (.inr x), a1, a2], sk, h) res ↔ X xs L d 89 (93, [some (.inr x), a1, a2], .inr x :: sk, h) res := i_aload_n k_89_92 rfl
theorem e_89_93 {x : Int32} {a0 a2 : Option AV} : X xs L d 89 (93, [a0, some (.inl x), a2], sk, h) res ↔ X xs L d 89 (94, [a0, some (.inl x), a2], .inl x :: sk, h) res := i_iload_n k_89_93 rfl
theorem e_89_94 {o : Nat} {v : Int32} : X xs L d 89 (94, lo, .inl v :: .inr (some o) :: sk, h) res ↔ hK h o = 9 ∧ X xs L d 89 (97, lo, sk, sI h o 3 v) res := i_putI k_89_94
theorem e_89_97 {x : Option Nat} {a1 a2 : Option AV} : X xs L d 89 (97, [some (.inr x), a1, a2], sk, h) res ↔ X xs L d 89 (98, [some (.inr x), a1, a2], .inr x :: sk, h) res := i_aload_n k_89_97 rfl
theorem e_89_98 {o : Nat} : X xs L d 89 (98, lo, .inr (some o) :: sk, h) res ↔ hK h o = 9 ∧ X xs L d 89 (101, lo, .inl (hI h o 4) :: sk, h) res := i_getZ k_89_98
theorem e_89_101 {x : Int32} : X xs L d 89 (101, lo, .inl x :: sk, h) res ↔ (if x = 0 then X xs L d 89 (108, lo, sk, h) res else X xs L d 89 (104, lo, sk, h) res) := i_if_eq k_89_101
theorem e_89_104 {x : Option Nat} {a1 a2 : Option AV} : X xs L d 89 (104, [some (.inr x), a1, a2], sk, h) res ↔ X xs L d 89 (105, [some (.inr x), a1, a2], .inr x :: sk, h) res := i_aload_n k_89_104 rfl
theorem e_89_105 {o : Nat} (hs : sk.length ≤ 8) : X xs L d 89 (105, lo, .inr (some o) :: sk, h) res ↔ hK h o = 9 ∧ ∃ q : Res, Rn xs L d 88 [.inr (some o)] h q ∧ X xs L d 89 (108, lo, q.1.toList ++ sk, q.2) res := i_callV k_89_105 rfl ⟨Nat.le_add_left 1 sk.length, Nat.le_trans (Nat.add_le_add_right hs 1) (Nat.le_of_eq (Nat.add_comm 8 1))⟩
theorem e_89_108 : X xs L d 89 (108, lo, sk, h) res ↔ X xs L d 89 (109, lo, .inl (-1) :: sk, h) res := i_iconst k_89_108
theorem e_89_109 {v : Int32} : X xs L d 89 (109, lo, [.inl v], h) res ↔ res = (some (.inl v), h) := i_iret k_89_109 rfl
theorem e_89_110 {x : Option Nat} {a1 a2 : Option AV} : X xs L d 89 (110, [some (.inr x), a1, a2], sk, h) res ↔ X xs L d 89 (111, [some (.inr x), a1, a2], .inr x :: sk, h) res := i_aload_n k_89_110 rfl
theorem e_89_111 : X xs L d 89 (111, lo, sk, h) res ↔ X xs L d 89 (112, lo, .inl 1 :: sk, h) res := i_iconst k_89_111
theorem e_89_112 {o : Nat} {v : Int32} : X xs L d 89 (112, lo, .inl v :: .inr (some o) :: sk, h) res ↔ (hK h o = 9 ∧ (v = 0 ∨ v = 1)) ∧ X xs L d 89 (115, lo, sk, sI h o 4 v) res := i_putZ k_89_112
theorem e_89_115 {x : Option Nat} {a1 a2 : Option AV} : X xs L d 89 (115, [some (.inr x), a1, a2], sk, h) res ↔ X xs L d 89 (116, [some (.inr x), a1, a2], .inr x :: sk, h) res := i_aload_n k_89_115 rfl
theorem e_89_116 : X xs L d 89 (116, lo, sk, h) res ↔ X xs L d 89 (117, lo, .inl 0 :: sk, h) res := i_iconst k_89_116
theorem e_89_117 {o : Nat} {v : Int32} : X xs L d 89 (117, lo, .inl v :: .inr (some o) :: sk, h) res ↔ hK h o = 9 ∧ X xs L d 89 (120, lo, sk, sI h o 30 v) res := i_putI k_89_117
theorem e_89_120 {x : Option Nat} {a1 a2 : Option AV} : X xs L d 89 (120, [some (.inr x), a1, a2], sk, h) res ↔ X xs L d 89 (121, [some (.inr x), a1, a2], .inr x :: sk, h) res := i_aload_n k_89_120 rfl
theorem e_89_121 : X xs L d 89 (121, lo, sk, h) res ↔ X xs L d 89 (122, lo, .inl 0 :: sk, h) res := i_iconst k_89_121
theorem e_89_122 {o : Nat} {v : Int32} : X xs L d 89 (122, lo, .inl v :: .inr (some o) :: sk, h) res ↔ hK h o = 9 ∧ X xs L d 89 (125, lo, sk, sI h o 31 v) res := i_putI k_89_122
theorem e_89_125 {x : Option Nat} {a1 a2 : Option AV} : X xs L d 89 (125, [some (.inr x), a1, a2], sk, h) res ↔ X xs L d 89 (126, [some (.inr x), a1, a2], .inr x :: sk, h) res := i_aload_n k_89_125 rfl
theorem e_89_126 : X xs L d 89 (126, lo, sk, h) res ↔ X xs L d 89 (127, lo, .inl 0 :: sk, h) res := i_iconst k_89_126
theorem e_89_127 {o : Nat} {v : Int32} : X xs L d 89 (127, lo, .inl v :: .inr (some o) :: sk, h) res ↔ hK h o = 9 ∧ X xs L d 89 (130, lo, sk, sI h o 32 v) res := i_putI k_89_127
theorem e_89_130 {x : Option Nat} {a1 a2 : Option AV} : X xs L d 89 (130, [some (.inr x), a1, a2], sk, h) res ↔ X xs L d 89 (131, [some (.inr x), a1, a2], .inr x :: sk, h) res := i_aload_n k_89_130 rfl
theorem e_89_131 {o : Nat} : X xs L d 89 (131, lo, .inr (some o) :: sk, h) res ↔ hK h o = 9 ∧ X xs L d 89 (134, lo, .inr (hR h o 16) :: sk, h) res := i_getR k_89_131
theorem e_89_134 : X xs L d 89 (134, lo, sk, h) res ↔ X xs L d 89 (135, lo, .inl 0 :: sk, h) res := i_iconst k_89_134
theorem e_89_135 : X xs L d 89 (135, lo, sk, h) res ↔ X xs L d 89 (136, lo, .inl 0 :: sk, h) res := i_iconst k_89_135
theorem e_89_136 {o : Nat} {i v : Int32} : X xs L d 89 (136, lo, .inl v :: .inl i :: .inr (some o) :: sk, h) res ↔ (hK h o = 20 ∧ vp_in i (hL h o)) ∧ X xs L d 89 (137, lo, sk, sI h o i.toNatClampNeg (v)) res := i_iastore k_89_136
theorem e_89_137 {x : Option Nat} {a1 a2 : Option AV} : X xs L d 89 (137, [some (.inr x), a1, a2], sk, h) res ↔ X xs L d 89 (138, [some (.inr x), a1, a2], .inr x :: sk, h) res := i_aload_n k_89_137 rfl
theorem e_89_138 : X xs L d 89 (138, lo, sk, h) res ↔ X xs L d 89 (139, lo, .inl 0 :: sk, h) res := i_iconst k_89_138
theorem e_89_139 {o : Nat} {v : Int32} : X xs L d 89 (139, lo, .inl v :: .inr (some o) :: sk, h) res ↔ (hK h o = 9 ∧ (v = 0 ∨ v = 1)) ∧ X xs L d 89 (142, lo, sk, sI h o 33 v) res := i_putZ k_89_139
theorem e_89_142 {x : Option Nat} {a1 a2 : Option AV} : X xs L d 89 (142, [some (.inr x), a1, a2], sk, h) res ↔ X xs L d 89 (143, [some (.inr x), a1, a2], .inr x :: sk, h) res := i_aload_n k_89_142 rfl
theorem e_89_143 : X xs L d 89 (143, lo, sk, h) res ↔ X xs L d 89 (144, lo, .inl 0 :: sk, h) res := i_iconst k_89_143
theorem e_89_144 {o : Nat} {v : Int32} : X xs L d 89 (144, lo, .inl v :: .inr (some o) :: sk, h) res ↔ hK h o = 9 ∧ X xs L d 89 (147, lo, sk, sI h o 34 v) res := i_putI k_89_144
theorem e_89_147 {x : Option Nat} {a1 a2 : Option AV} : X xs L d 89 (147, [some (.inr x), a1, a2], sk, h) res ↔ X xs L d 89 (148, [some (.inr x), a1, a2], .inr x :: sk, h) res := i_aload_n k_89_147 rfl
theorem e_89_148 : X xs L d 89 (148, lo, sk, h) res ↔ X xs L d 89 (149, lo, .inl 0 :: sk, h) res := i_iconst k_89_148
theorem e_89_149 {o : Nat} {v : Int32} : X xs L d 89 (149, lo, .inl v :: .inr (some o) :: sk, h) res ↔ hK h o = 9 ∧ X xs L d 89 (152, lo, sk, sI h o 40 v) res := i_putI k_89_149
theorem e_89_152 {x : Option Nat} {a1 a2 : Option AV} : X xs L d 89 (152, [some (.inr x), a1, a2], sk, h) res ↔ X xs L d 89 (153, [some (.inr x), a1, a2], .inr x :: sk, h) res := i_aload_n k_89_152 rfl
theorem e_89_153 : X xs L d 89 (153, lo, sk, h) res ↔ X xs L d 89 (154, lo, .inl 0 :: sk, h) res := i_iconst k_89_153
theorem e_89_154 {o : Nat} {v : Int32} : X xs L d 89 (154, lo, .inl v :: .inr (some o) :: sk, h) res ↔ hK h o = 9 ∧ X xs L d 89 (157, lo, sk, sI h o 42 v) res := i_putI k_89_154
theorem e_89_157 : X xs L d 89 (157, lo, sk, h) res ↔ X xs L d 89 (158, lo, .inl 0 :: sk, h) res := i_iconst k_89_157
theorem e_89_158 {x : Int32} {a0 a1 a2 : Option AV} : X xs L d 89 (158, [a0, a1, a2], .inl x :: sk, h) res ↔ X xs L d 89 (159, [a0, a1, some (.inl x)], sk, h) res := i_istore_n k_89_158 (Nat.le_of_ble_eq_true rfl) rfl
theorem e_89_159 {x : Int32} {a0 a1 : Option AV} : X xs L d 89 (159, [a0, a1, some (.inl x)], sk, h) res ↔ X xs L d 89 (160, [a0, a1, some (.inl x)], .inl x :: sk, h) res := i_iload_n k_89_159 rfl
theorem e_89_160 : X xs L d 89 (160, lo, sk, h) res ↔ X xs L d 89 (162, lo, .inl 40 :: sk, h) res := i_bipush k_89_160
theorem e_89_162 {x y : Int32} : X xs L d 89 (162, lo, .inl y :: .inl x :: sk, h) res ↔ (if y ≤ x then X xs L d 89 (178, lo, sk, h) res else X xs L d 89 (165, lo, sk, h) res) := i_icmp_ge k_89_162
theorem e_89_165 {x : Option Nat} {a1 a2 : Option AV} : X xs L d 89 (165, [some (.inr x), a1, a2], sk, h) res ↔ X xs L d 89 (166, [some (.inr x), a1, a2], .inr x :: sk, h) res := i_aload_n k_89_165 rfl
theorem e_89_166 {o : Nat} : X xs L d 89 (166, lo, .inr (some o) :: sk, h) res ↔ hK h o = 9 ∧ X xs L d 89 (169, lo, .inr (hR h o 35) :: sk, h) res := i_getR k_89_166
theorem e_89_169 {x : Int32} {a0 a1 : Option AV} : X xs L d 89 (169, [a0, a1, some (.inl x)], sk, h) res ↔ X xs L d 89 (170, [a0, a1, some (.inl x)], .inl x :: sk, h) res := i_iload_n k_89_169 rfl
theorem e_89_170 : X xs L d 89 (170, lo, sk, h) res ↔ X xs L d 89 (171, lo, .inl 0 :: sk, h) res := i_iconst k_89_170
theorem e_89_171 {o : Nat} {i v : Int32} : X xs L d 89 (171, lo, .inl v :: .inl i :: .inr (some o) :: sk, h) res ↔ (hK h o = 22 ∧ vp_in i (hL h o)) ∧ X xs L d 89 (172, lo, sk, sI h o i.toNatClampNeg (vp_nar .boolean v)) res := i_bastore k_89_171
theorem e_89_172 {x : Int32} {a0 a1 : Option AV} : X xs L d 89 (172, [a0, a1, some (.inl x)], sk, h) res ↔ X xs L d 89 (175, [a0, a1, some (.inl (x + 1))], sk, h) res := i_iinc k_89_172 rfl rfl
theorem e_89_175 : X xs L d 89 (175, lo, sk, h) res ↔ X xs L d 89 (159, lo, sk, h) res := i_goto k_89_175
theorem e_89_178 {x : Option Nat} {a1 a2 : Option AV} : X xs L d 89 (178, [some (.inr x), a1, a2], sk, h) res ↔ X xs L d 89 (179, [some (.inr x), a1, a2], .inr x :: sk, h) res := i_aload_n k_89_178 rfl
theorem e_89_179 {o : Nat} : X xs L d 89 (179, lo, .inr (some o) :: sk, h) res ↔ hK h o = 9 ∧ X xs L d 89 (182, lo, .inl (hI h o 5) :: sk, h) res := i_getI k_89_179
theorem e_89_182 {v : Int32} : X xs L d 89 (182, lo, [.inl v], h) res ↔ res = (some (.inl v), h) := i_iret k_89_182 rfl
theorem k_90_0 : am_cd 90 0 = some (.bipush 6, 2, [], [(6, 0)])   := rfl
theorem k_90_2 : am_cd 90 2 = some (.iload_n 1, 1, [], [])   := rfl
theorem k_90_3 : am_cd 90 3 = some (.imul, 1, [], [])   := rfl
theorem k_90_4 : am_cd 90 4 = some (.aload_n 0, 1, [], [])   := rfl
theorem k_90_5 : am_cd 90 5 = some (.getfield 47, 3, [9, 16, 2], [(0, 720)])   := rfl
theorem k_90_8 : am_cd 90 8 = some (.iload_n 1, 1, [], [])   := rfl
theorem k_90_9 : am_cd 90 9 = some (.iaload, 1, [], [])   := rfl
theorem k_90_10 : am_cd 90 10 = some (.iadd, 1, [], [])   := rfl
theorem k_90_11 : am_cd 90 11 = some (.iconst 1, 1, [], [(1, 0)])   := rfl
theorem k_90_12 : am_cd 90 12 = some (.isub, 1, [], [])   := rfl
theorem k_90_13 : am_cd 90 13 = some (.ireturn, 1, [], [])   := rfl
theorem e_90_0 : X xs L d 90 (0, lo, sk, h) res ↔ X xs L d 90 (2, lo, .inl 6 :: sk, h) res := i_bipush k_90_0
theorem e_90_2 {x : Int32} {a0 : Option AV} : X xs L d 90 (2, [a0, some (.inl x)], sk, h) res ↔ X xs L d 90 (3, [a0, some (.inl x)], .inl x :: sk, h) res := i_iload_n k_90_2 rfl
theorem e_90_3 {x y : Int32} : X xs L d 90 (3, lo, .inl y :: .inl x :: sk, h) res ↔ X xs L d 90 (4, lo, .inl (x * y) :: sk, h) res := i_imul k_90_3
theorem e_90_4 {x : Option Nat} {a1 : Option AV} : X xs L d 90 (4, [some (.inr x), a1], sk, h) res ↔ X xs L d 90 (5, [some (.inr x), a1], .inr x :: sk, h) res := i_aload_n k_90_4 rfl
theorem e_90_5 {o : Nat} : X xs L d 90 (5, lo, .inr (some o) :: sk, h) res ↔ hK h o = 9 ∧ X xs L d 90 (8, lo, .inr (hR h o 16) :: sk, h) res := i_getR k_90_5
theorem e_90_8 {x : Int32} {a0 : Option AV} : X xs L d 90 (8, [a0, some (.inl x)], sk, h) res ↔ X xs L d 90 (9, [a0, some (.inl x)], .inl x :: sk, h) res := i_iload_n k_90_8 rfl
theorem e_90_9 {o : Nat} {i : Int32} : X xs L d 90 (9, lo, .inl i :: .inr (some o) :: sk, h) res ↔ (hK h o = 20 ∧ vp_in i (hL h o)) ∧ X xs L d 90 (10, lo, .inl (hI h o i.toNatClampNeg) :: sk, h) res := i_iaload k_90_9
theorem e_90_10 {x y : Int32} : X xs L d 90 (10, lo, .inl y :: .inl x :: sk, h) res ↔ X xs L d 90 (11, lo, .inl (x + y) :: sk, h) res := i_iadd k_90_10
theorem e_90_11 : X xs L d 90 (11, lo, sk, h) res ↔ X xs L d 90 (12, lo, .inl 1 :: sk, h) res := i_iconst k_90_11
theorem e_90_12 {x y : Int32} : X xs L d 90 (12, lo, .inl y :: .inl x :: sk, h) res ↔ X xs L d 90 (13, lo, .inl (x - y) :: sk, h) res := i_isub k_90_12
theorem e_90_13 {v : Int32} : X xs L d 90 (13, lo, [.inl v], h) res ↔ res = (some (.inl v), h) := i_iret k_90_13 rfl
theorem k_91_0 : am_cd 91 0 = some (.aload_n 0, 1, [], [])   := rfl
theorem k_91_1 : am_cd 91 1 = some (.getfield 47, 3, [9, 16, 2], [(0, 720)])   := rfl
theorem k_91_4 : am_cd 91 4 = some (.iload_n 1, 1, [], [])   := rfl
theorem k_91_5 : am_cd 91 5 = some (.dup2, 1, [], [])   := rfl
theorem k_91_6 : am_cd 91 6 = some (.iaload, 1, [], [])   := rfl
theorem k_91_7 : am_cd 91 7 = some (.iconst 1, 1, [], [(1, 0)])   := rfl
theorem k_91_8 : am_cd 91 8 = some (.iadd, 1, [], [])   := rfl
theorem k_91_9 : am_cd 91 9 = some (.iastore, 1, [], [])   := rfl
theorem k_91_10 : am_cd 91 10 = some (.aload_n 0, 1, [], [])   := rfl
theorem k_91_11 : am_cd 91 11 = some (.iload_n 1, 1, [], [])   := rfl
theorem k_91_12 : am_cd 91 12 = some (.invokevirtual 179, 3, [90, 2, 9], [(0, 898), (0, 900), (0, 38)])   := rfl
theorem k_91_15 : am_cd 91 15 = some (.istore 4, 2, [], [])   := rfl
theorem k_91_17 : am_cd 91 17 = some (.aload_n 0, 1, [], [])   := rfl
theorem k_91_18 : am_cd 91 18 = some (.getfield 50, 3, [9, 17, 2], [(0, 721)])   := rfl
theorem k_91_21 : am_cd 91 21 = some (.iload 4, 2, [], [])   := rfl
theorem k_91_23 : am_cd 91 23 = some (.iload_n 2, 1, [], [])   := rfl
theorem k_91_24 : am_cd 91 24 = some (.iastore, 1, [], [])   := rfl
theorem k_91_25 : am_cd 91 25 = some (.aload_n 0, 1, [], [])   := rfl
theorem k_91_26 : am_cd 91 26 = some (.getfield 53, 3, [9, 18, 2], [(0, 722)])   := rfl
theorem k_91_29 : am_cd 91 29 = some (.iload 4, 2, [], [])   := rfl
theorem k_91_31 : am_cd 91 31 = some (.aload_n 0, 1, [], [])   := rfl
theorem k_91_32 : am_cd 91 32 = some (.getfield 29, 3, [9, 10, 2], [(0, 714)])   := rfl
theorem k_91_35 : am_cd 91 35 = some (.iload_n 2, 1, [], [])   := rfl
theorem k_91_36 : am_cd 91 36 = some (.iaload, 1, [], [])   := rfl
theorem k_91_37 : am_cd 91 37 = some (.iconst 1, 1, [], [(1, 0)])   := rfl
theorem k_91_38 : am_cd 91 38 = some (.iadd, 1, [], [])   := rfl
theorem k_91_39 : am_cd 91 39 = some (.iastore, 1, [], [])   := rfl
theorem k_91_40 : am_cd 91 40 = some (.iconst 0, 1, [], [(0, 0)])   := rfl
theorem k_91_41 : am_cd 91 41 = some (.istore 5, 2, [], [])   := rfl
theorem k_91_43 : am_cd 91 43 = some (.iload 5, 2, [], [])   := rfl
theorem k_91_45 : am_cd 91 45 = some (.bipush 6, 2, [], [(6, 0)])   := rfl
theorem k_91_47 : am_cd 91 47 = some (.if_icmp .ge 46, 3, [93], [])   := rfl
theorem k_91_50 : am_cd 91 50 = some (.aload_n 0, 1, [], [])   := rfl
theorem k_91_51 : am_cd 91 51 = some (.getfield 59, 3, [9, 20, 2], [(0, 724)])   := rfl
theorem k_91_54 : am_cd 91 54 = some (.bipush 6, 2, [], [(6, 0)])   := rfl
theorem k_91_56 : am_cd 91 56 = some (.iload 4, 2, [], [])   := rfl
theorem k_91_58 : am_cd 91 58 = some (.imul, 1, [], [])   := rfl
theorem k_91_59 : am_cd 91 59 = some (.iload 5, 2, [], [])   := rfl
theorem k_91_61 : am_cd 91 61 = some (.iadd, 1, [], [])   := rfl
theorem k_91_62 : am_cd 91 62 = some (.iload 5, 2, [], [])   := rfl
theorem k_91_64 : am_cd 91 64 = some (.aload_n 0, 1, [], [])   := rfl
theorem k_91_65 : am_cd 91 65 = some (.getfield 32, 3, [9, 11, 2], [(0, 715)])   := rfl
theorem k_91_68 : am_cd 91 68 = some (.iload_n 2, 1, [], [])   := rfl
theorem k_91_69 : am_cd 91 69 = some (.iaload, 1, [], [])   := rfl
theorem k_91_70 : am_cd 91 70 = some (.if_icmp .ge 15, 3, [85], [])   := rfl
theorem k_91_73 : am_cd 91 73 = some (.aload_n 0, 1, [], [])   := rfl
theorem k_91_74 : am_cd 91 74 = some (.getfield 77, 3, [9, 26, 2], [(0, 730)])   := rfl
theorem k_91_77 : am_cd 91 77 = some (.iload_n 3, 1, [], [])   := rfl
theorem k_91_78 : am_cd 91 78 = some (.iload 5, 2, [], [])   := rfl
theorem k_91_80 : am_cd 91 80 = some (.iadd, 1, [], [])   := rfl
theorem k_91_81 : am_cd 91 81 = some (.iaload, 1, [], [])   := rfl
theorem k_91_82 : am_cd 91 82 = some (.goto 4, 3, [86], [])   := rfl
theorem k_91_85 : am_cd 91 85 = some (.iconst 0, 1, [], [(0, 0)])   := rfl
theorem k_91_86 : am_cd 91 86 = some (.iastore, 1, [], [])   := rfl
theorem k_91_87 : am_cd 91 87 = some (.iinc 5 1, 3, [], [(1, 0)])   := rfl
theorem k_91_90 : am_cd 91 90 = some (.goto (-47), 3, [43], [])   := rfl
theorem k_91_93 : am_cd 91 93 = some (.aload_n 0, 1, [], [])   := rfl
theorem k_91_94 : am_cd 91 94 = some (.iconst 0, 1, [], [(0, 0)])   := rfl
theorem k_91_95 : am_cd 91 95 = some (.putfield 182, 3, [9, 27, 0], [(0, 731)])   := rfl
theorem k_91_98 : am_cd 91 98 = some (.return_, 1, [], [])   := rfl
theorem e_91_0 {x : Option Nat} {a1 a2 a3 a4 a5 : Option AV} : X xs L d 91 (0, [some (.inr x), a1, a2, a3, a4, a5], sk, h) res ↔ X xs L d 91 (1, [some (.inr x), a1, a2, a3, a4, a5], .inr x :: sk, h) res := i_aload_n k_91_0 rfl
theorem e_91_1 {o : Nat} : X xs L d 91 (1, lo, .inr (some o) :: sk, h) res ↔ hK h o = 9 ∧ X xs L d 91 (4, lo, .inr (hR h o 16) :: sk, h) res := i_getR k_91_1
theorem e_91_4 {x : Int32} {a0 a2 a3 a4 a5 : Option AV} : X xs L d 91 (4, [a0, some (.inl x), a2, a3, a4, a5], sk, h) res ↔ X xs L d 91 (5, [a0, some (.inl x), a2, a3, a4, a5], .inl x :: sk, h) res := i_iload_n k_91_4 rfl
theorem e_91_5 {v w : AV} : X xs L d 91 (5, lo, v :: w :: sk, h) res ↔ X xs L d 91 (6, lo, v :: w :: v :: w :: sk, h) res := i_dup2 k_91_5
theorem e_91_6 {o : Nat} {i : Int32} : X xs L d 91 (6, lo, .inl i :: .inr (some o) :: sk, h) res ↔ (hK h o = 20 ∧ vp_in i (hL h o)) ∧ X xs L d 91 (7, lo, .inl (hI h o i.toNatClampNeg) :: sk, h) res := i_iaload k_91_6
theorem e_91_7 : X xs L d 91 (7, lo, sk, h) res ↔ X xs L d 91 (8, lo, .inl 1 :: sk, h) res := i_iconst k_91_7
theorem e_91_8 {x y : Int32} : X xs L d 91 (8, lo, .inl y :: .inl x :: sk, h) res ↔ X xs L d 91 (9, lo, .inl (x + y) :: sk, h) res := i_iadd k_91_8
theorem e_91_9 {o : Nat} {i v : Int32} : X xs L d 91 (9, lo, .inl v :: .inl i :: .inr (some o) :: sk, h) res ↔ (hK h o = 20 ∧ vp_in i (hL h o)) ∧ X xs L d 91 (10, lo, sk, sI h o i.toNatClampNeg (v)) res := i_iastore k_91_9
theorem e_91_10 {x : Option Nat} {a1 a2 a3 a4 a5 : Option AV} : X xs L d 91 (10, [some (.inr x), a1, a2, a3, a4, a5], sk, h) res ↔ X xs L d 91 (11, [some (.inr x), a1, a2, a3, a4, a5], .inr x :: sk, h) res := i_aload_n k_91_10 rfl
theorem e_91_11 {x : Int32} {a0 a2 a3 a4 a5 : Option AV} : X xs L d 91 (11, [a0, some (.inl x), a2, a3, a4, a5], sk, h) res ↔ X xs L d 91 (12, [a0, some (.inl x), a2, a3, a4, a5], .inl x :: sk, h) res := i_iload_n k_91_11 rfl
theorem e_91_12 {o : Nat} {v0 : Int32} (hs : sk.length ≤ 8) : X xs L d 91 (12, lo, .inl v0 :: .inr (some o) :: sk, h) res ↔ hK h o = 9 ∧ ∃ q : Res, Rn xs L d 90 [.inr (some o), .inl v0] h q ∧ X xs L d 91 (15, lo, q.1.toList ++ sk, q.2) res := i_callV k_91_12 rfl ⟨Nat.le_add_left 2 sk.length, Nat.le_trans (Nat.add_le_add_right hs 2) (Nat.le_of_eq (Nat.add_comm 8 2))⟩
theorem e_91_15 {x : Int32} {a0 a1 a2 a3 a4 a5 : Option AV} : X xs L d 91 (15, [a0, a1, a2, a3, a4, a5], .inl x :: sk, h) res ↔ X xs L d 91 (17, [a0, a1, a2, a3, some (.inl x), a5], sk, h) res := i_istore k_91_15 (Nat.le_of_ble_eq_true rfl) rfl
theorem e_91_17 {x : Option Nat} {a1 a2 a3 a4 a5 : Option AV} : X xs L d 91 (17, [some (.inr x), a1, a2, a3, a4, a5], sk, h) res ↔ X xs L d 91 (18, [some (.inr x), a1, a2, a3, a4, a5], .inr x :: sk, h) res := i_aload_n k_91_17 rfl
theorem e_91_18 {o : Nat} : X xs L d 91 (18, lo, .inr (some o) :: sk, h) res ↔ hK h o = 9 ∧ X xs L d 91 (21, lo, .inr (hR h o 17) :: sk, h) res := i_getR k_91_18
theorem e_91_21 {x : Int32} {a0 a1 a2 a3 a5 : Option AV} : X xs L d 91 (21, [a0, a1, a2, a3, some (.inl x), a5], sk, h) res ↔ X xs L d 91 (23, [a0, a1, a2, a3, some (.inl x), a5], .inl x :: sk, h) res := i_iload k_91_21 rfl
theorem e_91_23 {x : Int32} {a0 a1 a3 a4 a5 : Option AV} : X xs L d 91 (23, [a0, a1, some (.inl x), a3, a4, a5], sk, h) res ↔ X xs L d 91 (24, [a0, a1, some (.inl x), a3, a4, a5], .inl x :: sk, h) res := i_iload_n k_91_23 rfl
theorem e_91_24 {o : Nat} {i v : Int32} : X xs L d 91 (24, lo, .inl v :: .inl i :: .inr (some o) :: sk, h) res ↔ (hK h o = 20 ∧ vp_in i (hL h o)) ∧ X xs L d 91 (25, lo, sk, sI h o i.toNatClampNeg (v)) res := i_iastore k_91_24
theorem e_91_25 {x : Option Nat} {a1 a2 a3 a4 a5 : Option AV} : X xs L d 91 (25, [some (.inr x), a1, a2, a3, a4, a5], sk, h) res ↔ X xs L d 91 (26, [some (.inr x), a1, a2, a3, a4, a5], .inr x :: sk, h) res := i_aload_n k_91_25 rfl
theorem e_91_26 {o : Nat} : X xs L d 91 (26, lo, .inr (some o) :: sk, h) res ↔ hK h o = 9 ∧ X xs L d 91 (29, lo, .inr (hR h o 18) :: sk, h) res := i_getR k_91_26
theorem e_91_29 {x : Int32} {a0 a1 a2 a3 a5 : Option AV} : X xs L d 91 (29, [a0, a1, a2, a3, some (.inl x), a5], sk, h) res ↔ X xs L d 91 (31, [a0, a1, a2, a3, some (.inl x), a5], .inl x :: sk, h) res := i_iload k_91_29 rfl
theorem e_91_31 {x : Option Nat} {a1 a2 a3 a4 a5 : Option AV} : X xs L d 91 (31, [some (.inr x), a1, a2, a3, a4, a5], sk, h) res ↔ X xs L d 91 (32, [some (.inr x), a1, a2, a3, a4, a5], .inr x :: sk, h) res := i_aload_n k_91_31 rfl
theorem e_91_32 {o : Nat} : X xs L d 91 (32, lo, .inr (some o) :: sk, h) res ↔ hK h o = 9 ∧ X xs L d 91 (35, lo, .inr (hR h o 10) :: sk, h) res := i_getR k_91_32
theorem e_91_35 {x : Int32} {a0 a1 a3 a4 a5 : Option AV} : X xs L d 91 (35, [a0, a1, some (.inl x), a3, a4, a5], sk, h) res ↔ X xs L d 91 (36, [a0, a1, some (.inl x), a3, a4, a5], .inl x :: sk, h) res := i_iload_n k_91_35 rfl
theorem e_91_36 {o : Nat} {i : Int32} : X xs L d 91 (36, lo, .inl i :: .inr (some o) :: sk, h) res ↔ (hK h o = 20 ∧ vp_in i (hL h o)) ∧ X xs L d 91 (37, lo, .inl (hI h o i.toNatClampNeg) :: sk, h) res := i_iaload k_91_36
theorem e_91_37 : X xs L d 91 (37, lo, sk, h) res ↔ X xs L d 91 (38, lo, .inl 1 :: sk, h) res := i_iconst k_91_37
theorem e_91_38 {x y : Int32} : X xs L d 91 (38, lo, .inl y :: .inl x :: sk, h) res ↔ X xs L d 91 (39, lo, .inl (x + y) :: sk, h) res := i_iadd k_91_38
theorem e_91_39 {o : Nat} {i v : Int32} : X xs L d 91 (39, lo, .inl v :: .inl i :: .inr (some o) :: sk, h) res ↔ (hK h o = 20 ∧ vp_in i (hL h o)) ∧ X xs L d 91 (40, lo, sk, sI h o i.toNatClampNeg (v)) res := i_iastore k_91_39
theorem e_91_40 : X xs L d 91 (40, lo, sk, h) res ↔ X xs L d 91 (41, lo, .inl 0 :: sk, h) res := i_iconst k_91_40
theorem e_91_41 {x : Int32} {a0 a1 a2 a3 a4 a5 : Option AV} : X xs L d 91 (41, [a0, a1, a2, a3, a4, a5], .inl x :: sk, h) res ↔ X xs L d 91 (43, [a0, a1, a2, a3, a4, some (.inl x)], sk, h) res := i_istore k_91_41 (Nat.le_of_ble_eq_true rfl) rfl
theorem e_91_43 {x : Int32} {a0 a1 a2 a3 a4 : Option AV} : X xs L d 91 (43, [a0, a1, a2, a3, a4, some (.inl x)], sk, h) res ↔ X xs L d 91 (45, [a0, a1, a2, a3, a4, some (.inl x)], .inl x :: sk, h) res := i_iload k_91_43 rfl
theorem e_91_45 : X xs L d 91 (45, lo, sk, h) res ↔ X xs L d 91 (47, lo, .inl 6 :: sk, h) res := i_bipush k_91_45
theorem e_91_47 {x y : Int32} : X xs L d 91 (47, lo, .inl y :: .inl x :: sk, h) res ↔ (if y ≤ x then X xs L d 91 (93, lo, sk, h) res else X xs L d 91 (50, lo, sk, h) res) := i_icmp_ge k_91_47
theorem e_91_50 {x : Option Nat} {a1 a2 a3 a4 a5 : Option AV} : X xs L d 91 (50, [some (.inr x), a1, a2, a3, a4, a5], sk, h) res ↔ X xs L d 91 (51, [some (.inr x), a1, a2, a3, a4, a5], .inr x :: sk, h) res := i_aload_n k_91_50 rfl
theorem e_91_51 {o : Nat} : X xs L d 91 (51, lo, .inr (some o) :: sk, h) res ↔ hK h o = 9 ∧ X xs L d 91 (54, lo, .inr (hR h o 20) :: sk, h) res := i_getR k_91_51
theorem e_91_54 : X xs L d 91 (54, lo, sk, h) res ↔ X xs L d 91 (56, lo, .inl 6 :: sk, h) res := i_bipush k_91_54
theorem e_91_56 {x : Int32} {a0 a1 a2 a3 a5 : Option AV} : X xs L d 91 (56, [a0, a1, a2, a3, some (.inl x), a5], sk, h) res ↔ X xs L d 91 (58, [a0, a1, a2, a3, some (.inl x), a5], .inl x :: sk, h) res := i_iload k_91_56 rfl
theorem e_91_58 {x y : Int32} : X xs L d 91 (58, lo, .inl y :: .inl x :: sk, h) res ↔ X xs L d 91 (59, lo, .inl (x * y) :: sk, h) res := i_imul k_91_58
theorem e_91_59 {x : Int32} {a0 a1 a2 a3 a4 : Option AV} : X xs L d 91 (59, [a0, a1, a2, a3, a4, some (.inl x)], sk, h) res ↔ X xs L d 91 (61, [a0, a1, a2, a3, a4, some (.inl x)], .inl x :: sk, h) res := i_iload k_91_59 rfl
theorem e_91_61 {x y : Int32} : X xs L d 91 (61, lo, .inl y :: .inl x :: sk, h) res ↔ X xs L d 91 (62, lo, .inl (x + y) :: sk, h) res := i_iadd k_91_61
theorem e_91_62 {x : Int32} {a0 a1 a2 a3 a4 : Option AV} : X xs L d 91 (62, [a0, a1, a2, a3, a4, some (.inl x)], sk, h) res ↔ X xs L d 91 (64, [a0, a1, a2, a3, a4, some (.inl x)], .inl x :: sk, h) res := i_iload k_91_62 rfl
theorem e_91_64 {x : Option Nat} {a1 a2 a3 a4 a5 : Option AV} : X xs L d 91 (64, [some (.inr x), a1, a2, a3, a4, a5], sk, h) res ↔ X xs L d 91 (65, [some (.inr x), a1, a2, a3, a4, a5], .inr x :: sk, h) res := i_aload_n k_91_64 rfl
theorem e_91_65 {o : Nat} : X xs L d 91 (65, lo, .inr (some o) :: sk, h) res ↔ hK h o = 9 ∧ X xs L d 91 (68, lo, .inr (hR h o 11) :: sk, h) res := i_getR k_91_65
theorem e_91_68 {x : Int32} {a0 a1 a3 a4 a5 : Option AV} : X xs L d 91 (68, [a0, a1, some (.inl x), a3, a4, a5], sk, h) res ↔ X xs L d 91 (69, [a0, a1, some (.inl x), a3, a4, a5], .inl x :: sk, h) res := i_iload_n k_91_68 rfl
theorem e_91_69 {o : Nat} {i : Int32} : X xs L d 91 (69, lo, .inl i :: .inr (some o) :: sk, h) res ↔ (hK h o = 20 ∧ vp_in i (hL h o)) ∧ X xs L d 91 (70, lo, .inl (hI h o i.toNatClampNeg) :: sk, h) res := i_iaload k_91_69
theorem e_91_70 {x y : Int32} : X xs L d 91 (70, lo, .inl y :: .inl x :: sk, h) res ↔ (if y ≤ x then X xs L d 91 (85, lo, sk, h) res else X xs L d 91 (73, lo, sk, h) res) := i_icmp_ge k_91_70
theorem e_91_73 {x : Option Nat} {a1 a2 a3 a4 a5 : Option AV} : X xs L d 91 (73, [some (.inr x), a1, a2, a3, a4, a5], sk, h) res ↔ X xs L d 91 (74, [some (.inr x), a1, a2, a3, a4, a5], .inr x :: sk, h) res := i_aload_n k_91_73 rfl
theorem e_91_74 {o : Nat} : X xs L d 91 (74, lo, .inr (some o) :: sk, h) res ↔ hK h o = 9 ∧ X xs L d 91 (77, lo, .inr (hR h o 26) :: sk, h) res := i_getR k_91_74
theorem e_91_77 {x : Int32} {a0 a1 a2 a4 a5 : Option AV} : X xs L d 91 (77, [a0, a1, a2, some (.inl x), a4, a5], sk, h) res ↔ X xs L d 91 (78, [a0, a1, a2, some (.inl x), a4, a5], .inl x :: sk, h) res := i_iload_n k_91_77 rfl
theorem e_91_78 {x : Int32} {a0 a1 a2 a3 a4 : Option AV} : X xs L d 91 (78, [a0, a1, a2, a3, a4, some (.inl x)], sk, h) res ↔ X xs L d 91 (80, [a0, a1, a2, a3, a4, some (.inl x)], .inl x :: sk, h) res := i_iload k_91_78 rfl
theorem e_91_80 {x y : Int32} : X xs L d 91 (80, lo, .inl y :: .inl x :: sk, h) res ↔ X xs L d 91 (81, lo, .inl (x + y) :: sk, h) res := i_iadd k_91_80
theorem e_91_81 {o : Nat} {i : Int32} : X xs L d 91 (81, lo, .inl i :: .inr (some o) :: sk, h) res ↔ (hK h o = 20 ∧ vp_in i (hL h o)) ∧ X xs L d 91 (82, lo, .inl (hI h o i.toNatClampNeg) :: sk, h) res := i_iaload k_91_81
theorem e_91_82 : X xs L d 91 (82, lo, sk, h) res ↔ X xs L d 91 (86, lo, sk, h) res := i_goto k_91_82
theorem e_91_85 : X xs L d 91 (85, lo, sk, h) res ↔ X xs L d 91 (86, lo, .inl 0 :: sk, h) res := i_iconst k_91_85
theorem e_91_86 {o : Nat} {i v : Int32} : X xs L d 91 (86, lo, .inl v :: .inl i :: .inr (some o) :: sk, h) res ↔ (hK h o = 20 ∧ vp_in i (hL h o)) ∧ X xs L d 91 (87, lo, sk, sI h o i.toNatClampNeg (v)) res := i_iastore k_91_86
theorem e_91_87 {x : Int32} {a0 a1 a2 a3 a4 : Option AV} : X xs L d 91 (87, [a0, a1, a2, a3, a4, some (.inl x)], sk, h) res ↔ X xs L d 91 (90, [a0, a1, a2, a3, a4, some (.inl (x + 1))], sk, h) res := i_iinc k_91_87 rfl rfl
theorem e_91_90 : X xs L d 91 (90, lo, sk, h) res ↔ X xs L d 91 (43, lo, sk, h) res := i_goto k_91_90
theorem e_91_93 {x : Option Nat} {a1 a2 a3 a4 a5 : Option AV} : X xs L d 91 (93, [some (.inr x), a1, a2, a3, a4, a5], sk, h) res ↔ X xs L d 91 (94, [some (.inr x), a1, a2, a3, a4, a5], .inr x :: sk, h) res := i_aload_n k_91_93 rfl
theorem e_91_94 : X xs L d 91 (94, lo, sk, h) res ↔ X xs L d 91 (95, lo, .inl 0 :: sk, h) res := i_iconst k_91_94
theorem e_91_95 {o : Nat} {v : Int32} : X xs L d 91 (95, lo, .inl v :: .inr (some o) :: sk, h) res ↔ hK h o = 9 ∧ X xs L d 91 (98, lo, sk, sI h o 27 v) res := i_putI k_91_95
theorem e_91_98 : X xs L d 91 (98, lo, [], h) res ↔ res = (none, h) := i_vret k_91_98 rfl
theorem k_92_0 : am_cd 92 0 = some (.aload_n 0, 1, [], [])   := rfl
theorem k_92_1 : am_cd 92 1 = some (.getfield 47, 3, [9, 16, 2], [(0, 720)])   := rfl
theorem k_92_4 : am_cd 92 4 = some (.iload_n 1, 1, [], [])   := rfl
theorem k_92_5 : am_cd 92 5 = some (.iaload, 1, [], [])   := rfl
theorem k_92_6 : am_cd 92 6 = some (.bipush 6, 2, [], [(6, 0)])   := rfl
theorem k_92_8 : am_cd 92 8 = some (.if_icmp .ne 18, 3, [26], [])   := rfl
theorem k_92_11 : am_cd 92 11 = some (.aload_n 0, 1, [], [])   := rfl
theorem k_92_12 : am_cd 92 12 = some (.iconst 3, 1, [], [(3, 0)])   := rfl
theorem k_92_13 : am_cd 92 13 = some (.putfield 182, 3, [9, 27, 0], [(0, 731)])   := rfl
theorem k_92_16 : am_cd 92 16 = some (.aload_n 0, 1, [], [])   := rfl
theorem k_92_17 : am_cd 92 17 = some (.sipush 1002, 3, [], [(1002, 0)])   := rfl
theorem k_92_20 : am_cd 92 20 = some (.putfield 185, 3, [9, 28, 0], [(0, 732)])   := rfl
theorem k_92_23 : am_cd 92 23 = some (.goto 10, 3, [33], [])   := rfl
theorem k_92_26 : am_cd 92 26 = some (.aload_n 0, 1, [], [])   := rfl
theorem k_92_27 : am_cd 92 27 = some (.iload_n 1, 1, [], [])   := rfl
theorem k_92_28 : am_cd 92 28 = some (.iload_n 2, 1, [], [])   := rfl
theorem k_92_29 : am_cd 92 29 = some (.iload_n 3, 1, [], [])   := rfl
theorem k_92_30 : am_cd 92 30 = some (.invokevirtual 188, 3, [91, 4, 9], [(0, 894), (0, 896), (0, 37)])   := rfl
theorem k_92_33 : am_cd 92 33 = some (.return_, 1, [], [])   := rfl
theorem e_92_0 {x : Option Nat} {a1 a2 a3 : Option AV} : X xs L d 92 (0, [some (.inr x), a1, a2, a3], sk, h) res ↔ X xs L d 92 (1, [some (.inr x), a1, a2, a3], .inr x :: sk, h) res := i_aload_n k_92_0 rfl
theorem e_92_1 {o : Nat} : X xs L d 92 (1, lo, .inr (some o) :: sk, h) res ↔ hK h o = 9 ∧ X xs L d 92 (4, lo, .inr (hR h o 16) :: sk, h) res := i_getR k_92_1
theorem e_92_4 {x : Int32} {a0 a2 a3 : Option AV} : X xs L d 92 (4, [a0, some (.inl x), a2, a3], sk, h) res ↔ X xs L d 92 (5, [a0, some (.inl x), a2, a3], .inl x :: sk, h) res := i_iload_n k_92_4 rfl
theorem e_92_5 {o : Nat} {i : Int32} : X xs L d 92 (5, lo, .inl i :: .inr (some o) :: sk, h) res ↔ (hK h o = 20 ∧ vp_in i (hL h o)) ∧ X xs L d 92 (6, lo, .inl (hI h o i.toNatClampNeg) :: sk, h) res := i_iaload k_92_5
theorem e_92_6 : X xs L d 92 (6, lo, sk, h) res ↔ X xs L d 92 (8, lo, .inl 6 :: sk, h) res := i_bipush k_92_6
theorem e_92_8 {x y : Int32} : X xs L d 92 (8, lo, .inl y :: .inl x :: sk, h) res ↔ (if x = y then X xs L d 92 (11, lo, sk, h) res else X xs L d 92 (26, lo, sk, h) res) := i_icmp_ne k_92_8
theorem e_92_11 {x : Option Nat} {a1 a2 a3 : Option AV} : X xs L d 92 (11, [some (.inr x), a1, a2, a3], sk, h) res ↔ X xs L d 92 (12, [some (.inr x), a1, a2, a3], .inr x :: sk, h) res := i_aload_n k_92_11 rfl
theorem e_92_12 : X xs L d 92 (12, lo, sk, h) res ↔ X xs L d 92 (13, lo, .inl 3 :: sk, h) res := i_iconst k_92_12
theorem e_92_13 {o : Nat} {v : Int32} : X xs L d 92 (13, lo, .inl v :: .inr (some o) :: sk, h) res ↔ hK h o = 9 ∧ X xs L d 92 (16, lo, sk, sI h o 27 v) res := i_putI k_92_13
theorem e_92_16 {x : Option Nat} {a1 a2 a3 : Option AV} : X xs L d 92 (16, [some (.inr x), a1, a2, a3], sk, h) res ↔ X xs L d 92 (17, [some (.inr x), a1, a2, a3], .inr x :: sk, h) res := i_aload_n k_92_16 rfl
theorem e_92_17 : X xs L d 92 (17, lo, sk, h) res ↔ X xs L d 92 (20, lo, .inl 1002 :: sk, h) res := i_sipush k_92_17
theorem e_92_20 {o : Nat} {v : Int32} : X xs L d 92 (20, lo, .inl v :: .inr (some o) :: sk, h) res ↔ hK h o = 9 ∧ X xs L d 92 (23, lo, sk, sI h o 28 v) res := i_putI k_92_20
theorem e_92_23 : X xs L d 92 (23, lo, sk, h) res ↔ X xs L d 92 (33, lo, sk, h) res := i_goto k_92_23
theorem e_92_26 {x : Option Nat} {a1 a2 a3 : Option AV} : X xs L d 92 (26, [some (.inr x), a1, a2, a3], sk, h) res ↔ X xs L d 92 (27, [some (.inr x), a1, a2, a3], .inr x :: sk, h) res := i_aload_n k_92_26 rfl
theorem e_92_27 {x : Int32} {a0 a2 a3 : Option AV} : X xs L d 92 (27, [a0, some (.inl x), a2, a3], sk, h) res ↔ X xs L d 92 (28, [a0, some (.inl x), a2, a3], .inl x :: sk, h) res := i_iload_n k_92_27 rfl
theorem e_92_28 {x : Int32} {a0 a1 a3 : Option AV} : X xs L d 92 (28, [a0, a1, some (.inl x), a3], sk, h) res ↔ X xs L d 92 (29, [a0, a1, some (.inl x), a3], .inl x :: sk, h) res := i_iload_n k_92_28 rfl
theorem e_92_29 {x : Int32} {a0 a1 a2 : Option AV} : X xs L d 92 (29, [a0, a1, a2, some (.inl x)], sk, h) res ↔ X xs L d 92 (30, [a0, a1, a2, some (.inl x)], .inl x :: sk, h) res := i_iload_n k_92_29 rfl
theorem e_92_30 {o : Nat} {v0 : Int32} {v1 : Int32} {v2 : Int32} (hs : sk.length ≤ 8) : X xs L d 92 (30, lo, .inl v2 :: .inl v1 :: .inl v0 :: .inr (some o) :: sk, h) res ↔ hK h o = 9 ∧ ∃ q : Res, Rn xs L d 91 [.inr (some o), .inl v0, .inl v1, .inl v2] h q ∧ X xs L d 92 (33, lo, q.1.toList ++ sk, q.2) res := i_callV k_92_30 rfl ⟨Nat.le_add_left 4 sk.length, Nat.le_trans (Nat.add_le_add_right hs 4) (Nat.le_of_eq (Nat.add_comm 8 4))⟩
theorem e_92_33 : X xs L d 92 (33, lo, [], h) res ↔ res = (none, h) := i_vret k_92_33 rfl
theorem k_93_0 : am_cd 93 0 = some (.aload_n 0, 1, [], [])   := rfl
theorem k_93_1 : am_cd 93 1 = some (.getfield 13, 3, [9, 2, 2], [(0, 706)])   := rfl
theorem k_93_4 : am_cd 93 4 = some (.aload_n 0, 1, [], [])   := rfl
theorem k_93_5 : am_cd 93 5 = some (.getfield 53, 3, [9, 18, 2], [(0, 722)])   := rfl
theorem k_93_8 : am_cd 93 8 = some (.iload_n 1, 1, [], [])   := rfl
theorem k_93_9 : am_cd 93 9 = some (.iaload, 1, [], [])   := rfl
theorem k_93_10 : am_cd 93 10 = some (.caload, 1, [], [])   := rfl
theorem k_93_11 : am_cd 93 11 = some (.bipush 125, 2, [], [(125, 0)])   := rfl
theorem k_93_13 : am_cd 93 13 = some (.if_icmp .eq 17, 3, [30], [])   := rfl
theorem k_93_16 : am_cd 93 16 = some (.aload_n 0, 1, [], [])   := rfl
theorem k_93_17 : am_cd 93 17 = some (.getfield 56, 3, [9, 19, 2], [(0, 723)])   := rfl
theorem k_93_20 : am_cd 93 20 = some (.iload_n 1, 1, [], [])   := rfl
theorem k_93_21 : am_cd 93 21 = some (.aload_n 0, 1, [], [])   := rfl
theorem k_93_22 : am_cd 93 22 = some (.getfield 53, 3, [9, 18, 2], [(0, 722)])   := rfl
theorem k_93_25 : am_cd 93 25 = some (.iload_n 1, 1, [], [])   := rfl
theorem k_93_26 : am_cd 93 26 = some (.iaload, 1, [], [])   := rfl
theorem k_93_27 : am_cd 93 27 = some (.iastore, 1, [], [])   := rfl
theorem k_93_28 : am_cd 93 28 = some (.iconst 1, 1, [], [(1, 0)])   := rfl
theorem k_93_29 : am_cd 93 29 = some (.ireturn, 1, [], [])   := rfl
theorem k_93_30 : am_cd 93 30 = some (.aload_n 0, 1, [], [])   := rfl
theorem k_93_31 : am_cd 93 31 = some (.getfield 16, 3, [9, 6, 2], [(0, 710)])   := rfl
theorem k_93_34 : am_cd 93 34 = some (.aload_n 0, 1, [], [])   := rfl
theorem k_93_35 : am_cd 93 35 = some (.getfield 53, 3, [9, 18, 2], [(0, 722)])   := rfl
theorem k_93_38 : am_cd 93 38 = some (.iload_n 1, 1, [], [])   := rfl
theorem k_93_39 : am_cd 93 39 = some (.iaload, 1, [], [])   := rfl
theorem k_93_40 : am_cd 93 40 = some (.iaload, 1, [], [])   := rfl
theorem k_93_41 : am_cd 93 41 = some (.istore_n 2, 1, [], [])   := rfl
theorem k_93_42 : am_cd 93 42 = some (.aload_n 0, 1, [], [])   := rfl
theorem k_93_43 : am_cd 93 43 = some (.getfield 20, 3, [9, 7, 2], [(0, 711)])   := rfl
theorem k_93_46 : am_cd 93 46 = some (.iload_n 2, 1, [], [])   := rfl
theorem k_93_47 : am_cd 93 47 = some (.iaload, 1, [], [])   := rfl
theorem k_93_48 : am_cd 93 48 = some (.ifCond .ne 16, 3, [64], [])   := rfl
theorem k_93_51 : am_cd 93 51 = some (.aload_n 0, 1, [], [])   := rfl
theorem k_93_52 : am_cd 93 52 = some (.iconst 4, 1, [], [(4, 0)])   := rfl
theorem k_93_53 : am_cd 93 53 = some (.putfield 182, 3, [9, 27, 0], [(0, 731)])   := rfl
theorem k_93_56 : am_cd 93 56 = some (.aload_n 0, 1, [], [])   := rfl
theorem k_93_57 : am_cd 93 57 = some (.iconst 0, 1, [], [(0, 0)])   := rfl
theorem k_93_58 : am_cd 93 58 = some (.putfield 185, 3, [9, 28, 0], [(0, 732)])   := rfl
theorem k_93_61 : am_cd 93 61 = some (.goto 72, 3, [133], [])   := rfl
theorem k_93_64 : am_cd 93 64 = some (.aload_n 0, 1, [], [])   := rfl
theorem k_93_65 : am_cd 93 65 = some (.getfield 20, 3, [9, 7, 2], [(0, 711)])   := rfl
theorem k_93_68 : am_cd 93 68 = some (.iload_n 2, 1, [], [])   := rfl
theorem k_93_69 : am_cd 93 69 = some (.iaload, 1, [], [])   := rfl
theorem k_93_70 : am_cd 93 70 = some (.iconst 2, 1, [], [(2, 0)])   := rfl
theorem k_93_71 : am_cd 93 71 = some (.if_icmp .ne 18, 3, [89], [])   := rfl
theorem k_93_74 : am_cd 93 74 = some (.aload_n 0, 1, [], [])   := rfl
theorem k_93_75 : am_cd 93 75 = some (.getfield 53, 3, [9, 18, 2], [(0, 722)])   := rfl
theorem k_93_78 : am_cd 93 78 = some (.iload_n 1, 1, [], [])   := rfl
theorem k_93_79 : am_cd 93 79 = some (.aload_n 0, 1, [], [])   := rfl
theorem k_93_80 : am_cd 93 80 = some (.getfield 23, 3, [9, 8, 2], [(0, 712)])   := rfl
theorem k_93_83 : am_cd 93 83 = some (.iload_n 2, 1, [], [])   := rfl
theorem k_93_84 : am_cd 93 84 = some (.iaload, 1, [], [])   := rfl
theorem k_93_85 : am_cd 93 85 = some (.iastore, 1, [], [])   := rfl
theorem k_93_86 : am_cd 93 86 = some (.goto 47, 3, [133], [])   := rfl
theorem k_93_89 : am_cd 93 89 = some (.aload_n 0, 1, [], [])   := rfl
theorem k_93_90 : am_cd 93 90 = some (.getfield 20, 3, [9, 7, 2], [(0, 711)])   := rfl
theorem k_93_93 : am_cd 93 93 = some (.iload_n 2, 1, [], [])   := rfl
theorem k_93_94 : am_cd 93 94 = some (.iaload, 1, [], [])   := rfl
theorem k_93_95 : am_cd 93 95 = some (.iconst 3, 1, [], [(3, 0)])   := rfl
theorem k_93_96 : am_cd 93 96 = some (.if_icmp .ne 27, 3, [123], [])   := rfl
theorem k_93_99 : am_cd 93 99 = some (.aload_n 0, 1, [], [])   := rfl
theorem k_93_100 : am_cd 93 100 = some (.getfield 53, 3, [9, 18, 2], [(0, 722)])   := rfl
theorem k_93_103 : am_cd 93 103 = some (.iload_n 1, 1, [], [])   := rfl
theorem k_93_104 : am_cd 93 104 = some (.aload_n 0, 1, [], [])   := rfl
theorem k_93_105 : am_cd 93 105 = some (.getfield 16, 3, [9, 6, 2], [(0, 710)])   := rfl
theorem k_93_108 : am_cd 93 108 = some (.aload_n 0, 1, [], [])   := rfl
theorem k_93_109 : am_cd 93 109 = some (.getfield 53, 3, [9, 18, 2], [(0, 722)])   := rfl
theorem k_93_112 : am_cd 93 112 = some (.iload_n 1, 1, [], [])   := rfl
theorem k_93_113 : am_cd 93 113 = some (.iaload, 1, [], [])   := rfl
theorem k_93_114 : am_cd 93 114 = some (.iconst 1, 1, [], [(1, 0)])   := rfl
theorem k_93_115 : am_cd 93 115 = some (.iadd, 1, [], [])   := rfl
theorem k_93_116 : am_cd 93 116 = some (.iaload, 1, [], [])   := rfl
theorem k_93_117 : am_cd 93 117 = some (.iconst 1, 1, [], [(1, 0)])   := rfl
theorem k_93_118 : am_cd 93 118 = some (.iadd, 1, [], [])   := rfl
theorem k_93_119 : am_cd 93 119 = some (.iastore, 1, [], [])   := rfl
theorem k_93_120 : am_cd 93 120 = some (.goto 13, 3, [133], [])   := rfl
theorem k_93_123 : am_cd 93 123 = some (.aload_n 0, 1, [], [])   := rfl
theorem k_93_124 : am_cd 93 124 = some (.getfield 53, 3, [9, 18, 2], [(0, 722)])   := rfl
theorem k_93_127 : am_cd 93 127 = some (.iload_n 1, 1, [], [])   := rfl
theorem k_93_128 : am_cd 93 128 = some (.dup2, 1, [], [])   := rfl
theorem k_93_129 : am_cd 93 129 = some (.iaload, 1, [], [])   := rfl
theorem k_93_130 : am_cd 93 130 = some (.iconst 1, 1, [], [(1, 0)])   := rfl
theorem k_93_131 : am_cd 93 131 = some (.iadd, 1, [], [])   := rfl
theorem k_93_132 : am_cd 93 132 = some (.iastore, 1, [], [])   := rfl
theorem k_93_133 : am_cd 93 133 = some (.iconst 0, 1, [], [(0, 0)])   := rfl
theorem k_93_134 : am_cd 93 134 = some (.ireturn, 1, [], [])   := rfl
theorem e_93_0 {x : Option Nat} {a1 a2 : Option AV} : X xs L d 93 (0, [some (.inr x), a1, a2], sk, h) res ↔ X xs L d 93 (1, [some (.inr x), a1, a2], .inr x :: sk, h) res := i_aload_n k_93_0 rfl
theorem e_93_1 {o : Nat} : X xs L d 93 (1, lo, .inr (some o) :: sk, h) res ↔ hK h o = 9 ∧ X xs L d 93 (4, lo, .inr (hR h o 2) :: sk, h) res := i_getR k_93_1
theorem e_93_4 {x : Option Nat} {a1 a2 : Option AV} : X xs L d 93 (4, [some (.inr x), a1, a2], sk, h) res ↔ X xs L d 93 (5, [some (.inr x), a1, a2], .inr x :: sk, h) res := i_aload_n k_93_4 rfl
theorem e_93_5 {o : Nat} : X xs L d 93 (5, lo, .inr (some o) :: sk, h) res ↔ hK h o = 9 ∧ X xs L d 93 (8, lo, .inr (hR h o 18) :: sk, h) res := i_getR k_93_5
theorem e_93_8 {x : Int32} {a0 a2 : Option AV} : X xs L d 93 (8, [a0, some (.inl x), a2], sk, h) res ↔ X xs L d 93 (9, [a0, some (.inl x), a2], .inl x :: sk, h) res := i_iload_n k_93_8 rfl
theorem e_93_9 {o : Nat} {i : Int32} : X xs L d 93 (9, lo, .inl i :: .inr (some o) :: sk, h) res ↔ (hK h o = 20 ∧ vp_in i (hL h o)) ∧ X xs L d 93 (10, lo, .inl (hI h o i.toNatClampNeg) :: sk, h) res := i_iaload k_93_9
theorem e_93_10 {o : Nat} {i : Int32} : X xs L d 93 (10, lo, .inl i :: .inr (some o) :: sk, h) res ↔ (hK h o = 21 ∧ vp_in i (hL h o)) ∧ X xs L d 93 (11, lo, .inl (hI h o i.toNatClampNeg) :: sk, h) res := i_caload k_93_10
theorem e_93_11 : X xs L d 93 (11, lo, sk, h) res ↔ X xs L d 93 (13, lo, .inl 125 :: sk, h) res := i_bipush k_93_11
theorem e_93_13 {x y : Int32} : X xs L d 93 (13, lo, .inl y :: .inl x :: sk, h) res ↔ (if x = y then X xs L d 93 (30, lo, sk, h) res else X xs L d 93 (16, lo, sk, h) res) := i_icmp_eq k_93_13
theorem e_93_16 {x : Option Nat} {a1 a2 : Option AV} : X xs L d 93 (16, [some (.inr x), a1, a2], sk, h) res ↔ X xs L d 93 (17, [some (.inr x), a1, a2], .inr x :: sk, h) res := i_aload_n k_93_16 rfl
theorem e_93_17 {o : Nat} : X xs L d 93 (17, lo, .inr (some o) :: sk, h) res ↔ hK h o = 9 ∧ X xs L d 93 (20, lo, .inr (hR h o 19) :: sk, h) res := i_getR k_93_17
theorem e_93_20 {x : Int32} {a0 a2 : Option AV} : X xs L d 93 (20, [a0, some (.inl x), a2], sk, h) res ↔ X xs L d 93 (21, [a0, some (.inl x), a2], .inl x :: sk, h) res := i_iload_n k_93_20 rfl
theorem e_93_21 {x : Option Nat} {a1 a2 : Option AV} : X xs L d 93 (21, [some (.inr x), a1, a2], sk, h) res ↔ X xs L d 93 (22, [some (.inr x), a1, a2], .inr x :: sk, h) res := i_aload_n k_93_21 rfl
theorem e_93_22 {o : Nat} : X xs L d 93 (22, lo, .inr (some o) :: sk, h) res ↔ hK h o = 9 ∧ X xs L d 93 (25, lo, .inr (hR h o 18) :: sk, h) res := i_getR k_93_22
theorem e_93_25 {x : Int32} {a0 a2 : Option AV} : X xs L d 93 (25, [a0, some (.inl x), a2], sk, h) res ↔ X xs L d 93 (26, [a0, some (.inl x), a2], .inl x :: sk, h) res := i_iload_n k_93_25 rfl
theorem e_93_26 {o : Nat} {i : Int32} : X xs L d 93 (26, lo, .inl i :: .inr (some o) :: sk, h) res ↔ (hK h o = 20 ∧ vp_in i (hL h o)) ∧ X xs L d 93 (27, lo, .inl (hI h o i.toNatClampNeg) :: sk, h) res := i_iaload k_93_26
theorem e_93_27 {o : Nat} {i v : Int32} : X xs L d 93 (27, lo, .inl v :: .inl i :: .inr (some o) :: sk, h) res ↔ (hK h o = 20 ∧ vp_in i (hL h o)) ∧ X xs L d 93 (28, lo, sk, sI h o i.toNatClampNeg (v)) res := i_iastore k_93_27
theorem e_93_28 : X xs L d 93 (28, lo, sk, h) res ↔ X xs L d 93 (29, lo, .inl 1 :: sk, h) res := i_iconst k_93_28
theorem e_93_29 {v : Int32} : X xs L d 93 (29, lo, [.inl v], h) res ↔ (v = 0 ∨ v = 1) ∧ res = (some (.inl v), h) := i_zret k_93_29 rfl
theorem e_93_30 {x : Option Nat} {a1 a2 : Option AV} : X xs L d 93 (30, [some (.inr x), a1, a2], sk, h) res ↔ X xs L d 93 (31, [some (.inr x), a1, a2], .inr x :: sk, h) res := i_aload_n k_93_30 rfl
theorem e_93_31 {o : Nat} : X xs L d 93 (31, lo, .inr (some o) :: sk, h) res ↔ hK h o = 9 ∧ X xs L d 93 (34, lo, .inr (hR h o 6) :: sk, h) res := i_getR k_93_31
theorem e_93_34 {x : Option Nat} {a1 a2 : Option AV} : X xs L d 93 (34, [some (.inr x), a1, a2], sk, h) res ↔ X xs L d 93 (35, [some (.inr x), a1, a2], .inr x :: sk, h) res := i_aload_n k_93_34 rfl
theorem e_93_35 {o : Nat} : X xs L d 93 (35, lo, .inr (some o) :: sk, h) res ↔ hK h o = 9 ∧ X xs L d 93 (38, lo, .inr (hR h o 18) :: sk, h) res := i_getR k_93_35
theorem e_93_38 {x : Int32} {a0 a2 : Option AV} : X xs L d 93 (38, [a0, some (.inl x), a2], sk, h) res ↔ X xs L d 93 (39, [a0, some (.inl x), a2], .inl x :: sk, h) res := i_iload_n k_93_38 rfl
theorem e_93_39 {o : Nat} {i : Int32} : X xs L d 93 (39, lo, .inl i :: .inr (some o) :: sk, h) res ↔ (hK h o = 20 ∧ vp_in i (hL h o)) ∧ X xs L d 93 (40, lo, .inl (hI h o i.toNatClampNeg) :: sk, h) res := i_iaload k_93_39
theorem e_93_40 {o : Nat} {i : Int32} : X xs L d 93 (40, lo, .inl i :: .inr (some o) :: sk, h) res ↔ (hK h o = 20 ∧ vp_in i (hL h o)) ∧ X xs L d 93 (41, lo, .inl (hI h o i.toNatClampNeg) :: sk, h) res := i_iaload k_93_40
theorem e_93_41 {x : Int32} {a0 a1 a2 : Option AV} : X xs L d 93 (41, [a0, a1, a2], .inl x :: sk, h) res ↔ X xs L d 93 (42, [a0, a1, some (.inl x)], sk, h) res := i_istore_n k_93_41 (Nat.le_of_ble_eq_true rfl) rfl
theorem e_93_42 {x : Option Nat} {a1 a2 : Option AV} : X xs L d 93 (42, [some (.inr x), a1, a2], sk, h) res ↔ X xs L d 93 (43, [some (.inr x), a1, a2], .inr x :: sk, h) res := i_aload_n k_93_42 rfl
theorem e_93_43 {o : Nat} : X xs L d 93 (43, lo, .inr (some o) :: sk, h) res ↔ hK h o = 9 ∧ X xs L d 93 (46, lo, .inr (hR h o 7) :: sk, h) res := i_getR k_93_43
theorem e_93_46 {x : Int32} {a0 a1 : Option AV} : X xs L d 93 (46, [a0, a1, some (.inl x)], sk, h) res ↔ X xs L d 93 (47, [a0, a1, some (.inl x)], .inl x :: sk, h) res := i_iload_n k_93_46 rfl
theorem e_93_47 {o : Nat} {i : Int32} : X xs L d 93 (47, lo, .inl i :: .inr (some o) :: sk, h) res ↔ (hK h o = 20 ∧ vp_in i (hL h o)) ∧ X xs L d 93 (48, lo, .inl (hI h o i.toNatClampNeg) :: sk, h) res := i_iaload k_93_47
theorem e_93_48 {x : Int32} : X xs L d 93 (48, lo, .inl x :: sk, h) res ↔ (if x = 0 then X xs L d 93 (51, lo, sk, h) res else X xs L d 93 (64, lo, sk, h) res) := i_if_ne k_93_48
theorem e_93_51 {x : Option Nat} {a1 a2 : Option AV} : X xs L d 93 (51, [some (.inr x), a1, a2], sk, h) res ↔ X xs L d 93 (52, [some (.inr x), a1, a2], .inr x :: sk, h) res := i_aload_n k_93_51 rfl
theorem e_93_52 : X xs L d 93 (52, lo, sk, h) res ↔ X xs L d 93 (53, lo, .inl 4 :: sk, h) res := i_iconst k_93_52
theorem e_93_53 {o : Nat} {v : Int32} : X xs L d 93 (53, lo, .inl v :: .inr (some o) :: sk, h) res ↔ hK h o = 9 ∧ X xs L d 93 (56, lo, sk, sI h o 27 v) res := i_putI k_93_53
theorem e_93_56 {x : Option Nat} {a1 a2 : Option AV} : X xs L d 93 (56, [some (.inr x), a1, a2], sk, h) res ↔ X xs L d 93 (57, [some (.inr x), a1, a2], .inr x :: sk, h) res := i_aload_n k_93_56 rfl
theorem e_93_57 : X xs L d 93 (57, lo, sk, h) res ↔ X xs L d 93 (58, lo, .inl 0 :: sk, h) res := i_iconst k_93_57
theorem e_93_58 {o : Nat} {v : Int32} : X xs L d 93 (58, lo, .inl v :: .inr (some o) :: sk, h) res ↔ hK h o = 9 ∧ X xs L d 93 (61, lo, sk, sI h o 28 v) res := i_putI k_93_58
theorem e_93_61 : X xs L d 93 (61, lo, sk, h) res ↔ X xs L d 93 (133, lo, sk, h) res := i_goto k_93_61
theorem e_93_64 {x : Option Nat} {a1 a2 : Option AV} : X xs L d 93 (64, [some (.inr x), a1, a2], sk, h) res ↔ X xs L d 93 (65, [some (.inr x), a1, a2], .inr x :: sk, h) res := i_aload_n k_93_64 rfl
theorem e_93_65 {o : Nat} : X xs L d 93 (65, lo, .inr (some o) :: sk, h) res ↔ hK h o = 9 ∧ X xs L d 93 (68, lo, .inr (hR h o 7) :: sk, h) res := i_getR k_93_65
theorem e_93_68 {x : Int32} {a0 a1 : Option AV} : X xs L d 93 (68, [a0, a1, some (.inl x)], sk, h) res ↔ X xs L d 93 (69, [a0, a1, some (.inl x)], .inl x :: sk, h) res := i_iload_n k_93_68 rfl
theorem e_93_69 {o : Nat} {i : Int32} : X xs L d 93 (69, lo, .inl i :: .inr (some o) :: sk, h) res ↔ (hK h o = 20 ∧ vp_in i (hL h o)) ∧ X xs L d 93 (70, lo, .inl (hI h o i.toNatClampNeg) :: sk, h) res := i_iaload k_93_69
theorem e_93_70 : X xs L d 93 (70, lo, sk, h) res ↔ X xs L d 93 (71, lo, .inl 2 :: sk, h) res := i_iconst k_93_70
theorem e_93_71 {x y : Int32} : X xs L d 93 (71, lo, .inl y :: .inl x :: sk, h) res ↔ (if x = y then X xs L d 93 (74, lo, sk, h) res else X xs L d 93 (89, lo, sk, h) res) := i_icmp_ne k_93_71
theorem e_93_74 {x : Option Nat} {a1 a2 : Option AV} : X xs L d 93 (74, [some (.inr x), a1, a2], sk, h) res ↔ X xs L d 93 (75, [some (.inr x), a1, a2], .inr x :: sk, h) res := i_aload_n k_93_74 rfl
theorem e_93_75 {o : Nat} : X xs L d 93 (75, lo, .inr (some o) :: sk, h) res ↔ hK h o = 9 ∧ X xs L d 93 (78, lo, .inr (hR h o 18) :: sk, h) res := i_getR k_93_75
theorem e_93_78 {x : Int32} {a0 a2 : Option AV} : X xs L d 93 (78, [a0, some (.inl x), a2], sk, h) res ↔ X xs L d 93 (79, [a0, some (.inl x), a2], .inl x :: sk, h) res := i_iload_n k_93_78 rfl
theorem e_93_79 {x : Option Nat} {a1 a2 : Option AV} : X xs L d 93 (79, [some (.inr x), a1, a2], sk, h) res ↔ X xs L d 93 (80, [some (.inr x), a1, a2], .inr x :: sk, h) res := i_aload_n k_93_79 rfl
theorem e_93_80 {o : Nat} : X xs L d 93 (80, lo, .inr (some o) :: sk, h) res ↔ hK h o = 9 ∧ X xs L d 93 (83, lo, .inr (hR h o 8) :: sk, h) res := i_getR k_93_80
theorem e_93_83 {x : Int32} {a0 a1 : Option AV} : X xs L d 93 (83, [a0, a1, some (.inl x)], sk, h) res ↔ X xs L d 93 (84, [a0, a1, some (.inl x)], .inl x :: sk, h) res := i_iload_n k_93_83 rfl
theorem e_93_84 {o : Nat} {i : Int32} : X xs L d 93 (84, lo, .inl i :: .inr (some o) :: sk, h) res ↔ (hK h o = 20 ∧ vp_in i (hL h o)) ∧ X xs L d 93 (85, lo, .inl (hI h o i.toNatClampNeg) :: sk, h) res := i_iaload k_93_84
theorem e_93_85 {o : Nat} {i v : Int32} : X xs L d 93 (85, lo, .inl v :: .inl i :: .inr (some o) :: sk, h) res ↔ (hK h o = 20 ∧ vp_in i (hL h o)) ∧ X xs L d 93 (86, lo, sk, sI h o i.toNatClampNeg (v)) res := i_iastore k_93_85
theorem e_93_86 : X xs L d 93 (86, lo, sk, h) res ↔ X xs L d 93 (133, lo, sk, h) res := i_goto k_93_86
theorem e_93_89 {x : Option Nat} {a1 a2 : Option AV} : X xs L d 93 (89, [some (.inr x), a1, a2], sk, h) res ↔ X xs L d 93 (90, [some (.inr x), a1, a2], .inr x :: sk, h) res := i_aload_n k_93_89 rfl
theorem e_93_90 {o : Nat} : X xs L d 93 (90, lo, .inr (some o) :: sk, h) res ↔ hK h o = 9 ∧ X xs L d 93 (93, lo, .inr (hR h o 7) :: sk, h) res := i_getR k_93_90
theorem e_93_93 {x : Int32} {a0 a1 : Option AV} : X xs L d 93 (93, [a0, a1, some (.inl x)], sk, h) res ↔ X xs L d 93 (94, [a0, a1, some (.inl x)], .inl x :: sk, h) res := i_iload_n k_93_93 rfl
theorem e_93_94 {o : Nat} {i : Int32} : X xs L d 93 (94, lo, .inl i :: .inr (some o) :: sk, h) res ↔ (hK h o = 20 ∧ vp_in i (hL h o)) ∧ X xs L d 93 (95, lo, .inl (hI h o i.toNatClampNeg) :: sk, h) res := i_iaload k_93_94
theorem e_93_95 : X xs L d 93 (95, lo, sk, h) res ↔ X xs L d 93 (96, lo, .inl 3 :: sk, h) res := i_iconst k_93_95
theorem e_93_96 {x y : Int32} : X xs L d 93 (96, lo, .inl y :: .inl x :: sk, h) res ↔ (if x = y then X xs L d 93 (99, lo, sk, h) res else X xs L d 93 (123, lo, sk, h) res) := i_icmp_ne k_93_96
theorem e_93_99 {x : Option Nat} {a1 a2 : Option AV} : X xs L d 93 (99, [some (.inr x), a1, a2], sk, h) res ↔ X xs L d 93 (100, [some (.inr x), a1, a2], .inr x :: sk, h) res := i_aload_n k_93_99 rfl
theorem e_93_100 {o : Nat} : X xs L d 93 (100, lo, .inr (some o) :: sk, h) res ↔ hK h o = 9 ∧ X xs L d 93 (103, lo, .inr (hR h o 18) :: sk, h) res := i_getR k_93_100
theorem e_93_103 {x : Int32} {a0 a2 : Option AV} : X xs L d 93 (103, [a0, some (.inl x), a2], sk, h) res ↔ X xs L d 93 (104, [a0, some (.inl x), a2], .inl x :: sk, h) res := i_iload_n k_93_103 rfl
theorem e_93_104 {x : Option Nat} {a1 a2 : Option AV} : X xs L d 93 (104, [some (.inr x), a1, a2], sk, h) res ↔ X xs L d 93 (105, [some (.inr x), a1, a2], .inr x :: sk, h) res := i_aload_n k_93_104 rfl
theorem e_93_105 {o : Nat} : X xs L d 93 (105, lo, .inr (some o) :: sk, h) res ↔ hK h o = 9 ∧ X xs L d 93 (108, lo, .inr (hR h o 6) :: sk, h) res := i_getR k_93_105
theorem e_93_108 {x : Option Nat} {a1 a2 : Option AV} : X xs L d 93 (108, [some (.inr x), a1, a2], sk, h) res ↔ X xs L d 93 (109, [some (.inr x), a1, a2], .inr x :: sk, h) res := i_aload_n k_93_108 rfl
theorem e_93_109 {o : Nat} : X xs L d 93 (109, lo, .inr (some o) :: sk, h) res ↔ hK h o = 9 ∧ X xs L d 93 (112, lo, .inr (hR h o 18) :: sk, h) res := i_getR k_93_109
theorem e_93_112 {x : Int32} {a0 a2 : Option AV} : X xs L d 93 (112, [a0, some (.inl x), a2], sk, h) res ↔ X xs L d 93 (113, [a0, some (.inl x), a2], .inl x :: sk, h) res := i_iload_n k_93_112 rfl
theorem e_93_113 {o : Nat} {i : Int32} : X xs L d 93 (113, lo, .inl i :: .inr (some o) :: sk, h) res ↔ (hK h o = 20 ∧ vp_in i (hL h o)) ∧ X xs L d 93 (114, lo, .inl (hI h o i.toNatClampNeg) :: sk, h) res := i_iaload k_93_113
theorem e_93_114 : X xs L d 93 (114, lo, sk, h) res ↔ X xs L d 93 (115, lo, .inl 1 :: sk, h) res := i_iconst k_93_114
theorem e_93_115 {x y : Int32} : X xs L d 93 (115, lo, .inl y :: .inl x :: sk, h) res ↔ X xs L d 93 (116, lo, .inl (x + y) :: sk, h) res := i_iadd k_93_115
theorem e_93_116 {o : Nat} {i : Int32} : X xs L d 93 (116, lo, .inl i :: .inr (some o) :: sk, h) res ↔ (hK h o = 20 ∧ vp_in i (hL h o)) ∧ X xs L d 93 (117, lo, .inl (hI h o i.toNatClampNeg) :: sk, h) res := i_iaload k_93_116
theorem e_93_117 : X xs L d 93 (117, lo, sk, h) res ↔ X xs L d 93 (118, lo, .inl 1 :: sk, h) res := i_iconst k_93_117
theorem e_93_118 {x y : Int32} : X xs L d 93 (118, lo, .inl y :: .inl x :: sk, h) res ↔ X xs L d 93 (119, lo, .inl (x + y) :: sk, h) res := i_iadd k_93_118
theorem e_93_119 {o : Nat} {i v : Int32} : X xs L d 93 (119, lo, .inl v :: .inl i :: .inr (some o) :: sk, h) res ↔ (hK h o = 20 ∧ vp_in i (hL h o)) ∧ X xs L d 93 (120, lo, sk, sI h o i.toNatClampNeg (v)) res := i_iastore k_93_119
theorem e_93_120 : X xs L d 93 (120, lo, sk, h) res ↔ X xs L d 93 (133, lo, sk, h) res := i_goto k_93_120
theorem e_93_123 {x : Option Nat} {a1 a2 : Option AV} : X xs L d 93 (123, [some (.inr x), a1, a2], sk, h) res ↔ X xs L d 93 (124, [some (.inr x), a1, a2], .inr x :: sk, h) res := i_aload_n k_93_123 rfl
theorem e_93_124 {o : Nat} : X xs L d 93 (124, lo, .inr (some o) :: sk, h) res ↔ hK h o = 9 ∧ X xs L d 93 (127, lo, .inr (hR h o 18) :: sk, h) res := i_getR k_93_124
theorem e_93_127 {x : Int32} {a0 a2 : Option AV} : X xs L d 93 (127, [a0, some (.inl x), a2], sk, h) res ↔ X xs L d 93 (128, [a0, some (.inl x), a2], .inl x :: sk, h) res := i_iload_n k_93_127 rfl
theorem e_93_128 {v w : AV} : X xs L d 93 (128, lo, v :: w :: sk, h) res ↔ X xs L d 93 (129, lo, v :: w :: v :: w :: sk, h) res := i_dup2 k_93_128
theorem e_93_129 {o : Nat} {i : Int32} : X xs L d 93 (129, lo, .inl i :: .inr (some o) :: sk, h) res ↔ (hK h o = 20 ∧ vp_in i (hL h o)) ∧ X xs L d 93 (130, lo, .inl (hI h o i.toNatClampNeg) :: sk, h) res := i_iaload k_93_129
theorem e_93_130 : X xs L d 93 (130, lo, sk, h) res ↔ X xs L d 93 (131, lo, .inl 1 :: sk, h) res := i_iconst k_93_130
theorem e_93_131 {x y : Int32} : X xs L d 93 (131, lo, .inl y :: .inl x :: sk, h) res ↔ X xs L d 93 (132, lo, .inl (x + y) :: sk, h) res := i_iadd k_93_131
theorem e_93_132 {o : Nat} {i v : Int32} : X xs L d 93 (132, lo, .inl v :: .inl i :: .inr (some o) :: sk, h) res ↔ (hK h o = 20 ∧ vp_in i (hL h o)) ∧ X xs L d 93 (133, lo, sk, sI h o i.toNatClampNeg (v)) res := i_iastore k_93_132
theorem e_93_133 : X xs L d 93 (133, lo, sk, h) res ↔ X xs L d 93 (134, lo, .inl 0 :: sk, h) res := i_iconst k_93_133
theorem e_93_134 {v : Int32} : X xs L d 93 (134, lo, [.inl v], h) res ↔ (v = 0 ∨ v = 1) ∧ res = (some (.inl v), h) := i_zret k_93_134 rfl
theorem k_94_0 : am_cd 94 0 = some (.aload_n 0, 1, [], [])   := rfl
theorem k_94_1 : am_cd 94 1 = some (.getfield 62, 3, [9, 21, 2], [(0, 725)])   := rfl
theorem k_94_4 : am_cd 94 4 = some (.iload_n 1, 1, [], [])   := rfl
theorem k_94_5 : am_cd 94 5 = some (.dup2, 1, [], [])   := rfl
theorem k_94_6 : am_cd 94 6 = some (.iaload, 1, [], [])   := rfl
theorem k_94_7 : am_cd 94 7 = some (.iconst 1, 1, [], [(1, 0)])   := rfl
theorem k_94_8 : am_cd 94 8 = some (.iadd, 1, [], [])   := rfl
theorem k_94_9 : am_cd 94 9 = some (.iastore, 1, [], [])   := rfl
theorem k_94_10 : am_cd 94 10 = some (.bipush 6, 2, [], [(6, 0)])   := rfl
theorem k_94_12 : am_cd 94 12 = some (.iload_n 1, 1, [], [])   := rfl
theorem k_94_13 : am_cd 94 13 = some (.imul, 1, [], [])   := rfl
theorem k_94_14 : am_cd 94 14 = some (.aload_n 0, 1, [], [])   := rfl
theorem k_94_15 : am_cd 94 15 = some (.getfield 62, 3, [9, 21, 2], [(0, 725)])   := rfl
theorem k_94_18 : am_cd 94 18 = some (.iload_n 1, 1, [], [])   := rfl
theorem k_94_19 : am_cd 94 19 = some (.iaload, 1, [], [])   := rfl
theorem k_94_20 : am_cd 94 20 = some (.iadd, 1, [], [])   := rfl
theorem k_94_21 : am_cd 94 21 = some (.istore_n 3, 1, [], [])   := rfl
theorem k_94_22 : am_cd 94 22 = some (.aload_n 0, 1, [], [])   := rfl
theorem k_94_23 : am_cd 94 23 = some (.getfield 68, 3, [9, 23, 2], [(0, 727)])   := rfl
theorem k_94_26 : am_cd 94 26 = some (.iload_n 3, 1, [], [])   := rfl
theorem k_94_27 : am_cd 94 27 = some (.iconst 0, 1, [], [(0, 0)])   := rfl
theorem k_94_28 : am_cd 94 28 = some (.castore, 1, [], [])   := rfl
theorem k_94_29 : am_cd 94 29 = some (.aload_n 0, 1, [], [])   := rfl
theorem k_94_30 : am_cd 94 30 = some (.getfield 71, 3, [9, 24, 2], [(0, 728)])   := rfl
theorem k_94_33 : am_cd 94 33 = some (.iload_n 3, 1, [], [])   := rfl
theorem k_94_34 : am_cd 94 34 = some (.iload_n 2, 1, [], [])   := rfl
theorem k_94_35 : am_cd 94 35 = some (.iastore, 1, [], [])   := rfl
theorem k_94_36 : am_cd 94 36 = some (.aload_n 0, 1, [], [])   := rfl
theorem k_94_37 : am_cd 94 37 = some (.getfield 74, 3, [9, 25, 2], [(0, 729)])   := rfl
theorem k_94_40 : am_cd 94 40 = some (.iload_n 3, 1, [], [])   := rfl
theorem k_94_41 : am_cd 94 41 = some (.iconst 0, 1, [], [(0, 0)])   := rfl
theorem k_94_42 : am_cd 94 42 = some (.iastore, 1, [], [])   := rfl
theorem k_94_43 : am_cd 94 43 = some (.return_, 1, [], [])   := rfl
theorem e_94_0 {x : Option Nat} {a1 a2 a3 : Option AV} : X xs L d 94 (0, [some (.inr x), a1, a2, a3], sk, h) res ↔ X xs L d 94 (1, [some (.inr x), a1, a2, a3], .inr x :: sk, h) res := i_aload_n k_94_0 rfl
theorem e_94_1 {o : Nat} : X xs L d 94 (1, lo, .inr (some o) :: sk, h) res ↔ hK h o = 9 ∧ X xs L d 94 (4, lo, .inr (hR h o 21) :: sk, h) res := i_getR k_94_1
theorem e_94_4 {x : Int32} {a0 a2 a3 : Option AV} : X xs L d 94 (4, [a0, some (.inl x), a2, a3], sk, h) res ↔ X xs L d 94 (5, [a0, some (.inl x), a2, a3], .inl x :: sk, h) res := i_iload_n k_94_4 rfl
theorem e_94_5 {v w : AV} : X xs L d 94 (5, lo, v :: w :: sk, h) res ↔ X xs L d 94 (6, lo, v :: w :: v :: w :: sk, h) res := i_dup2 k_94_5
theorem e_94_6 {o : Nat} {i : Int32} : X xs L d 94 (6, lo, .inl i :: .inr (some o) :: sk, h) res ↔ (hK h o = 20 ∧ vp_in i (hL h o)) ∧ X xs L d 94 (7, lo, .inl (hI h o i.toNatClampNeg) :: sk, h) res := i_iaload k_94_6
theorem e_94_7 : X xs L d 94 (7, lo, sk, h) res ↔ X xs L d 94 (8, lo, .inl 1 :: sk, h) res := i_iconst k_94_7
theorem e_94_8 {x y : Int32} : X xs L d 94 (8, lo, .inl y :: .inl x :: sk, h) res ↔ X xs L d 94 (9, lo, .inl (x + y) :: sk, h) res := i_iadd k_94_8
theorem e_94_9 {o : Nat} {i v : Int32} : X xs L d 94 (9, lo, .inl v :: .inl i :: .inr (some o) :: sk, h) res ↔ (hK h o = 20 ∧ vp_in i (hL h o)) ∧ X xs L d 94 (10, lo, sk, sI h o i.toNatClampNeg (v)) res := i_iastore k_94_9
theorem e_94_10 : X xs L d 94 (10, lo, sk, h) res ↔ X xs L d 94 (12, lo, .inl 6 :: sk, h) res := i_bipush k_94_10
theorem e_94_12 {x : Int32} {a0 a2 a3 : Option AV} : X xs L d 94 (12, [a0, some (.inl x), a2, a3], sk, h) res ↔ X xs L d 94 (13, [a0, some (.inl x), a2, a3], .inl x :: sk, h) res := i_iload_n k_94_12 rfl
theorem e_94_13 {x y : Int32} : X xs L d 94 (13, lo, .inl y :: .inl x :: sk, h) res ↔ X xs L d 94 (14, lo, .inl (x * y) :: sk, h) res := i_imul k_94_13
theorem e_94_14 {x : Option Nat} {a1 a2 a3 : Option AV} : X xs L d 94 (14, [some (.inr x), a1, a2, a3], sk, h) res ↔ X xs L d 94 (15, [some (.inr x), a1, a2, a3], .inr x :: sk, h) res := i_aload_n k_94_14 rfl
theorem e_94_15 {o : Nat} : X xs L d 94 (15, lo, .inr (some o) :: sk, h) res ↔ hK h o = 9 ∧ X xs L d 94 (18, lo, .inr (hR h o 21) :: sk, h) res := i_getR k_94_15
theorem e_94_18 {x : Int32} {a0 a2 a3 : Option AV} : X xs L d 94 (18, [a0, some (.inl x), a2, a3], sk, h) res ↔ X xs L d 94 (19, [a0, some (.inl x), a2, a3], .inl x :: sk, h) res := i_iload_n k_94_18 rfl
theorem e_94_19 {o : Nat} {i : Int32} : X xs L d 94 (19, lo, .inl i :: .inr (some o) :: sk, h) res ↔ (hK h o = 20 ∧ vp_in i (hL h o)) ∧ X xs L d 94 (20, lo, .inl (hI h o i.toNatClampNeg) :: sk, h) res := i_iaload k_94_19
theorem e_94_20 {x y : Int32} : X xs L d 94 (20, lo, .inl y :: .inl x :: sk, h) res ↔ X xs L d 94 (21, lo, .inl (x + y) :: sk, h) res := i_iadd k_94_20
theorem e_94_21 {x : Int32} {a0 a1 a2 a3 : Option AV} : X xs L d 94 (21, [a0, a1, a2, a3], .inl x :: sk, h) res ↔ X xs L d 94 (22, [a0, a1, a2, some (.inl x)], sk, h) res := i_istore_n k_94_21 (Nat.le_of_ble_eq_true rfl) rfl
theorem e_94_22 {x : Option Nat} {a1 a2 a3 : Option AV} : X xs L d 94 (22, [some (.inr x), a1, a2, a3], sk, h) res ↔ X xs L d 94 (23, [some (.inr x), a1, a2, a3], .inr x :: sk, h) res := i_aload_n k_94_22 rfl
theorem e_94_23 {o : Nat} : X xs L d 94 (23, lo, .inr (some o) :: sk, h) res ↔ hK h o = 9 ∧ X xs L d 94 (26, lo, .inr (hR h o 23) :: sk, h) res := i_getR k_94_23
theorem e_94_26 {x : Int32} {a0 a1 a2 : Option AV} : X xs L d 94 (26, [a0, a1, a2, some (.inl x)], sk, h) res ↔ X xs L d 94 (27, [a0, a1, a2, some (.inl x)], .inl x :: sk, h) res := i_iload_n k_94_26 rfl
theorem e_94_27 : X xs L d 94 (27, lo, sk, h) res ↔ X xs L d 94 (28, lo, .inl 0 :: sk, h) res := i_iconst k_94_27
theorem e_94_28 {o : Nat} {i v : Int32} : X xs L d 94 (28, lo, .inl v :: .inl i :: .inr (some o) :: sk, h) res ↔ (hK h o = 21 ∧ vp_in i (hL h o)) ∧ X xs L d 94 (29, lo, sk, sI h o i.toNatClampNeg (vp_nar .char v)) res := i_castore k_94_28
theorem e_94_29 {x : Option Nat} {a1 a2 a3 : Option AV} : X xs L d 94 (29, [some (.inr x), a1, a2, a3], sk, h) res ↔ X xs L d 94 (30, [some (.inr x), a1, a2, a3], .inr x :: sk, h) res := i_aload_n k_94_29 rfl
theorem e_94_30 {o : Nat} : X xs L d 94 (30, lo, .inr (some o) :: sk, h) res ↔ hK h o = 9 ∧ X xs L d 94 (33, lo, .inr (hR h o 24) :: sk, h) res := i_getR k_94_30
theorem e_94_33 {x : Int32} {a0 a1 a2 : Option AV} : X xs L d 94 (33, [a0, a1, a2, some (.inl x)], sk, h) res ↔ X xs L d 94 (34, [a0, a1, a2, some (.inl x)], .inl x :: sk, h) res := i_iload_n k_94_33 rfl
theorem e_94_34 {x : Int32} {a0 a1 a3 : Option AV} : X xs L d 94 (34, [a0, a1, some (.inl x), a3], sk, h) res ↔ X xs L d 94 (35, [a0, a1, some (.inl x), a3], .inl x :: sk, h) res := i_iload_n k_94_34 rfl
theorem e_94_35 {o : Nat} {i v : Int32} : X xs L d 94 (35, lo, .inl v :: .inl i :: .inr (some o) :: sk, h) res ↔ (hK h o = 20 ∧ vp_in i (hL h o)) ∧ X xs L d 94 (36, lo, sk, sI h o i.toNatClampNeg (v)) res := i_iastore k_94_35
theorem e_94_36 {x : Option Nat} {a1 a2 a3 : Option AV} : X xs L d 94 (36, [some (.inr x), a1, a2, a3], sk, h) res ↔ X xs L d 94 (37, [some (.inr x), a1, a2, a3], .inr x :: sk, h) res := i_aload_n k_94_36 rfl
theorem e_94_37 {o : Nat} : X xs L d 94 (37, lo, .inr (some o) :: sk, h) res ↔ hK h o = 9 ∧ X xs L d 94 (40, lo, .inr (hR h o 25) :: sk, h) res := i_getR k_94_37
theorem e_94_40 {x : Int32} {a0 a1 a2 : Option AV} : X xs L d 94 (40, [a0, a1, a2, some (.inl x)], sk, h) res ↔ X xs L d 94 (41, [a0, a1, a2, some (.inl x)], .inl x :: sk, h) res := i_iload_n k_94_40 rfl
theorem e_94_41 : X xs L d 94 (41, lo, sk, h) res ↔ X xs L d 94 (42, lo, .inl 0 :: sk, h) res := i_iconst k_94_41
theorem e_94_42 {o : Nat} {i v : Int32} : X xs L d 94 (42, lo, .inl v :: .inl i :: .inr (some o) :: sk, h) res ↔ (hK h o = 20 ∧ vp_in i (hL h o)) ∧ X xs L d 94 (43, lo, sk, sI h o i.toNatClampNeg (v)) res := i_iastore k_94_42
theorem e_94_43 : X xs L d 94 (43, lo, [], h) res ↔ res = (none, h) := i_vret k_94_43 rfl
theorem k_95_0 : am_cd 95 0 = some (.aload_n 0, 1, [], [])   := rfl
theorem k_95_1 : am_cd 95 1 = some (.getfield 13, 3, [9, 2, 2], [(0, 706)])   := rfl
theorem k_95_4 : am_cd 95 4 = some (.aload_n 0, 1, [], [])   := rfl
theorem k_95_5 : am_cd 95 5 = some (.getfield 53, 3, [9, 18, 2], [(0, 722)])   := rfl
theorem k_95_8 : am_cd 95 8 = some (.iload_n 2, 1, [], [])   := rfl
theorem k_95_9 : am_cd 95 9 = some (.iaload, 1, [], [])   := rfl
theorem k_95_10 : am_cd 95 10 = some (.caload, 1, [], [])   := rfl
theorem k_95_11 : am_cd 95 11 = some (.istore_n 3, 1, [], [])   := rfl
theorem k_95_12 : am_cd 95 12 = some (.iload_n 3, 1, [], [])   := rfl
theorem k_95_13 : am_cd 95 13 = some (.invokestatic 106, 3, [79, 1], [(0, 880), (0, 881)])   := rfl
theorem k_95_16 : am_cd 95 16 = some (.ifCond .eq 72, 3, [88], [])   := rfl
theorem k_95_19 : am_cd 95 19 = some (.iconst 0, 1, [], [(0, 0)])   := rfl
theorem k_95_20 : am_cd 95 20 = some (.istore 4, 2, [], [])   := rfl
theorem k_95_22 : am_cd 95 22 = some (.aload_n 0, 1, [], [])   := rfl
theorem k_95_23 : am_cd 95 23 = some (.getfield 13, 3, [9, 2, 2], [(0, 706)])   := rfl
theorem k_95_26 : am_cd 95 26 = some (.aload_n 0, 1, [], [])   := rfl
theorem k_95_27 : am_cd 95 27 = some (.getfield 53, 3, [9, 18, 2], [(0, 722)])   := rfl
theorem k_95_30 : am_cd 95 30 = some (.iload_n 2, 1, [], [])   := rfl
theorem k_95_31 : am_cd 95 31 = some (.iaload, 1, [], [])   := rfl
theorem k_95_32 : am_cd 95 32 = some (.caload, 1, [], [])   := rfl
theorem k_95_33 : am_cd 95 33 = some (.invokestatic 106, 3, [79, 1], [(0, 880), (0, 881)])   := rfl
theorem k_95_36 : am_cd 95 36 = some (.ifCond .eq 38, 3, [74], [])   := rfl
theorem k_95_39 : am_cd 95 39 = some (.bipush 10, 2, [], [(10, 0)])   := rfl
theorem k_95_41 : am_cd 95 41 = some (.iload 4, 2, [], [])   := rfl
theorem k_95_43 : am_cd 95 43 = some (.imul, 1, [], [])   := rfl
theorem k_95_44 : am_cd 95 44 = some (.aload_n 0, 1, [], [])   := rfl
theorem k_95_45 : am_cd 95 45 = some (.getfield 13, 3, [9, 2, 2], [(0, 706)])   := rfl
theorem k_95_48 : am_cd 95 48 = some (.aload_n 0, 1, [], [])   := rfl
theorem k_95_49 : am_cd 95 49 = some (.getfield 53, 3, [9, 18, 2], [(0, 722)])   := rfl
theorem k_95_52 : am_cd 95 52 = some (.iload_n 2, 1, [], [])   := rfl
theorem k_95_53 : am_cd 95 53 = some (.iaload, 1, [], [])   := rfl
theorem k_95_54 : am_cd 95 54 = some (.caload, 1, [], [])   := rfl
theorem k_95_55 : am_cd 95 55 = some (.iadd, 1, [], [])   := rfl
theorem k_95_56 : am_cd 95 56 = some (.bipush 48, 2, [], [(48, 0)])   := rfl
theorem k_95_58 : am_cd 95 58 = some (.isub, 1, [], [])   := rfl
theorem k_95_59 : am_cd 95 59 = some (.istore 4, 2, [], [])   := rfl
theorem k_95_61 : am_cd 95 61 = some (.aload_n 0, 1, [], [])   := rfl
theorem k_95_62 : am_cd 95 62 = some (.getfield 53, 3, [9, 18, 2], [(0, 722)])   := rfl
theorem k_95_65 : am_cd 95 65 = some (.iload_n 2, 1, [], [])   := rfl
theorem k_95_66 : am_cd 95 66 = some (.dup2, 1, [], [])   := rfl
theorem k_95_67 : am_cd 95 67 = some (.iaload, 1, [], [])   := rfl
theorem k_95_68 : am_cd 95 68 = some (.iconst 1, 1, [], [(1, 0)])   := rfl
theorem k_95_69 : am_cd 95 69 = some (.iadd, 1, [], [])   := rfl
theorem k_95_70 : am_cd 95 70 = some (.iastore, 1, [], [])   := rfl
theorem k_95_71 : am_cd 95 71 = some (.goto (-49), 3, [22], [])   := rfl
theorem k_95_74 : am_cd 95 74 = some (.aload_n 0, 1, [], [])   := rfl
theorem k_95_75 : am_cd 95 75 = some (.iconst 2, 1, [], [(2, 0)])   := rfl
theorem k_95_76 : am_cd 95 76 = some (.putfield 182, 3, [9, 27, 0], [(0, 731)])   := rfl
theorem k_95_79 : am_cd 95 79 = some (.aload_n 0, 1, [], [])   := rfl
theorem k_95_80 : am_cd 95 80 = some (.iload 4, 2, [], [])   := rfl
theorem k_95_82 : am_cd 95 82 = some (.putfield 185, 3, [9, 28, 0], [(0, 732)])   := rfl
theorem k_95_85 : am_cd 95 85 = some (.goto 133, 3, [218], [])   := rfl
theorem k_95_88 : am_cd 95 88 = some (.iload_n 3, 1, [], [])   := rfl
theorem k_95_89 : am_cd 95 89 = some (.invokestatic 110, 3, [77, 1], [(0, 869), (0, 870)])   := rfl
theorem k_95_92 : am_cd 95 92 = some (.ifCond .eq 39, 3, [131], [])   := rfl
theorem k_95_95 : am_cd 95 95 = some (.aload_n 0, 1, [], [])   := rfl
theorem k_95_96 : am_cd 95 96 = some (.getfield 53, 3, [9, 18, 2], [(0, 722)])   := rfl
theorem k_95_99 : am_cd 95 99 = some (.iload_n 2, 1, [], [])   := rfl
theorem k_95_100 : am_cd 95 100 = some (.dup2, 1, [], [])   := rfl
theorem k_95_101 : am_cd 95 101 = some (.iaload, 1, [], [])   := rfl
theorem k_95_102 : am_cd 95 102 = some (.iconst 1, 1, [], [(1, 0)])   := rfl
theorem k_95_103 : am_cd 95 103 = some (.iadd, 1, [], [])   := rfl
theorem k_95_104 : am_cd 95 104 = some (.iastore, 1, [], [])   := rfl
theorem k_95_105 : am_cd 95 105 = some (.aload_n 0, 1, [], [])   := rfl
theorem k_95_106 : am_cd 95 106 = some (.iconst 2, 1, [], [(2, 0)])   := rfl
theorem k_95_107 : am_cd 95 107 = some (.putfield 182, 3, [9, 27, 0], [(0, 731)])   := rfl
theorem k_95_110 : am_cd 95 110 = some (.aload_n 0, 1, [], [])   := rfl
theorem k_95_111 : am_cd 95 111 = some (.aload_n 0, 1, [], [])   := rfl
theorem k_95_112 : am_cd 95 112 = some (.getfield 59, 3, [9, 20, 2], [(0, 724)])   := rfl
theorem k_95_115 : am_cd 95 115 = some (.bipush 6, 2, [], [(6, 0)])   := rfl
theorem k_95_117 : am_cd 95 117 = some (.iload_n 2, 1, [], [])   := rfl
theorem k_95_118 : am_cd 95 118 = some (.imul, 1, [], [])   := rfl
theorem k_95_119 : am_cd 95 119 = some (.iload_n 3, 1, [], [])   := rfl
theorem k_95_120 : am_cd 95 120 = some (.iadd, 1, [], [])   := rfl
theorem k_95_121 : am_cd 95 121 = some (.bipush 97, 2, [], [(97, 0)])   := rfl
theorem k_95_123 : am_cd 95 123 = some (.isub, 1, [], [])   := rfl
theorem k_95_124 : am_cd 95 124 = some (.iaload, 1, [], [])   := rfl
theorem k_95_125 : am_cd 95 125 = some (.putfield 185, 3, [9, 28, 0], [(0, 732)])   := rfl
theorem k_95_128 : am_cd 95 128 = some (.goto 90, 3, [218], [])   := rfl
theorem k_95_131 : am_cd 95 131 = some (.iload_n 3, 1, [], [])   := rfl
theorem k_95_132 : am_cd 95 132 = some (.bipush 40, 2, [], [(40, 0)])   := rfl
theorem k_95_134 : am_cd 95 134 = some (.if_icmp .ne 22, 3, [156], [])   := rfl
theorem k_95_137 : am_cd 95 137 = some (.aload_n 0, 1, [], [])   := rfl
theorem k_95_138 : am_cd 95 138 = some (.getfield 53, 3, [9, 18, 2], [(0, 722)])   := rfl
theorem k_95_141 : am_cd 95 141 = some (.iload_n 2, 1, [], [])   := rfl
theorem k_95_142 : am_cd 95 142 = some (.dup2, 1, [], [])   := rfl
theorem k_95_143 : am_cd 95 143 = some (.iaload, 1, [], [])   := rfl
theorem k_95_144 : am_cd 95 144 = some (.iconst 1, 1, [], [(1, 0)])   := rfl
theorem k_95_145 : am_cd 95 145 = some (.iadd, 1, [], [])   := rfl
theorem k_95_146 : am_cd 95 146 = some (.iastore, 1, [], [])   := rfl
theorem k_95_147 : am_cd 95 147 = some (.aload_n 0, 1, [], [])   := rfl
theorem k_95_148 : am_cd 95 148 = some (.iload_n 2, 1, [], [])   := rfl
theorem k_95_149 : am_cd 95 149 = some (.iconst 1, 1, [], [(1, 0)])   := rfl
theorem k_95_150 : am_cd 95 150 = some (.invokevirtual 192, 3, [94, 3, 9], [(0, 914), (0, 916), (0, 42)])   := rfl
theorem k_95_153 : am_cd 95 153 = some (.goto 65, 3, [218], [])   := rfl
theorem k_95_156 : am_cd 95 156 = some (.aload_n 0, 1, [], [])   := rfl
theorem k_95_157 : am_cd 95 157 = some (.getfield 13, 3, [9, 2, 2], [(0, 706)])   := rfl
theorem k_95_160 : am_cd 95 160 = some (.aload_n 0, 1, [], [])   := rfl
theorem k_95_161 : am_cd 95 161 = some (.getfield 53, 3, [9, 18, 2], [(0, 722)])   := rfl
theorem k_95_164 : am_cd 95 164 = some (.iload_n 2, 1, [], [])   := rfl
theorem k_95_165 : am_cd 95 165 = some (.iaload, 1, [], [])   := rfl
theorem k_95_166 : am_cd 95 166 = some (.iconst 2, 1, [], [(2, 0)])   := rfl
theorem k_95_167 : am_cd 95 167 = some (.iadd, 1, [], [])   := rfl
theorem k_95_168 : am_cd 95 168 = some (.caload, 1, [], [])   := rfl
theorem k_95_169 : am_cd 95 169 = some (.bipush 41, 2, [], [(41, 0)])   := rfl
theorem k_95_171 : am_cd 95 171 = some (.if_icmp .ne 26, 3, [197], [])   := rfl
theorem k_95_174 : am_cd 95 174 = some (.aload_n 0, 1, [], [])   := rfl
theorem k_95_175 : am_cd 95 175 = some (.getfield 53, 3, [9, 18, 2], [(0, 722)])   := rfl
theorem k_95_178 : am_cd 95 178 = some (.iload_n 2, 1, [], [])   := rfl
theorem k_95_179 : am_cd 95 179 = some (.dup2, 1, [], [])   := rfl
theorem k_95_180 : am_cd 95 180 = some (.iaload, 1, [], [])   := rfl
theorem k_95_181 : am_cd 95 181 = some (.iconst 3, 1, [], [(3, 0)])   := rfl
theorem k_95_182 : am_cd 95 182 = some (.iadd, 1, [], [])   := rfl
theorem k_95_183 : am_cd 95 183 = some (.iastore, 1, [], [])   := rfl
theorem k_95_184 : am_cd 95 184 = some (.aload_n 0, 1, [], [])   := rfl
theorem k_95_185 : am_cd 95 185 = some (.iload_n 1, 1, [], [])   := rfl
theorem k_95_186 : am_cd 95 186 = some (.iload_n 3, 1, [], [])   := rfl
theorem k_95_187 : am_cd 95 187 = some (.bipush 65, 2, [], [(65, 0)])   := rfl
theorem k_95_189 : am_cd 95 189 = some (.isub, 1, [], [])   := rfl
theorem k_95_190 : am_cd 95 190 = some (.iconst 0, 1, [], [(0, 0)])   := rfl
theorem k_95_191 : am_cd 95 191 = some (.invokevirtual 196, 3, [92, 4, 9], [(0, 918), (0, 920), (0, 43)])   := rfl
theorem k_95_194 : am_cd 95 194 = some (.goto 24, 3, [218], [])   := rfl
theorem k_95_197 : am_cd 95 197 = some (.aload_n 0, 1, [], [])   := rfl
theorem k_95_198 : am_cd 95 198 = some (.getfield 53, 3, [9, 18, 2], [(0, 722)])   := rfl
theorem k_95_201 : am_cd 95 201 = some (.iload_n 2, 1, [], [])   := rfl
theorem k_95_202 : am_cd 95 202 = some (.dup2, 1, [], [])   := rfl
theorem k_95_203 : am_cd 95 203 = some (.iaload, 1, [], [])   := rfl
theorem k_95_204 : am_cd 95 204 = some (.iconst 2, 1, [], [(2, 0)])   := rfl
theorem k_95_205 : am_cd 95 205 = some (.iadd, 1, [], [])   := rfl
theorem k_95_206 : am_cd 95 206 = some (.iastore, 1, [], [])   := rfl
theorem k_95_207 : am_cd 95 207 = some (.aload_n 0, 1, [], [])   := rfl
theorem k_95_208 : am_cd 95 208 = some (.iload_n 2, 1, [], [])   := rfl
theorem k_95_209 : am_cd 95 209 = some (.iconst 2, 1, [], [(2, 0)])   := rfl
theorem k_95_210 : am_cd 95 210 = some (.iload_n 3, 1, [], [])   := rfl
theorem k_95_211 : am_cd 95 211 = some (.iadd, 1, [], [])   := rfl
theorem k_95_212 : am_cd 95 212 = some (.bipush 65, 2, [], [(65, 0)])   := rfl
theorem k_95_214 : am_cd 95 214 = some (.isub, 1, [], [])   := rfl
theorem k_95_215 : am_cd 95 215 = some (.invokevirtual 192, 3, [94, 3, 9], [(0, 914), (0, 916), (0, 42)])   := rfl
theorem k_95_218 : am_cd 95 218 = some (.return_, 1, [], [])   := rfl
theorem e_95_0 {x : Option Nat} {a1 a2 a3 a4 : Option AV} : X xs L d 95 (0, [some (.inr x), a1, a2, a3, a4], sk, h) res ↔ X xs L d 95 (1, [some (.inr x), a1, a2, a3, a4], .inr x :: sk, h) res := i_aload_n k_95_0 rfl
theorem e_95_1 {o : Nat} : X xs L d 95 (1, lo, .inr (some o) :: sk, h) res ↔ hK h o = 9 ∧ X xs L d 95 (4, lo, .inr (hR h o 2) :: sk, h) res := i_getR k_95_1
theorem e_95_4 {x : Option Nat} {a1 a2 a3 a4 : Option AV} : X xs L d 95 (4, [some (.inr x), a1, a2, a3, a4], sk, h) res ↔ X xs L d 95 (5, [some (.inr x), a1, a2, a3, a4], .inr x :: sk, h) res := i_aload_n k_95_4 rfl
theorem e_95_5 {o : Nat} : X xs L d 95 (5, lo, .inr (some o) :: sk, h) res ↔ hK h o = 9 ∧ X xs L d 95 (8, lo, .inr (hR h o 18) :: sk, h) res := i_getR k_95_5
theorem e_95_8 {x : Int32} {a0 a1 a3 a4 : Option AV} : X xs L d 95 (8, [a0, a1, some (.inl x), a3, a4], sk, h) res ↔ X xs L d 95 (9, [a0, a1, some (.inl x), a3, a4], .inl x :: sk, h) res := i_iload_n k_95_8 rfl
theorem e_95_9 {o : Nat} {i : Int32} : X xs L d 95 (9, lo, .inl i :: .inr (some o) :: sk, h) res ↔ (hK h o = 20 ∧ vp_in i (hL h o)) ∧ X xs L d 95 (10, lo, .inl (hI h o i.toNatClampNeg) :: sk, h) res := i_iaload k_95_9
theorem e_95_10 {o : Nat} {i : Int32} : X xs L d 95 (10, lo, .inl i :: .inr (some o) :: sk, h) res ↔ (hK h o = 21 ∧ vp_in i (hL h o)) ∧ X xs L d 95 (11, lo, .inl (hI h o i.toNatClampNeg) :: sk, h) res := i_caload k_95_10
theorem e_95_11 {x : Int32} {a0 a1 a2 a3 a4 : Option AV} : X xs L d 95 (11, [a0, a1, a2, a3, a4], .inl x :: sk, h) res ↔ X xs L d 95 (12, [a0, a1, a2, some (.inl x), a4], sk, h) res := i_istore_n k_95_11 (Nat.le_of_ble_eq_true rfl) rfl
theorem e_95_12 {x : Int32} {a0 a1 a2 a4 : Option AV} : X xs L d 95 (12, [a0, a1, a2, some (.inl x), a4], sk, h) res ↔ X xs L d 95 (13, [a0, a1, a2, some (.inl x), a4], .inl x :: sk, h) res := i_iload_n k_95_12 rfl
theorem e_95_13 {v0 : Int32} (hs : sk.length ≤ 8) : X xs L d 95 (13, lo, .inl v0 :: sk, h) res ↔ ∃ q : Res, Rn xs L d 79 [.inl v0] h q ∧ X xs L d 95 (16, lo, q.1.toList ++ sk, q.2) res := i_callS k_95_13 ⟨Nat.le_add_left 1 sk.length, Nat.le_trans (Nat.add_le_add_right hs 1) (Nat.le_of_eq (Nat.add_comm 8 1))⟩
theorem e_95_16 {x : Int32} : X xs L d 95 (16, lo, .inl x :: sk, h) res ↔ (if x = 0 then X xs L d 95 (88, lo, sk, h) res else X xs L d 95 (19, lo, sk, h) res) := i_if_eq k_95_16
theorem e_95_19 : X xs L d 95 (19, lo, sk, h) res ↔ X xs L d 95 (20, lo, .inl 0 :: sk, h) res := i_iconst k_95_19
theorem e_95_20 {x : Int32} {a0 a1 a2 a3 a4 : Option AV} : X xs L d 95 (20, [a0, a1, a2, a3, a4], .inl x :: sk, h) res ↔ X xs L d 95 (22, [a0, a1, a2, a3, some (.inl x)], sk, h) res := i_istore k_95_20 (Nat.le_of_ble_eq_true rfl) rfl
theorem e_95_22 {x : Option Nat} {a1 a2 a3 a4 : Option AV} : X xs L d 95 (22, [some (.inr x), a1, a2, a3, a4], sk, h) res ↔ X xs L d 95 (23, [some (.inr x), a1, a2, a3, a4], .inr x :: sk, h) res := i_aload_n k_95_22 rfl
theorem e_95_23 {o : Nat} : X xs L d 95 (23, lo, .inr (some o) :: sk, h) res ↔ hK h o = 9 ∧ X xs L d 95 (26, lo, .inr (hR h o 2) :: sk, h) res := i_getR k_95_23
theorem e_95_26 {x : Option Nat} {a1 a2 a3 a4 : Option AV} : X xs L d 95 (26, [some (.inr x), a1, a2, a3, a4], sk, h) res ↔ X xs L d 95 (27, [some (.inr x), a1, a2, a3, a4], .inr x :: sk, h) res := i_aload_n k_95_26 rfl
theorem e_95_27 {o : Nat} : X xs L d 95 (27, lo, .inr (some o) :: sk, h) res ↔ hK h o = 9 ∧ X xs L d 95 (30, lo, .inr (hR h o 18) :: sk, h) res := i_getR k_95_27
theorem e_95_30 {x : Int32} {a0 a1 a3 a4 : Option AV} : X xs L d 95 (30, [a0, a1, some (.inl x), a3, a4], sk, h) res ↔ X xs L d 95 (31, [a0, a1, some (.inl x), a3, a4], .inl x :: sk, h) res := i_iload_n k_95_30 rfl
theorem e_95_31 {o : Nat} {i : Int32} : X xs L d 95 (31, lo, .inl i :: .inr (some o) :: sk, h) res ↔ (hK h o = 20 ∧ vp_in i (hL h o)) ∧ X xs L d 95 (32, lo, .inl (hI h o i.toNatClampNeg) :: sk, h) res := i_iaload k_95_31
theorem e_95_32 {o : Nat} {i : Int32} : X xs L d 95 (32, lo, .inl i :: .inr (some o) :: sk, h) res ↔ (hK h o = 21 ∧ vp_in i (hL h o)) ∧ X xs L d 95 (33, lo, .inl (hI h o i.toNatClampNeg) :: sk, h) res := i_caload k_95_32
theorem e_95_33 {v0 : Int32} (hs : sk.length ≤ 8) : X xs L d 95 (33, lo, .inl v0 :: sk, h) res ↔ ∃ q : Res, Rn xs L d 79 [.inl v0] h q ∧ X xs L d 95 (36, lo, q.1.toList ++ sk, q.2) res := i_callS k_95_33 ⟨Nat.le_add_left 1 sk.length, Nat.le_trans (Nat.add_le_add_right hs 1) (Nat.le_of_eq (Nat.add_comm 8 1))⟩
theorem e_95_36 {x : Int32} : X xs L d 95 (36, lo, .inl x :: sk, h) res ↔ (if x = 0 then X xs L d 95 (74, lo, sk, h) res else X xs L d 95 (39, lo, sk, h) res) := i_if_eq k_95_36
theorem e_95_39 : X xs L d 95 (39, lo, sk, h) res ↔ X xs L d 95 (41, lo, .inl 10 :: sk, h) res := i_bipush k_95_39
theorem e_95_41 {x : Int32} {a0 a1 a2 a3 : Option AV} : X xs L d 95 (41, [a0, a1, a2, a3, some (.inl x)], sk, h) res ↔ X xs L d 95 (43, [a0, a1, a2, a3, some (.inl x)], .inl x :: sk, h) res := i_iload k_95_41 rfl
theorem e_95_43 {x y : Int32} : X xs L d 95 (43, lo, .inl y :: .inl x :: sk, h) res ↔ X xs L d 95 (44, lo, .inl (x * y) :: sk, h) res := i_imul k_95_43
theorem e_95_44 {x : Option Nat} {a1 a2 a3 a4 : Option AV} : X xs L d 95 (44, [some (.inr x), a1, a2, a3, a4], sk, h) res ↔ X xs L d 95 (45, [some (.inr x), a1, a2, a3, a4], .inr x :: sk, h) res := i_aload_n k_95_44 rfl
theorem e_95_45 {o : Nat} : X xs L d 95 (45, lo, .inr (some o) :: sk, h) res ↔ hK h o = 9 ∧ X xs L d 95 (48, lo, .inr (hR h o 2) :: sk, h) res := i_getR k_95_45
theorem e_95_48 {x : Option Nat} {a1 a2 a3 a4 : Option AV} : X xs L d 95 (48, [some (.inr x), a1, a2, a3, a4], sk, h) res ↔ X xs L d 95 (49, [some (.inr x), a1, a2, a3, a4], .inr x :: sk, h) res := i_aload_n k_95_48 rfl
theorem e_95_49 {o : Nat} : X xs L d 95 (49, lo, .inr (some o) :: sk, h) res ↔ hK h o = 9 ∧ X xs L d 95 (52, lo, .inr (hR h o 18) :: sk, h) res := i_getR k_95_49
theorem e_95_52 {x : Int32} {a0 a1 a3 a4 : Option AV} : X xs L d 95 (52, [a0, a1, some (.inl x), a3, a4], sk, h) res ↔ X xs L d 95 (53, [a0, a1, some (.inl x), a3, a4], .inl x :: sk, h) res := i_iload_n k_95_52 rfl
theorem e_95_53 {o : Nat} {i : Int32} : X xs L d 95 (53, lo, .inl i :: .inr (some o) :: sk, h) res ↔ (hK h o = 20 ∧ vp_in i (hL h o)) ∧ X xs L d 95 (54, lo, .inl (hI h o i.toNatClampNeg) :: sk, h) res := i_iaload k_95_53
theorem e_95_54 {o : Nat} {i : Int32} : X xs L d 95 (54, lo, .inl i :: .inr (some o) :: sk, h) res ↔ (hK h o = 21 ∧ vp_in i (hL h o)) ∧ X xs L d 95 (55, lo, .inl (hI h o i.toNatClampNeg) :: sk, h) res := i_caload k_95_54
theorem e_95_55 {x y : Int32} : X xs L d 95 (55, lo, .inl y :: .inl x :: sk, h) res ↔ X xs L d 95 (56, lo, .inl (x + y) :: sk, h) res := i_iadd k_95_55
theorem e_95_56 : X xs L d 95 (56, lo, sk, h) res ↔ X xs L d 95 (58, lo, .inl 48 :: sk, h) res := i_bipush k_95_56
theorem e_95_58 {x y : Int32} : X xs L d 95 (58, lo, .inl y :: .inl x :: sk, h) res ↔ X xs L d 95 (59, lo, .inl (x - y) :: sk, h) res := i_isub k_95_58
theorem e_95_59 {x : Int32} {a0 a1 a2 a3 a4 : Option AV} : X xs L d 95 (59, [a0, a1, a2, a3, a4], .inl x :: sk, h) res ↔ X xs L d 95 (61, [a0, a1, a2, a3, some (.inl x)], sk, h) res := i_istore k_95_59 (Nat.le_of_ble_eq_true rfl) rfl
theorem e_95_61 {x : Option Nat} {a1 a2 a3 a4 : Option AV} : X xs L d 95 (61, [some (.inr x), a1, a2, a3, a4], sk, h) res ↔ X xs L d 95 (62, [some (.inr x), a1, a2, a3, a4], .inr x :: sk, h) res := i_aload_n k_95_61 rfl
theorem e_95_62 {o : Nat} : X xs L d 95 (62, lo, .inr (some o) :: sk, h) res ↔ hK h o = 9 ∧ X xs L d 95 (65, lo, .inr (hR h o 18) :: sk, h) res := i_getR k_95_62
theorem e_95_65 {x : Int32} {a0 a1 a3 a4 : Option AV} : X xs L d 95 (65, [a0, a1, some (.inl x), a3, a4], sk, h) res ↔ X xs L d 95 (66, [a0, a1, some (.inl x), a3, a4], .inl x :: sk, h) res := i_iload_n k_95_65 rfl
theorem e_95_66 {v w : AV} : X xs L d 95 (66, lo, v :: w :: sk, h) res ↔ X xs L d 95 (67, lo, v :: w :: v :: w :: sk, h) res := i_dup2 k_95_66
theorem e_95_67 {o : Nat} {i : Int32} : X xs L d 95 (67, lo, .inl i :: .inr (some o) :: sk, h) res ↔ (hK h o = 20 ∧ vp_in i (hL h o)) ∧ X xs L d 95 (68, lo, .inl (hI h o i.toNatClampNeg) :: sk, h) res := i_iaload k_95_67
theorem e_95_68 : X xs L d 95 (68, lo, sk, h) res ↔ X xs L d 95 (69, lo, .inl 1 :: sk, h) res := i_iconst k_95_68
theorem e_95_69 {x y : Int32} : X xs L d 95 (69, lo, .inl y :: .inl x :: sk, h) res ↔ X xs L d 95 (70, lo, .inl (x + y) :: sk, h) res := i_iadd k_95_69
theorem e_95_70 {o : Nat} {i v : Int32} : X xs L d 95 (70, lo, .inl v :: .inl i :: .inr (some o) :: sk, h) res ↔ (hK h o = 20 ∧ vp_in i (hL h o)) ∧ X xs L d 95 (71, lo, sk, sI h o i.toNatClampNeg (v)) res := i_iastore k_95_70
theorem e_95_71 : X xs L d 95 (71, lo, sk, h) res ↔ X xs L d 95 (22, lo, sk, h) res := i_goto k_95_71
theorem e_95_74 {x : Option Nat} {a1 a2 a3 a4 : Option AV} : X xs L d 95 (74, [some (.inr x), a1, a2, a3, a4], sk, h) res ↔ X xs L d 95 (75, [some (.inr x), a1, a2, a3, a4], .inr x :: sk, h) res := i_aload_n k_95_74 rfl
theorem e_95_75 : X xs L d 95 (75, lo, sk, h) res ↔ X xs L d 95 (76, lo, .inl 2 :: sk, h) res := i_iconst k_95_75
theorem e_95_76 {o : Nat} {v : Int32} : X xs L d 95 (76, lo, .inl v :: .inr (some o) :: sk, h) res ↔ hK h o = 9 ∧ X xs L d 95 (79, lo, sk, sI h o 27 v) res := i_putI k_95_76
theorem e_95_79 {x : Option Nat} {a1 a2 a3 a4 : Option AV} : X xs L d 95 (79, [some (.inr x), a1, a2, a3, a4], sk, h) res ↔ X xs L d 95 (80, [some (.inr x), a1, a2, a3, a4], .inr x :: sk, h) res := i_aload_n k_95_79 rfl
theorem e_95_80 {x : Int32} {a0 a1 a2 a3 : Option AV} : X xs L d 95 (80, [a0, a1, a2, a3, some (.inl x)], sk, h) res ↔ X xs L d 95 (82, [a0, a1, a2, a3, some (.inl x)], .inl x :: sk, h) res := i_iload k_95_80 rfl
theorem e_95_82 {o : Nat} {v : Int32} : X xs L d 95 (82, lo, .inl v :: .inr (some o) :: sk, h) res ↔ hK h o = 9 ∧ X xs L d 95 (85, lo, sk, sI h o 28 v) res := i_putI k_95_82
theorem e_95_85 : X xs L d 95 (85, lo, sk, h) res ↔ X xs L d 95 (218, lo, sk, h) res := i_goto k_95_85
theorem e_95_88 {x : Int32} {a0 a1 a2 a4 : Option AV} : X xs L d 95 (88, [a0, a1, a2, some (.inl x), a4], sk, h) res ↔ X xs L d 95 (89, [a0, a1, a2, some (.inl x), a4], .inl x :: sk, h) res := i_iload_n k_95_88 rfl
theorem e_95_89 {v0 : Int32} (hs : sk.length ≤ 8) : X xs L d 95 (89, lo, .inl v0 :: sk, h) res ↔ ∃ q : Res, Rn xs L d 77 [.inl v0] h q ∧ X xs L d 95 (92, lo, q.1.toList ++ sk, q.2) res := i_callS k_95_89 ⟨Nat.le_add_left 1 sk.length, Nat.le_trans (Nat.add_le_add_right hs 1) (Nat.le_of_eq (Nat.add_comm 8 1))⟩
theorem e_95_92 {x : Int32} : X xs L d 95 (92, lo, .inl x :: sk, h) res ↔ (if x = 0 then X xs L d 95 (131, lo, sk, h) res else X xs L d 95 (95, lo, sk, h) res) := i_if_eq k_95_92
theorem e_95_95 {x : Option Nat} {a1 a2 a3 a4 : Option AV} : X xs L d 95 (95, [some (.inr x), a1, a2, a3, a4], sk, h) res ↔ X xs L d 95 (96, [some (.inr x), a1, a2, a3, a4], .inr x :: sk, h) res := i_aload_n k_95_95 rfl
theorem e_95_96 {o : Nat} : X xs L d 95 (96, lo, .inr (some o) :: sk, h) res ↔ hK h o = 9 ∧ X xs L d 95 (99, lo, .inr (hR h o 18) :: sk, h) res := i_getR k_95_96
theorem e_95_99 {x : Int32} {a0 a1 a3 a4 : Option AV} : X xs L d 95 (99, [a0, a1, some (.inl x), a3, a4], sk, h) res ↔ X xs L d 95 (100, [a0, a1, some (.inl x), a3, a4], .inl x :: sk, h) res := i_iload_n k_95_99 rfl
theorem e_95_100 {v w : AV} : X xs L d 95 (100, lo, v :: w :: sk, h) res ↔ X xs L d 95 (101, lo, v :: w :: v :: w :: sk, h) res := i_dup2 k_95_100
theorem e_95_101 {o : Nat} {i : Int32} : X xs L d 95 (101, lo, .inl i :: .inr (some o) :: sk, h) res ↔ (hK h o = 20 ∧ vp_in i (hL h o)) ∧ X xs L d 95 (102, lo, .inl (hI h o i.toNatClampNeg) :: sk, h) res := i_iaload k_95_101
theorem e_95_102 : X xs L d 95 (102, lo, sk, h) res ↔ X xs L d 95 (103, lo, .inl 1 :: sk, h) res := i_iconst k_95_102
theorem e_95_103 {x y : Int32} : X xs L d 95 (103, lo, .inl y :: .inl x :: sk, h) res ↔ X xs L d 95 (104, lo, .inl (x + y) :: sk, h) res := i_iadd k_95_103
theorem e_95_104 {o : Nat} {i v : Int32} : X xs L d 95 (104, lo, .inl v :: .inl i :: .inr (some o) :: sk, h) res ↔ (hK h o = 20 ∧ vp_in i (hL h o)) ∧ X xs L d 95 (105, lo, sk, sI h o i.toNatClampNeg (v)) res := i_iastore k_95_104
theorem e_95_105 {x : Option Nat} {a1 a2 a3 a4 : Option AV} : X xs L d 95 (105, [some (.inr x), a1, a2, a3, a4], sk, h) res ↔ X xs L d 95 (106, [some (.inr x), a1, a2, a3, a4], .inr x :: sk, h) res := i_aload_n k_95_105 rfl
theorem e_95_106 : X xs L d 95 (106, lo, sk, h) res ↔ X xs L d 95 (107, lo, .inl 2 :: sk, h) res := i_iconst k_95_106
theorem e_95_107 {o : Nat} {v : Int32} : X xs L d 95 (107, lo, .inl v :: .inr (some o) :: sk, h) res ↔ hK h o = 9 ∧ X xs L d 95 (110, lo, sk, sI h o 27 v) res := i_putI k_95_107
theorem e_95_110 {x : Option Nat} {a1 a2 a3 a4 : Option AV} : X xs L d 95 (110, [some (.inr x), a1, a2, a3, a4], sk, h) res ↔ X xs L d 95 (111, [some (.inr x), a1, a2, a3, a4], .inr x :: sk, h) res := i_aload_n k_95_110 rfl
theorem e_95_111 {x : Option Nat} {a1 a2 a3 a4 : Option AV} : X xs L d 95 (111, [some (.inr x), a1, a2, a3, a4], sk, h) res ↔ X xs L d 95 (112, [some (.inr x), a1, a2, a3, a4], .inr x :: sk, h) res := i_aload_n k_95_111 rfl
theorem e_95_112 {o : Nat} : X xs L d 95 (112, lo, .inr (some o) :: sk, h) res ↔ hK h o = 9 ∧ X xs L d 95 (115, lo, .inr (hR h o 20) :: sk, h) res := i_getR k_95_112
theorem e_95_115 : X xs L d 95 (115, lo, sk, h) res ↔ X xs L d 95 (117, lo, .inl 6 :: sk, h) res := i_bipush k_95_115
theorem e_95_117 {x : Int32} {a0 a1 a3 a4 : Option AV} : X xs L d 95 (117, [a0, a1, some (.inl x), a3, a4], sk, h) res ↔ X xs L d 95 (118, [a0, a1, some (.inl x), a3, a4], .inl x :: sk, h) res := i_iload_n k_95_117 rfl
theorem e_95_118 {x y : Int32} : X xs L d 95 (118, lo, .inl y :: .inl x :: sk, h) res ↔ X xs L d 95 (119, lo, .inl (x * y) :: sk, h) res := i_imul k_95_118
theorem e_95_119 {x : Int32} {a0 a1 a2 a4 : Option AV} : X xs L d 95 (119, [a0, a1, a2, some (.inl x), a4], sk, h) res ↔ X xs L d 95 (120, [a0, a1, a2, some (.inl x), a4], .inl x :: sk, h) res := i_iload_n k_95_119 rfl
theorem e_95_120 {x y : Int32} : X xs L d 95 (120, lo, .inl y :: .inl x :: sk, h) res ↔ X xs L d 95 (121, lo, .inl (x + y) :: sk, h) res := i_iadd k_95_120
theorem e_95_121 : X xs L d 95 (121, lo, sk, h) res ↔ X xs L d 95 (123, lo, .inl 97 :: sk, h) res := i_bipush k_95_121
theorem e_95_123 {x y : Int32} : X xs L d 95 (123, lo, .inl y :: .inl x :: sk, h) res ↔ X xs L d 95 (124, lo, .inl (x - y) :: sk, h) res := i_isub k_95_123
theorem e_95_124 {o : Nat} {i : Int32} : X xs L d 95 (124, lo, .inl i :: .inr (some o) :: sk, h) res ↔ (hK h o = 20 ∧ vp_in i (hL h o)) ∧ X xs L d 95 (125, lo, .inl (hI h o i.toNatClampNeg) :: sk, h) res := i_iaload k_95_124
theorem e_95_125 {o : Nat} {v : Int32} : X xs L d 95 (125, lo, .inl v :: .inr (some o) :: sk, h) res ↔ hK h o = 9 ∧ X xs L d 95 (128, lo, sk, sI h o 28 v) res := i_putI k_95_125
theorem e_95_128 : X xs L d 95 (128, lo, sk, h) res ↔ X xs L d 95 (218, lo, sk, h) res := i_goto k_95_128
theorem e_95_131 {x : Int32} {a0 a1 a2 a4 : Option AV} : X xs L d 95 (131, [a0, a1, a2, some (.inl x), a4], sk, h) res ↔ X xs L d 95 (132, [a0, a1, a2, some (.inl x), a4], .inl x :: sk, h) res := i_iload_n k_95_131 rfl
theorem e_95_132 : X xs L d 95 (132, lo, sk, h) res ↔ X xs L d 95 (134, lo, .inl 40 :: sk, h) res := i_bipush k_95_132
theorem e_95_134 {x y : Int32} : X xs L d 95 (134, lo, .inl y :: .inl x :: sk, h) res ↔ (if x = y then X xs L d 95 (137, lo, sk, h) res else X xs L d 95 (156, lo, sk, h) res) := i_icmp_ne k_95_134
theorem e_95_137 {x : Option Nat} {a1 a2 a3 a4 : Option AV} : X xs L d 95 (137, [some (.inr x), a1, a2, a3, a4], sk, h) res ↔ X xs L d 95 (138, [some (.inr x), a1, a2, a3, a4], .inr x :: sk, h) res := i_aload_n k_95_137 rfl
theorem e_95_138 {o : Nat} : X xs L d 95 (138, lo, .inr (some o) :: sk, h) res ↔ hK h o = 9 ∧ X xs L d 95 (141, lo, .inr (hR h o 18) :: sk, h) res := i_getR k_95_138
theorem e_95_141 {x : Int32} {a0 a1 a3 a4 : Option AV} : X xs L d 95 (141, [a0, a1, some (.inl x), a3, a4], sk, h) res ↔ X xs L d 95 (142, [a0, a1, some (.inl x), a3, a4], .inl x :: sk, h) res := i_iload_n k_95_141 rfl
theorem e_95_142 {v w : AV} : X xs L d 95 (142, lo, v :: w :: sk, h) res ↔ X xs L d 95 (143, lo, v :: w :: v :: w :: sk, h) res := i_dup2 k_95_142
theorem e_95_143 {o : Nat} {i : Int32} : X xs L d 95 (143, lo, .inl i :: .inr (some o) :: sk, h) res ↔ (hK h o = 20 ∧ vp_in i (hL h o)) ∧ X xs L d 95 (144, lo, .inl (hI h o i.toNatClampNeg) :: sk, h) res := i_iaload k_95_143
theorem e_95_144 : X xs L d 95 (144, lo, sk, h) res ↔ X xs L d 95 (145, lo, .inl 1 :: sk, h) res := i_iconst k_95_144
theorem e_95_145 {x y : Int32} : X xs L d 95 (145, lo, .inl y :: .inl x :: sk, h) res ↔ X xs L d 95 (146, lo, .inl (x + y) :: sk, h) res := i_iadd k_95_145
theorem e_95_146 {o : Nat} {i v : Int32} : X xs L d 95 (146, lo, .inl v :: .inl i :: .inr (some o) :: sk, h) res ↔ (hK h o = 20 ∧ vp_in i (hL h o)) ∧ X xs L d 95 (147, lo, sk, sI h o i.toNatClampNeg (v)) res := i_iastore k_95_146
theorem e_95_147 {x : Option Nat} {a1 a2 a3 a4 : Option AV} : X xs L d 95 (147, [some (.inr x), a1, a2, a3, a4], sk, h) res ↔ X xs L d 95 (148, [some (.inr x), a1, a2, a3, a4], .inr x :: sk, h) res := i_aload_n k_95_147 rfl
theorem e_95_148 {x : Int32} {a0 a1 a3 a4 : Option AV} : X xs L d 95 (148, [a0, a1, some (.inl x), a3, a4], sk, h) res ↔ X xs L d 95 (149, [a0, a1, some (.inl x), a3, a4], .inl x :: sk, h) res := i_iload_n k_95_148 rfl
theorem e_95_149 : X xs L d 95 (149, lo, sk, h) res ↔ X xs L d 95 (150, lo, .inl 1 :: sk, h) res := i_iconst k_95_149
theorem e_95_150 {o : Nat} {v0 : Int32} {v1 : Int32} (hs : sk.length ≤ 8) : X xs L d 95 (150, lo, .inl v1 :: .inl v0 :: .inr (some o) :: sk, h) res ↔ hK h o = 9 ∧ ∃ q : Res, Rn xs L d 94 [.inr (some o), .inl v0, .inl v1] h q ∧ X xs L d 95 (153, lo, q.1.toList ++ sk, q.2) res := i_callV k_95_150 rfl ⟨Nat.le_add_left 3 sk.length, Nat.le_trans (Nat.add_le_add_right hs 3) (Nat.le_of_eq (Nat.add_comm 8 3))⟩
theorem e_95_153 : X xs L d 95 (153, lo, sk, h) res ↔ X xs L d 95 (218, lo, sk, h) res := i_goto k_95_153
theorem e_95_156 {x : Option Nat} {a1 a2 a3 a4 : Option AV} : X xs L d 95 (156, [some (.inr x), a1, a2, a3, a4], sk, h) res ↔ X xs L d 95 (157, [some (.inr x), a1, a2, a3, a4], .inr x :: sk, h) res := i_aload_n k_95_156 rfl
theorem e_95_157 {o : Nat} : X xs L d 95 (157, lo, .inr (some o) :: sk, h) res ↔ hK h o = 9 ∧ X xs L d 95 (160, lo, .inr (hR h o 2) :: sk, h) res := i_getR k_95_157
theorem e_95_160 {x : Option Nat} {a1 a2 a3 a4 : Option AV} : X xs L d 95 (160, [some (.inr x), a1, a2, a3, a4], sk, h) res ↔ X xs L d 95 (161, [some (.inr x), a1, a2, a3, a4], .inr x :: sk, h) res := i_aload_n k_95_160 rfl
theorem e_95_161 {o : Nat} : X xs L d 95 (161, lo, .inr (some o) :: sk, h) res ↔ hK h o = 9 ∧ X xs L d 95 (164, lo, .inr (hR h o 18) :: sk, h) res := i_getR k_95_161
theorem e_95_164 {x : Int32} {a0 a1 a3 a4 : Option AV} : X xs L d 95 (164, [a0, a1, some (.inl x), a3, a4], sk, h) res ↔ X xs L d 95 (165, [a0, a1, some (.inl x), a3, a4], .inl x :: sk, h) res := i_iload_n k_95_164 rfl
theorem e_95_165 {o : Nat} {i : Int32} : X xs L d 95 (165, lo, .inl i :: .inr (some o) :: sk, h) res ↔ (hK h o = 20 ∧ vp_in i (hL h o)) ∧ X xs L d 95 (166, lo, .inl (hI h o i.toNatClampNeg) :: sk, h) res := i_iaload k_95_165
theorem e_95_166 : X xs L d 95 (166, lo, sk, h) res ↔ X xs L d 95 (167, lo, .inl 2 :: sk, h) res := i_iconst k_95_166
theorem e_95_167 {x y : Int32} : X xs L d 95 (167, lo, .inl y :: .inl x :: sk, h) res ↔ X xs L d 95 (168, lo, .inl (x + y) :: sk, h) res := i_iadd k_95_167
theorem e_95_168 {o : Nat} {i : Int32} : X xs L d 95 (168, lo, .inl i :: .inr (some o) :: sk, h) res ↔ (hK h o = 21 ∧ vp_in i (hL h o)) ∧ X xs L d 95 (169, lo, .inl (hI h o i.toNatClampNeg) :: sk, h) res := i_caload k_95_168
theorem e_95_169 : X xs L d 95 (169, lo, sk, h) res ↔ X xs L d 95 (171, lo, .inl 41 :: sk, h) res := i_bipush k_95_169
theorem e_95_171 {x y : Int32} : X xs L d 95 (171, lo, .inl y :: .inl x :: sk, h) res ↔ (if x = y then X xs L d 95 (174, lo, sk, h) res else X xs L d 95 (197, lo, sk, h) res) := i_icmp_ne k_95_171
theorem e_95_174 {x : Option Nat} {a1 a2 a3 a4 : Option AV} : X xs L d 95 (174, [some (.inr x), a1, a2, a3, a4], sk, h) res ↔ X xs L d 95 (175, [some (.inr x), a1, a2, a3, a4], .inr x :: sk, h) res := i_aload_n k_95_174 rfl
theorem e_95_175 {o : Nat} : X xs L d 95 (175, lo, .inr (some o) :: sk, h) res ↔ hK h o = 9 ∧ X xs L d 95 (178, lo, .inr (hR h o 18) :: sk, h) res := i_getR k_95_175
theorem e_95_178 {x : Int32} {a0 a1 a3 a4 : Option AV} : X xs L d 95 (178, [a0, a1, some (.inl x), a3, a4], sk, h) res ↔ X xs L d 95 (179, [a0, a1, some (.inl x), a3, a4], .inl x :: sk, h) res := i_iload_n k_95_178 rfl
theorem e_95_179 {v w : AV} : X xs L d 95 (179, lo, v :: w :: sk, h) res ↔ X xs L d 95 (180, lo, v :: w :: v :: w :: sk, h) res := i_dup2 k_95_179
theorem e_95_180 {o : Nat} {i : Int32} : X xs L d 95 (180, lo, .inl i :: .inr (some o) :: sk, h) res ↔ (hK h o = 20 ∧ vp_in i (hL h o)) ∧ X xs L d 95 (181, lo, .inl (hI h o i.toNatClampNeg) :: sk, h) res := i_iaload k_95_180
theorem e_95_181 : X xs L d 95 (181, lo, sk, h) res ↔ X xs L d 95 (182, lo, .inl 3 :: sk, h) res := i_iconst k_95_181
theorem e_95_182 {x y : Int32} : X xs L d 95 (182, lo, .inl y :: .inl x :: sk, h) res ↔ X xs L d 95 (183, lo, .inl (x + y) :: sk, h) res := i_iadd k_95_182
theorem e_95_183 {o : Nat} {i v : Int32} : X xs L d 95 (183, lo, .inl v :: .inl i :: .inr (some o) :: sk, h) res ↔ (hK h o = 20 ∧ vp_in i (hL h o)) ∧ X xs L d 95 (184, lo, sk, sI h o i.toNatClampNeg (v)) res := i_iastore k_95_183
theorem e_95_184 {x : Option Nat} {a1 a2 a3 a4 : Option AV} : X xs L d 95 (184, [some (.inr x), a1, a2, a3, a4], sk, h) res ↔ X xs L d 95 (185, [some (.inr x), a1, a2, a3, a4], .inr x :: sk, h) res := i_aload_n k_95_184 rfl
theorem e_95_185 {x : Int32} {a0 a2 a3 a4 : Option AV} : X xs L d 95 (185, [a0, some (.inl x), a2, a3, a4], sk, h) res ↔ X xs L d 95 (186, [a0, some (.inl x), a2, a3, a4], .inl x :: sk, h) res := i_iload_n k_95_185 rfl
theorem e_95_186 {x : Int32} {a0 a1 a2 a4 : Option AV} : X xs L d 95 (186, [a0, a1, a2, some (.inl x), a4], sk, h) res ↔ X xs L d 95 (187, [a0, a1, a2, some (.inl x), a4], .inl x :: sk, h) res := i_iload_n k_95_186 rfl
theorem e_95_187 : X xs L d 95 (187, lo, sk, h) res ↔ X xs L d 95 (189, lo, .inl 65 :: sk, h) res := i_bipush k_95_187
theorem e_95_189 {x y : Int32} : X xs L d 95 (189, lo, .inl y :: .inl x :: sk, h) res ↔ X xs L d 95 (190, lo, .inl (x - y) :: sk, h) res := i_isub k_95_189
theorem e_95_190 : X xs L d 95 (190, lo, sk, h) res ↔ X xs L d 95 (191, lo, .inl 0 :: sk, h) res := i_iconst k_95_190
theorem e_95_191 {o : Nat} {v0 : Int32} {v1 : Int32} {v2 : Int32} (hs : sk.length ≤ 8) : X xs L d 95 (191, lo, .inl v2 :: .inl v1 :: .inl v0 :: .inr (some o) :: sk, h) res ↔ hK h o = 9 ∧ ∃ q : Res, Rn xs L d 92 [.inr (some o), .inl v0, .inl v1, .inl v2] h q ∧ X xs L d 95 (194, lo, q.1.toList ++ sk, q.2) res := i_callV k_95_191 rfl ⟨Nat.le_add_left 4 sk.length, Nat.le_trans (Nat.add_le_add_right hs 4) (Nat.le_of_eq (Nat.add_comm 8 4))⟩
theorem e_95_194 : X xs L d 95 (194, lo, sk, h) res ↔ X xs L d 95 (218, lo, sk, h) res := i_goto k_95_194
theorem e_95_197 {x : Option Nat} {a1 a2 a3 a4 : Option AV} : X xs L d 95 (197, [some (.inr x), a1, a2, a3, a4], sk, h) res ↔ X xs L d 95 (198, [some (.inr x), a1, a2, a3, a4], .inr x :: sk, h) res := i_aload_n k_95_197 rfl
theorem e_95_198 {o : Nat} : X xs L d 95 (198, lo, .inr (some o) :: sk, h) res ↔ hK h o = 9 ∧ X xs L d 95 (201, lo, .inr (hR h o 18) :: sk, h) res := i_getR k_95_198
theorem e_95_201 {x : Int32} {a0 a1 a3 a4 : Option AV} : X xs L d 95 (201, [a0, a1, some (.inl x), a3, a4], sk, h) res ↔ X xs L d 95 (202, [a0, a1, some (.inl x), a3, a4], .inl x :: sk, h) res := i_iload_n k_95_201 rfl
theorem e_95_202 {v w : AV} : X xs L d 95 (202, lo, v :: w :: sk, h) res ↔ X xs L d 95 (203, lo, v :: w :: v :: w :: sk, h) res := i_dup2 k_95_202
theorem e_95_203 {o : Nat} {i : Int32} : X xs L d 95 (203, lo, .inl i :: .inr (some o) :: sk, h) res ↔ (hK h o = 20 ∧ vp_in i (hL h o)) ∧ X xs L d 95 (204, lo, .inl (hI h o i.toNatClampNeg) :: sk, h) res := i_iaload k_95_203
theorem e_95_204 : X xs L d 95 (204, lo, sk, h) res ↔ X xs L d 95 (205, lo, .inl 2 :: sk, h) res := i_iconst k_95_204
theorem e_95_205 {x y : Int32} : X xs L d 95 (205, lo, .inl y :: .inl x :: sk, h) res ↔ X xs L d 95 (206, lo, .inl (x + y) :: sk, h) res := i_iadd k_95_205
theorem e_95_206 {o : Nat} {i v : Int32} : X xs L d 95 (206, lo, .inl v :: .inl i :: .inr (some o) :: sk, h) res ↔ (hK h o = 20 ∧ vp_in i (hL h o)) ∧ X xs L d 95 (207, lo, sk, sI h o i.toNatClampNeg (v)) res := i_iastore k_95_206
theorem e_95_207 {x : Option Nat} {a1 a2 a3 a4 : Option AV} : X xs L d 95 (207, [some (.inr x), a1, a2, a3, a4], sk, h) res ↔ X xs L d 95 (208, [some (.inr x), a1, a2, a3, a4], .inr x :: sk, h) res := i_aload_n k_95_207 rfl
theorem e_95_208 {x : Int32} {a0 a1 a3 a4 : Option AV} : X xs L d 95 (208, [a0, a1, some (.inl x), a3, a4], sk, h) res ↔ X xs L d 95 (209, [a0, a1, some (.inl x), a3, a4], .inl x :: sk, h) res := i_iload_n k_95_208 rfl
theorem e_95_209 : X xs L d 95 (209, lo, sk, h) res ↔ X xs L d 95 (210, lo, .inl 2 :: sk, h) res := i_iconst k_95_209
theorem e_95_210 {x : Int32} {a0 a1 a2 a4 : Option AV} : X xs L d 95 (210, [a0, a1, a2, some (.inl x), a4], sk, h) res ↔ X xs L d 95 (211, [a0, a1, a2, some (.inl x), a4], .inl x :: sk, h) res := i_iload_n k_95_210 rfl
theorem e_95_211 {x y : Int32} : X xs L d 95 (211, lo, .inl y :: .inl x :: sk, h) res ↔ X xs L d 95 (212, lo, .inl (x + y) :: sk, h) res := i_iadd k_95_211
theorem e_95_212 : X xs L d 95 (212, lo, sk, h) res ↔ X xs L d 95 (214, lo, .inl 65 :: sk, h) res := i_bipush k_95_212
theorem e_95_214 {x y : Int32} : X xs L d 95 (214, lo, .inl y :: .inl x :: sk, h) res ↔ X xs L d 95 (215, lo, .inl (x - y) :: sk, h) res := i_isub k_95_214
theorem e_95_215 {o : Nat} {v0 : Int32} {v1 : Int32} (hs : sk.length ≤ 8) : X xs L d 95 (215, lo, .inl v1 :: .inl v0 :: .inr (some o) :: sk, h) res ↔ hK h o = 9 ∧ ∃ q : Res, Rn xs L d 94 [.inr (some o), .inl v0, .inl v1] h q ∧ X xs L d 95 (218, lo, q.1.toList ++ sk, q.2) res := i_callV k_95_215 rfl ⟨Nat.le_add_left 3 sk.length, Nat.le_trans (Nat.add_le_add_right hs 3) (Nat.le_of_eq (Nat.add_comm 8 3))⟩
theorem e_95_218 : X xs L d 95 (218, lo, [], h) res ↔ res = (none, h) := i_vret k_95_218 rfl
theorem k_96_0 : am_cd 96 0 = some (.iload_n 1, 1, [], [])   := rfl
theorem k_96_1 : am_cd 96 1 = some (.bipush 43, 2, [], [(43, 0)])   := rfl
theorem k_96_3 : am_cd 96 3 = some (.if_icmp .ne 9, 3, [12], [])   := rfl
theorem k_96_6 : am_cd 96 6 = some (.iload_n 0, 1, [], [])   := rfl
theorem k_96_7 : am_cd 96 7 = some (.iload_n 2, 1, [], [])   := rfl
theorem k_96_8 : am_cd 96 8 = some (.iadd, 1, [], [])   := rfl
theorem k_96_9 : am_cd 96 9 = some (.goto 68, 3, [77], [])   := rfl
theorem k_96_12 : am_cd 96 12 = some (.iload_n 1, 1, [], [])   := rfl
theorem k_96_13 : am_cd 96 13 = some (.bipush 45, 2, [], [(45, 0)])   := rfl
theorem k_96_15 : am_cd 96 15 = some (.if_icmp .ne 9, 3, [24], [])   := rfl
theorem k_96_18 : am_cd 96 18 = some (.iload_n 0, 1, [], [])   := rfl
theorem k_96_19 : am_cd 96 19 = some (.iload_n 2, 1, [], [])   := rfl
theorem k_96_20 : am_cd 96 20 = some (.isub, 1, [], [])   := rfl
theorem k_96_21 : am_cd 96 21 = some (.goto 56, 3, [77], [])   := rfl
theorem k_96_24 : am_cd 96 24 = some (.iload_n 1, 1, [], [])   := rfl
theorem k_96_25 : am_cd 96 25 = some (.bipush 42, 2, [], [(42, 0)])   := rfl
theorem k_96_27 : am_cd 96 27 = some (.if_icmp .ne 9, 3, [36], [])   := rfl
theorem k_96_30 : am_cd 96 30 = some (.iload_n 0, 1, [], [])   := rfl
theorem k_96_31 : am_cd 96 31 = some (.iload_n 2, 1, [], [])   := rfl
theorem k_96_32 : am_cd 96 32 = some (.imul, 1, [], [])   := rfl
theorem k_96_33 : am_cd 96 33 = some (.goto 44, 3, [77], [])   := rfl
theorem k_96_36 : am_cd 96 36 = some (.iload_n 1, 1, [], [])   := rfl
theorem k_96_37 : am_cd 96 37 = some (.bipush 47, 2, [], [(47, 0)])   := rfl
theorem k_96_39 : am_cd 96 39 = some (.if_icmp .ne 9, 3, [48], [])   := rfl
theorem k_96_42 : am_cd 96 42 = some (.iload_n 0, 1, [], [])   := rfl
theorem k_96_43 : am_cd 96 43 = some (.iload_n 2, 1, [], [])   := rfl
theorem k_96_44 : am_cd 96 44 = some (.idiv, 1, [], [])   := rfl
theorem k_96_45 : am_cd 96 45 = some (.goto 32, 3, [77], [])   := rfl
theorem k_96_48 : am_cd 96 48 = some (.iload_n 1, 1, [], [])   := rfl
theorem k_96_49 : am_cd 96 49 = some (.bipush 60, 2, [], [(60, 0)])   := rfl
theorem k_96_51 : am_cd 96 51 = some (.if_icmp .ne 16, 3, [67], [])   := rfl
theorem k_96_54 : am_cd 96 54 = some (.iload_n 0, 1, [], [])   := rfl
theorem k_96_55 : am_cd 96 55 = some (.iload_n 2, 1, [], [])   := rfl
theorem k_96_56 : am_cd 96 56 = some (.if_icmp .ge 7, 3, [63], [])   := rfl
theorem k_96_59 : am_cd 96 59 = some (.iconst 1, 1, [], [(1, 0)])   := rfl
theorem k_96_60 : am_cd 96 60 = some (.goto 17, 3, [77], [])   := rfl
theorem k_96_63 : am_cd 96 63 = some (.iconst 0, 1, [], [(0, 0)])   := rfl
theorem k_96_64 : am_cd 96 64 = some (.goto 13, 3, [77], [])   := rfl
theorem k_96_67 : am_cd 96 67 = some (.iload_n 0, 1, [], [])   := rfl
theorem k_96_68 : am_cd 96 68 = some (.iload_n 2, 1, [], [])   := rfl
theorem k_96_69 : am_cd 96 69 = some (.if_icmp .ne 7, 3, [76], [])   := rfl
theorem k_96_72 : am_cd 96 72 = some (.iconst 1, 1, [], [(1, 0)])   := rfl
theorem k_96_73 : am_cd 96 73 = some (.goto 4, 3, [77], [])   := rfl
theorem k_96_76 : am_cd 96 76 = some (.iconst 0, 1, [], [(0, 0)])   := rfl
theorem k_96_77 : am_cd 96 77 = some (.ireturn, 1, [], [])   := rfl
theorem e_96_0 {x : Int32} {a0 a2 : Option AV} : X xs L d 96 (0, [a0, some (.inl x), a2], sk, h) res ↔ X xs L d 96 (1, [a0, some (.inl x), a2], .inl x :: sk, h) res := i_iload_n k_96_0 rfl
theorem e_96_1 : X xs L d 96 (1, lo, sk, h) res ↔ X xs L d 96 (3, lo, .inl 43 :: sk, h) res := i_bipush k_96_1
theorem e_96_3 {x y : Int32} : X xs L d 96 (3, lo, .inl y :: .inl x :: sk, h) res ↔ (if x = y then X xs L d 96 (6, lo, sk, h) res else X xs L d 96 (12, lo, sk, h) res) := i_icmp_ne k_96_3
theorem e_96_6 {x : Int32} {a1 a2 : Option AV} : X xs L d 96 (6, [some (.inl x), a1, a2], sk, h) res ↔ X xs L d 96 (7, [some (.inl x), a1, a2], .inl x :: sk, h) res := i_iload_n k_96_6 rfl
theorem e_96_7 {x : Int32} {a0 a1 : Option AV} : X xs L d 96 (7, [a0, a1, some (.inl x)], sk, h) res ↔ X xs L d 96 (8, [a0, a1, some (.inl x)], .inl x :: sk, h) res := i_iload_n k_96_7 rfl
theorem e_96_8 {x y : Int32} : X xs L d 96 (8, lo, .inl y :: .inl x :: sk, h) res ↔ X xs L d 96 (9, lo, .inl (x + y) :: sk, h) res := i_iadd k_96_8
theorem e_96_9 : X xs L d 96 (9, lo, sk, h) res ↔ X xs L d 96 (77, lo, sk, h) res := i_goto k_96_9
theorem e_96_12 {x : Int32} {a0 a2 : Option AV} : X xs L d 96 (12, [a0, some (.inl x), a2], sk, h) res ↔ X xs L d 96 (13, [a0, some (.inl x), a2], .inl x :: sk, h) res := i_iload_n k_96_12 rfl
theorem e_96_13 : X xs L d 96 (13, lo, sk, h) res ↔ X xs L d 96 (15, lo, .inl 45 :: sk, h) res := i_bipush k_96_13
theorem e_96_15 {x y : Int32} : X xs L d 96 (15, lo, .inl y :: .inl x :: sk, h) res ↔ (if x = y then X xs L d 96 (18, lo, sk, h) res else X xs L d 96 (24, lo, sk, h) res) := i_icmp_ne k_96_15
theorem e_96_18 {x : Int32} {a1 a2 : Option AV} : X xs L d 96 (18, [some (.inl x), a1, a2], sk, h) res ↔ X xs L d 96 (19, [some (.inl x), a1, a2], .inl x :: sk, h) res := i_iload_n k_96_18 rfl
theorem e_96_19 {x : Int32} {a0 a1 : Option AV} : X xs L d 96 (19, [a0, a1, some (.inl x)], sk, h) res ↔ X xs L d 96 (20, [a0, a1, some (.inl x)], .inl x :: sk, h) res := i_iload_n k_96_19 rfl
theorem e_96_20 {x y : Int32} : X xs L d 96 (20, lo, .inl y :: .inl x :: sk, h) res ↔ X xs L d 96 (21, lo, .inl (x - y) :: sk, h) res := i_isub k_96_20
theorem e_96_21 : X xs L d 96 (21, lo, sk, h) res ↔ X xs L d 96 (77, lo, sk, h) res := i_goto k_96_21
theorem e_96_24 {x : Int32} {a0 a2 : Option AV} : X xs L d 96 (24, [a0, some (.inl x), a2], sk, h) res ↔ X xs L d 96 (25, [a0, some (.inl x), a2], .inl x :: sk, h) res := i_iload_n k_96_24 rfl
theorem e_96_25 : X xs L d 96 (25, lo, sk, h) res ↔ X xs L d 96 (27, lo, .inl 42 :: sk, h) res := i_bipush k_96_25
theorem e_96_27 {x y : Int32} : X xs L d 96 (27, lo, .inl y :: .inl x :: sk, h) res ↔ (if x = y then X xs L d 96 (30, lo, sk, h) res else X xs L d 96 (36, lo, sk, h) res) := i_icmp_ne k_96_27
theorem e_96_30 {x : Int32} {a1 a2 : Option AV} : X xs L d 96 (30, [some (.inl x), a1, a2], sk, h) res ↔ X xs L d 96 (31, [some (.inl x), a1, a2], .inl x :: sk, h) res := i_iload_n k_96_30 rfl
theorem e_96_31 {x : Int32} {a0 a1 : Option AV} : X xs L d 96 (31, [a0, a1, some (.inl x)], sk, h) res ↔ X xs L d 96 (32, [a0, a1, some (.inl x)], .inl x :: sk, h) res := i_iload_n k_96_31 rfl
theorem e_96_32 {x y : Int32} : X xs L d 96 (32, lo, .inl y :: .inl x :: sk, h) res ↔ X xs L d 96 (33, lo, .inl (x * y) :: sk, h) res := i_imul k_96_32
theorem e_96_33 : X xs L d 96 (33, lo, sk, h) res ↔ X xs L d 96 (77, lo, sk, h) res := i_goto k_96_33
theorem e_96_36 {x : Int32} {a0 a2 : Option AV} : X xs L d 96 (36, [a0, some (.inl x), a2], sk, h) res ↔ X xs L d 96 (37, [a0, some (.inl x), a2], .inl x :: sk, h) res := i_iload_n k_96_36 rfl
theorem e_96_37 : X xs L d 96 (37, lo, sk, h) res ↔ X xs L d 96 (39, lo, .inl 47 :: sk, h) res := i_bipush k_96_37
theorem e_96_39 {x y : Int32} : X xs L d 96 (39, lo, .inl y :: .inl x :: sk, h) res ↔ (if x = y then X xs L d 96 (42, lo, sk, h) res else X xs L d 96 (48, lo, sk, h) res) := i_icmp_ne k_96_39
theorem e_96_42 {x : Int32} {a1 a2 : Option AV} : X xs L d 96 (42, [some (.inl x), a1, a2], sk, h) res ↔ X xs L d 96 (43, [some (.inl x), a1, a2], .inl x :: sk, h) res := i_iload_n k_96_42 rfl
theorem e_96_43 {x : Int32} {a0 a1 : Option AV} : X xs L d 96 (43, [a0, a1, some (.inl x)], sk, h) res ↔ X xs L d 96 (44, [a0, a1, some (.inl x)], .inl x :: sk, h) res := i_iload_n k_96_43 rfl
theorem e_96_44 {x y : Int32} : X xs L d 96 (44, lo, .inl y :: .inl x :: sk, h) res ↔ (¬ y = 0) ∧ X xs L d 96 (45, lo, .inl (x / y) :: sk, h) res := i_idiv k_96_44
theorem e_96_45 : X xs L d 96 (45, lo, sk, h) res ↔ X xs L d 96 (77, lo, sk, h) res := i_goto k_96_45
theorem e_96_48 {x : Int32} {a0 a2 : Option AV} : X xs L d 96 (48, [a0, some (.inl x), a2], sk, h) res ↔ X xs L d 96 (49, [a0, some (.inl x), a2], .inl x :: sk, h) res := i_iload_n k_96_48 rfl
theorem e_96_49 : X xs L d 96 (49, lo, sk, h) res ↔ X xs L d 96 (51, lo, .inl 60 :: sk, h) res := i_bipush k_96_49
theorem e_96_51 {x y : Int32} : X xs L d 96 (51, lo, .inl y :: .inl x :: sk, h) res ↔ (if x = y then X xs L d 96 (54, lo, sk, h) res else X xs L d 96 (67, lo, sk, h) res) := i_icmp_ne k_96_51
theorem e_96_54 {x : Int32} {a1 a2 : Option AV} : X xs L d 96 (54, [some (.inl x), a1, a2], sk, h) res ↔ X xs L d 96 (55, [some (.inl x), a1, a2], .inl x :: sk, h) res := i_iload_n k_96_54 rfl
theorem e_96_55 {x : Int32} {a0 a1 : Option AV} : X xs L d 96 (55, [a0, a1, some (.inl x)], sk, h) res ↔ X xs L d 96 (56, [a0, a1, some (.inl x)], .inl x :: sk, h) res := i_iload_n k_96_55 rfl
theorem e_96_56 {x y : Int32} : X xs L d 96 (56, lo, .inl y :: .inl x :: sk, h) res ↔ (if y ≤ x then X xs L d 96 (63, lo, sk, h) res else X xs L d 96 (59, lo, sk, h) res) := i_icmp_ge k_96_56
theorem e_96_59 : X xs L d 96 (59, lo, sk, h) res ↔ X xs L d 96 (60, lo, .inl 1 :: sk, h) res := i_iconst k_96_59
theorem e_96_60 : X xs L d 96 (60, lo, sk, h) res ↔ X xs L d 96 (77, lo, sk, h) res := i_goto k_96_60
theorem e_96_63 : X xs L d 96 (63, lo, sk, h) res ↔ X xs L d 96 (64, lo, .inl 0 :: sk, h) res := i_iconst k_96_63
theorem e_96_64 : X xs L d 96 (64, lo, sk, h) res ↔ X xs L d 96 (77, lo, sk, h) res := i_goto k_96_64
theorem e_96_67 {x : Int32} {a1 a2 : Option AV} : X xs L d 96 (67, [some (.inl x), a1, a2], sk, h) res ↔ X xs L d 96 (68, [some (.inl x), a1, a2], .inl x :: sk, h) res := i_iload_n k_96_67 rfl
theorem e_96_68 {x : Int32} {a0 a1 : Option AV} : X xs L d 96 (68, [a0, a1, some (.inl x)], sk, h) res ↔ X xs L d 96 (69, [a0, a1, some (.inl x)], .inl x :: sk, h) res := i_iload_n k_96_68 rfl
theorem e_96_69 {x y : Int32} : X xs L d 96 (69, lo, .inl y :: .inl x :: sk, h) res ↔ (if x = y then X xs L d 96 (72, lo, sk, h) res else X xs L d 96 (76, lo, sk, h) res) := i_icmp_ne k_96_69
theorem e_96_72 : X xs L d 96 (72, lo, sk, h) res ↔ X xs L d 96 (73, lo, .inl 1 :: sk, h) res := i_iconst k_96_72
theorem e_96_73 : X xs L d 96 (73, lo, sk, h) res ↔ X xs L d 96 (77, lo, sk, h) res := i_goto k_96_73
theorem e_96_76 : X xs L d 96 (76, lo, sk, h) res ↔ X xs L d 96 (77, lo, .inl 0 :: sk, h) res := i_iconst k_96_76
theorem e_96_77 {v : Int32} : X xs L d 96 (77, lo, [.inl v], h) res ↔ res = (some (.inl v), h) := i_iret k_96_77 rfl
theorem k_97_0 : am_cd 97 0 = some (.bipush 6, 2, [], [(6, 0)])   := rfl
theorem k_97_2 : am_cd 97 2 = some (.iload_n 2, 1, [], [])   := rfl
theorem k_97_3 : am_cd 97 3 = some (.imul, 1, [], [])   := rfl
theorem k_97_4 : am_cd 97 4 = some (.aload_n 0, 1, [], [])   := rfl
theorem k_97_5 : am_cd 97 5 = some (.getfield 62, 3, [9, 21, 2], [(0, 725)])   := rfl
theorem k_97_8 : am_cd 97 8 = some (.iload_n 2, 1, [], [])   := rfl
theorem k_97_9 : am_cd 97 9 = some (.iaload, 1, [], [])   := rfl
theorem k_97_10 : am_cd 97 10 = some (.iadd, 1, [], [])   := rfl
theorem k_97_11 : am_cd 97 11 = some (.istore_n 3, 1, [], [])   := rfl
theorem k_97_12 : am_cd 97 12 = some (.aload_n 0, 1, [], [])   := rfl
theorem k_97_13 : am_cd 97 13 = some (.getfield 68, 3, [9, 23, 2], [(0, 727)])   := rfl
theorem k_97_16 : am_cd 97 16 = some (.iload_n 3, 1, [], [])   := rfl
theorem k_97_17 : am_cd 97 17 = some (.caload, 1, [], [])   := rfl
theorem k_97_18 : am_cd 97 18 = some (.bipush 47, 2, [], [(47, 0)])   := rfl
theorem k_97_20 : am_cd 97 20 = some (.if_icmp .ne 24, 3, [44], [])   := rfl
theorem k_97_23 : am_cd 97 23 = some (.aload_n 0, 1, [], [])   := rfl
theorem k_97_24 : am_cd 97 24 = some (.getfield 185, 3, [9, 28, 0], [(0, 732)])   := rfl
theorem k_97_27 : am_cd 97 27 = some (.ifCond .ne 17, 3, [44], [])   := rfl
theorem k_97_30 : am_cd 97 30 = some (.aload_n 0, 1, [], [])   := rfl
theorem k_97_31 : am_cd 97 31 = some (.iconst 3, 1, [], [(3, 0)])   := rfl
theorem k_97_32 : am_cd 97 32 = some (.putfield 182, 3, [9, 27, 0], [(0, 731)])   := rfl
theorem k_97_35 : am_cd 97 35 = some (.aload_n 0, 1, [], [])   := rfl
theorem k_97_36 : am_cd 97 36 = some (.sipush 1001, 3, [], [(1001, 0)])   := rfl
theorem k_97_39 : am_cd 97 39 = some (.putfield 185, 3, [9, 28, 0], [(0, 732)])   := rfl
theorem k_97_42 : am_cd 97 42 = some (.iconst 0, 1, [], [(0, 0)])   := rfl
theorem k_97_43 : am_cd 97 43 = some (.ireturn, 1, [], [])   := rfl
theorem k_97_44 : am_cd 97 44 = some (.aload_n 0, 1, [], [])   := rfl
theorem k_97_45 : am_cd 97 45 = some (.getfield 65, 3, [9, 22, 2], [(0, 726)])   := rfl
theorem k_97_48 : am_cd 97 48 = some (.iload_n 3, 1, [], [])   := rfl
theorem k_97_49 : am_cd 97 49 = some (.aload_n 0, 1, [], [])   := rfl
theorem k_97_50 : am_cd 97 50 = some (.getfield 68, 3, [9, 23, 2], [(0, 727)])   := rfl
theorem k_97_53 : am_cd 97 53 = some (.iload_n 3, 1, [], [])   := rfl
theorem k_97_54 : am_cd 97 54 = some (.caload, 1, [], [])   := rfl
theorem k_97_55 : am_cd 97 55 = some (.ifCond .ne 10, 3, [65], [])   := rfl
theorem k_97_58 : am_cd 97 58 = some (.aload_n 0, 1, [], [])   := rfl
theorem k_97_59 : am_cd 97 59 = some (.getfield 185, 3, [9, 28, 0], [(0, 732)])   := rfl
theorem k_97_62 : am_cd 97 62 = some (.goto 22, 3, [84], [])   := rfl
theorem k_97_65 : am_cd 97 65 = some (.aload_n 0, 1, [], [])   := rfl
theorem k_97_66 : am_cd 97 66 = some (.getfield 65, 3, [9, 22, 2], [(0, 726)])   := rfl
theorem k_97_69 : am_cd 97 69 = some (.iload_n 3, 1, [], [])   := rfl
theorem k_97_70 : am_cd 97 70 = some (.iaload, 1, [], [])   := rfl
theorem k_97_71 : am_cd 97 71 = some (.aload_n 0, 1, [], [])   := rfl
theorem k_97_72 : am_cd 97 72 = some (.getfield 68, 3, [9, 23, 2], [(0, 727)])   := rfl
theorem k_97_75 : am_cd 97 75 = some (.iload_n 3, 1, [], [])   := rfl
theorem k_97_76 : am_cd 97 76 = some (.caload, 1, [], [])   := rfl
theorem k_97_77 : am_cd 97 77 = some (.aload_n 0, 1, [], [])   := rfl
theorem k_97_78 : am_cd 97 78 = some (.getfield 185, 3, [9, 28, 0], [(0, 732)])   := rfl
theorem k_97_81 : am_cd 97 81 = some (.invokestatic 199, 3, [96, 3], [(0, 926), (0, 927)])   := rfl
theorem k_97_84 : am_cd 97 84 = some (.iastore, 1, [], [])   := rfl
theorem k_97_85 : am_cd 97 85 = some (.aload_n 0, 1, [], [])   := rfl
theorem k_97_86 : am_cd 97 86 = some (.getfield 13, 3, [9, 2, 2], [(0, 706)])   := rfl
theorem k_97_89 : am_cd 97 89 = some (.aload_n 0, 1, [], [])   := rfl
theorem k_97_90 : am_cd 97 90 = some (.getfield 53, 3, [9, 18, 2], [(0, 722)])   := rfl
theorem k_97_93 : am_cd 97 93 = some (.iload_n 2, 1, [], [])   := rfl
theorem k_97_94 : am_cd 97 94 = some (.iaload, 1, [], [])   := rfl
theorem k_97_95 : am_cd 97 95 = some (.caload, 1, [], [])   := rfl
theorem k_97_96 : am_cd 97 96 = some (.istore 4, 2, [], [])   := rfl
theorem k_97_98 : am_cd 97 98 = some (.aload_n 0, 1, [], [])   := rfl
theorem k_97_99 : am_cd 97 99 = some (.aload_n 0, 1, [], [])   := rfl
theorem k_97_100 : am_cd 97 100 = some (.getfield 65, 3, [9, 22, 2], [(0, 726)])   := rfl
theorem k_97_103 : am_cd 97 103 = some (.iload_n 3, 1, [], [])   := rfl
theorem k_97_104 : am_cd 97 104 = some (.iaload, 1, [], [])   := rfl
theorem k_97_105 : am_cd 97 105 = some (.putfield 185, 3, [9, 28, 0], [(0, 732)])   := rfl
theorem k_97_108 : am_cd 97 108 = some (.iload 4, 2, [], [])   := rfl
theorem k_97_110 : am_cd 97 110 = some (.invokestatic 120, 3, [80, 1], [(0, 883), (0, 884)])   := rfl
theorem k_97_113 : am_cd 97 113 = some (.ifCond .eq 28, 3, [141], [])   := rfl
theorem k_97_116 : am_cd 97 116 = some (.aload_n 0, 1, [], [])   := rfl
theorem k_97_117 : am_cd 97 117 = some (.getfield 68, 3, [9, 23, 2], [(0, 727)])   := rfl
theorem k_97_120 : am_cd 97 120 = some (.iload_n 3, 1, [], [])   := rfl
theorem k_97_121 : am_cd 97 121 = some (.iload 4, 2, [], [])   := rfl
theorem k_97_123 : am_cd 97 123 = some (.castore, 1, [], [])   := rfl
theorem k_97_124 : am_cd 97 124 = some (.aload_n 0, 1, [], [])   := rfl
theorem k_97_125 : am_cd 97 125 = some (.getfield 53, 3, [9, 18, 2], [(0, 722)])   := rfl
theorem k_97_128 : am_cd 97 128 = some (.iload_n 2, 1, [], [])   := rfl
theorem k_97_129 : am_cd 97 129 = some (.dup2, 1, [], [])   := rfl
theorem k_97_130 : am_cd 97 130 = some (.iaload, 1, [], [])   := rfl
theorem k_97_131 : am_cd 97 131 = some (.iconst 1, 1, [], [(1, 0)])   := rfl
theorem k_97_132 : am_cd 97 132 = some (.iadd, 1, [], [])   := rfl
theorem k_97_133 : am_cd 97 133 = some (.iastore, 1, [], [])   := rfl
theorem k_97_134 : am_cd 97 134 = some (.aload_n 0, 1, [], [])   := rfl
theorem k_97_135 : am_cd 97 135 = some (.iconst 1, 1, [], [(1, 0)])   := rfl
theorem k_97_136 : am_cd 97 136 = some (.putfield 182, 3, [9, 27, 0], [(0, 731)])   := rfl
theorem k_97_139 : am_cd 97 139 = some (.iconst 0, 1, [], [(0, 0)])   := rfl
theorem k_97_140 : am_cd 97 140 = some (.ireturn, 1, [], [])   := rfl
theorem k_97_141 : am_cd 97 141 = some (.iload 4, 2, [], [])   := rfl
theorem k_97_143 : am_cd 97 143 = some (.bipush 44, 2, [], [(44, 0)])   := rfl
theorem k_97_145 : am_cd 97 145 = some (.if_icmp .eq 12, 3, [157], [])   := rfl
theorem k_97_148 : am_cd 97 148 = some (.iload 4, 2, [], [])   := rfl
theorem k_97_150 : am_cd 97 150 = some (.bipush 41, 2, [], [(41, 0)])   := rfl
theorem k_97_152 : am_cd 97 152 = some (.if_icmp .eq 5, 3, [157], [])   := rfl
theorem k_97_155 : am_cd 97 155 = some (.iconst 1, 1, [], [(1, 0)])   := rfl
theorem k_97_156 : am_cd 97 156 = some (.ireturn, 1, [], [])   := rfl
theorem k_97_157 : am_cd 97 157 = some (.aload_n 0, 1, [], [])   := rfl
theorem k_97_158 : am_cd 97 158 = some (.getfield 53, 3, [9, 18, 2], [(0, 722)])   := rfl
theorem k_97_161 : am_cd 97 161 = some (.iload_n 2, 1, [], [])   := rfl
theorem k_97_162 : am_cd 97 162 = some (.dup2, 1, [], [])   := rfl
theorem k_97_163 : am_cd 97 163 = some (.iaload, 1, [], [])   := rfl
theorem k_97_164 : am_cd 97 164 = some (.iconst 1, 1, [], [(1, 0)])   := rfl
theorem k_97_165 : am_cd 97 165 = some (.iadd, 1, [], [])   := rfl
theorem k_97_166 : am_cd 97 166 = some (.iastore, 1, [], [])   := rfl
theorem k_97_167 : am_cd 97 167 = some (.aload_n 0, 1, [], [])   := rfl
theorem k_97_168 : am_cd 97 168 = some (.getfield 71, 3, [9, 24, 2], [(0, 728)])   := rfl
theorem k_97_171 : am_cd 97 171 = some (.iload_n 3, 1, [], [])   := rfl
theorem k_97_172 : am_cd 97 172 = some (.iaload, 1, [], [])   := rfl
theorem k_97_173 : am_cd 97 173 = some (.iconst 1, 1, [], [(1, 0)])   := rfl
theorem k_97_174 : am_cd 97 174 = some (.if_icmp .ne 15, 3, [189], [])   := rfl
theorem k_97_177 : am_cd 97 177 = some (.aload_n 0, 1, [], [])   := rfl
theorem k_97_178 : am_cd 97 178 = some (.getfield 62, 3, [9, 21, 2], [(0, 725)])   := rfl
theorem k_97_181 : am_cd 97 181 = some (.iload_n 2, 1, [], [])   := rfl
theorem k_97_182 : am_cd 97 182 = some (.dup2, 1, [], [])   := rfl
theorem k_97_183 : am_cd 97 183 = some (.iaload, 1, [], [])   := rfl
theorem k_97_184 : am_cd 97 184 = some (.iconst 1, 1, [], [(1, 0)])   := rfl
theorem k_97_185 : am_cd 97 185 = some (.isub, 1, [], [])   := rfl
theorem k_97_186 : am_cd 97 186 = some (.iastore, 1, [], [])   := rfl
theorem k_97_187 : am_cd 97 187 = some (.iconst 0, 1, [], [(0, 0)])   := rfl
theorem k_97_188 : am_cd 97 188 = some (.ireturn, 1, [], [])   := rfl
theorem k_97_189 : am_cd 97 189 = some (.aload_n 0, 1, [], [])   := rfl
theorem k_97_190 : am_cd 97 190 = some (.getfield 77, 3, [9, 26, 2], [(0, 730)])   := rfl
theorem k_97_193 : am_cd 97 193 = some (.iconst 3, 1, [], [(3, 0)])   := rfl
theorem k_97_194 : am_cd 97 194 = some (.iload_n 3, 1, [], [])   := rfl
theorem k_97_195 : am_cd 97 195 = some (.imul, 1, [], [])   := rfl
theorem k_97_196 : am_cd 97 196 = some (.aload_n 0, 1, [], [])   := rfl
theorem k_97_197 : am_cd 97 197 = some (.getfield 74, 3, [9, 25, 2], [(0, 729)])   := rfl
theorem k_97_200 : am_cd 97 200 = some (.iload_n 3, 1, [], [])   := rfl
theorem k_97_201 : am_cd 97 201 = some (.iaload, 1, [], [])   := rfl
theorem k_97_202 : am_cd 97 202 = some (.iadd, 1, [], [])   := rfl
theorem k_97_203 : am_cd 97 203 = some (.aload_n 0, 1, [], [])   := rfl
theorem k_97_204 : am_cd 97 204 = some (.getfield 185, 3, [9, 28, 0], [(0, 732)])   := rfl
theorem k_97_207 : am_cd 97 207 = some (.iastore, 1, [], [])   := rfl
theorem k_97_208 : am_cd 97 208 = some (.aload_n 0, 1, [], [])   := rfl
theorem k_97_209 : am_cd 97 209 = some (.getfield 74, 3, [9, 25, 2], [(0, 729)])   := rfl
theorem k_97_212 : am_cd 97 212 = some (.iload_n 3, 1, [], [])   := rfl
theorem k_97_213 : am_cd 97 213 = some (.dup2, 1, [], [])   := rfl
theorem k_97_214 : am_cd 97 214 = some (.iaload, 1, [], [])   := rfl
theorem k_97_215 : am_cd 97 215 = some (.iconst 1, 1, [], [(1, 0)])   := rfl
theorem k_97_216 : am_cd 97 216 = some (.iadd, 1, [], [])   := rfl
theorem k_97_217 : am_cd 97 217 = some (.iastore, 1, [], [])   := rfl
theorem k_97_218 : am_cd 97 218 = some (.aload_n 0, 1, [], [])   := rfl
theorem k_97_219 : am_cd 97 219 = some (.getfield 68, 3, [9, 23, 2], [(0, 727)])   := rfl
theorem k_97_222 : am_cd 97 222 = some (.iload_n 3, 1, [], [])   := rfl
theorem k_97_223 : am_cd 97 223 = some (.iconst 0, 1, [], [(0, 0)])   := rfl
theorem k_97_224 : am_cd 97 224 = some (.castore, 1, [], [])   := rfl
theorem k_97_225 : am_cd 97 225 = some (.aload_n 0, 1, [], [])   := rfl
theorem k_97_226 : am_cd 97 226 = some (.iconst 1, 1, [], [(1, 0)])   := rfl
theorem k_97_227 : am_cd 97 227 = some (.putfield 182, 3, [9, 27, 0], [(0, 731)])   := rfl
theorem k_97_230 : am_cd 97 230 = some (.iload 4, 2, [], [])   := rfl
theorem k_97_232 : am_cd 97 232 = some (.bipush 41, 2, [], [(41, 0)])   := rfl
theorem k_97_234 : am_cd 97 234 = some (.if_icmp .ne 29, 3, [263], [])   := rfl
theorem k_97_237 : am_cd 97 237 = some (.aload_n 0, 1, [], [])   := rfl
theorem k_97_238 : am_cd 97 238 = some (.getfield 62, 3, [9, 21, 2], [(0, 725)])   := rfl
theorem k_97_241 : am_cd 97 241 = some (.iload_n 2, 1, [], [])   := rfl
theorem k_97_242 : am_cd 97 242 = some (.dup2, 1, [], [])   := rfl
theorem k_97_243 : am_cd 97 243 = some (.iaload, 1, [], [])   := rfl
theorem k_97_244 : am_cd 97 244 = some (.iconst 1, 1, [], [(1, 0)])   := rfl
theorem k_97_245 : am_cd 97 245 = some (.isub, 1, [], [])   := rfl
theorem k_97_246 : am_cd 97 246 = some (.iastore, 1, [], [])   := rfl
theorem k_97_247 : am_cd 97 247 = some (.aload_n 0, 1, [], [])   := rfl
theorem k_97_248 : am_cd 97 248 = some (.iload_n 1, 1, [], [])   := rfl
theorem k_97_249 : am_cd 97 249 = some (.aload_n 0, 1, [], [])   := rfl
theorem k_97_250 : am_cd 97 250 = some (.getfield 71, 3, [9, 24, 2], [(0, 728)])   := rfl
theorem k_97_253 : am_cd 97 253 = some (.iload_n 3, 1, [], [])   := rfl
theorem k_97_254 : am_cd 97 254 = some (.iaload, 1, [], [])   := rfl
theorem k_97_255 : am_cd 97 255 = some (.iconst 2, 1, [], [(2, 0)])   := rfl
theorem k_97_256 : am_cd 97 256 = some (.isub, 1, [], [])   := rfl
theorem k_97_257 : am_cd 97 257 = some (.iconst 3, 1, [], [(3, 0)])   := rfl
theorem k_97_258 : am_cd 97 258 = some (.iload_n 3, 1, [], [])   := rfl
theorem k_97_259 : am_cd 97 259 = some (.imul, 1, [], [])   := rfl
theorem k_97_260 : am_cd 97 260 = some (.invokevirtual 196, 3, [92, 4, 9], [(0, 918), (0, 920), (0, 43)])   := rfl
theorem k_97_263 : am_cd 97 263 = some (.iconst 0, 1, [], [(0, 0)])   := rfl
theorem k_97_264 : am_cd 97 264 = some (.ireturn, 1, [], [])   := rfl
theorem e_97_0 : X xs L d 97 (0, lo, sk, h) res ↔ X xs L d 97 (2, lo, .inl 6 :: sk, h) res := i_bipush k_97_0
theorem e_97_2 {x : Int32} {a0 a1 a3 a4 : Option AV} : X xs L d 97 (2, [a0, a1, some (.inl x), a3, a4], sk, h) res ↔ X xs L d 97 (3, [a0, a1, some (.inl x), a3, a4], .inl x :: sk, h) res := i_iload_n k_97_2 rfl
theorem e_97_3 {x y : Int32} : X xs L d 97 (3, lo, .inl y :: .inl x :: sk, h) res ↔ X xs L d 97 (4, lo, .inl (x * y) :: sk, h) res := i_imul k_97_3
theorem e_97_4 {x : Option Nat} {a1 a2 a3 a4 : Option AV} : X xs L d 97 (4, [some (.inr x), a1, a2, a3, a4], sk, h) res ↔ X xs L d 97 (5, [some (.inr x), a1, a2, a3, a4], .inr x :: sk, h) res := i_aload_n k_97_4 rfl
theorem e_97_5 {o : Nat} : X xs L d 97 (5, lo, .inr (some o) :: sk, h) res ↔ hK h o = 9 ∧ X xs L d 97 (8, lo, .inr (hR h o 21) :: sk, h) res := i_getR k_97_5
theorem e_97_8 {x : Int32} {a0 a1 a3 a4 : Option AV} : X xs L d 97 (8, [a0, a1, some (.inl x), a3, a4], sk, h) res ↔ X xs L d 97 (9, [a0, a1, some (.inl x), a3, a4], .inl x :: sk, h) res := i_iload_n k_97_8 rfl
theorem e_97_9 {o : Nat} {i : Int32} : X xs L d 97 (9, lo, .inl i :: .inr (some o) :: sk, h) res ↔ (hK h o = 20 ∧ vp_in i (hL h o)) ∧ X xs L d 97 (10, lo, .inl (hI h o i.toNatClampNeg) :: sk, h) res := i_iaload k_97_9
theorem e_97_10 {x y : Int32} : X xs L d 97 (10, lo, .inl y :: .inl x :: sk, h) res ↔ X xs L d 97 (11, lo, .inl (x + y) :: sk, h) res := i_iadd k_97_10
theorem e_97_11 {x : Int32} {a0 a1 a2 a3 a4 : Option AV} : X xs L d 97 (11, [a0, a1, a2, a3, a4], .inl x :: sk, h) res ↔ X xs L d 97 (12, [a0, a1, a2, some (.inl x), a4], sk, h) res := i_istore_n k_97_11 (Nat.le_of_ble_eq_true rfl) rfl
theorem e_97_12 {x : Option Nat} {a1 a2 a3 a4 : Option AV} : X xs L d 97 (12, [some (.inr x), a1, a2, a3, a4], sk, h) res ↔ X xs L d 97 (13, [some (.inr x), a1, a2, a3, a4], .inr x :: sk, h) res := i_aload_n k_97_12 rfl
theorem e_97_13 {o : Nat} : X xs L d 97 (13, lo, .inr (some o) :: sk, h) res ↔ hK h o = 9 ∧ X xs L d 97 (16, lo, .inr (hR h o 23) :: sk, h) res := i_getR k_97_13
theorem e_97_16 {x : Int32} {a0 a1 a2 a4 : Option AV} : X xs L d 97 (16, [a0, a1, a2, some (.inl x), a4], sk, h) res ↔ X xs L d 97 (17, [a0, a1, a2, some (.inl x), a4], .inl x :: sk, h) res := i_iload_n k_97_16 rfl
theorem e_97_17 {o : Nat} {i : Int32} : X xs L d 97 (17, lo, .inl i :: .inr (some o) :: sk, h) res ↔ (hK h o = 21 ∧ vp_in i (hL h o)) ∧ X xs L d 97 (18, lo, .inl (hI h o i.toNatClampNeg) :: sk, h) res := i_caload k_97_17
theorem e_97_18 : X xs L d 97 (18, lo, sk, h) res ↔ X xs L d 97 (20, lo, .inl 47 :: sk, h) res := i_bipush k_97_18
theorem e_97_20 {x y : Int32} : X xs L d 97 (20, lo, .inl y :: .inl x :: sk, h) res ↔ (if x = y then X xs L d 97 (23, lo, sk, h) res else X xs L d 97 (44, lo, sk, h) res) := i_icmp_ne k_97_20
theorem e_97_23 {x : Option Nat} {a1 a2 a3 a4 : Option AV} : X xs L d 97 (23, [some (.inr x), a1, a2, a3, a4], sk, h) res ↔ X xs L d 97 (24, [some (.inr x), a1, a2, a3, a4], .inr x :: sk, h) res := i_aload_n k_97_23 rfl
theorem e_97_24 {o : Nat} : X xs L d 97 (24, lo, .inr (some o) :: sk, h) res ↔ hK h o = 9 ∧ X xs L d 97 (27, lo, .inl (hI h o 28) :: sk, h) res := i_getI k_97_24
theorem e_97_27 {x : Int32} : X xs L d 97 (27, lo, .inl x :: sk, h) res ↔ (if x = 0 then X xs L d 97 (30, lo, sk, h) res else X xs L d 97 (44, lo, sk, h) res) := i_if_ne k_97_27
theorem e_97_30 {x : Option Nat} {a1 a2 a3 a4 : Option AV} : X xs L d 97 (30, [some (.inr x), a1, a2, a3, a4], sk, h) res ↔ X xs L d 97 (31, [some (.inr x), a1, a2, a3, a4], .inr x :: sk, h) res := i_aload_n k_97_30 rfl
theorem e_97_31 : X xs L d 97 (31, lo, sk, h) res ↔ X xs L d 97 (32, lo, .inl 3 :: sk, h) res := i_iconst k_97_31
theorem e_97_32 {o : Nat} {v : Int32} : X xs L d 97 (32, lo, .inl v :: .inr (some o) :: sk, h) res ↔ hK h o = 9 ∧ X xs L d 97 (35, lo, sk, sI h o 27 v) res := i_putI k_97_32
theorem e_97_35 {x : Option Nat} {a1 a2 a3 a4 : Option AV} : X xs L d 97 (35, [some (.inr x), a1, a2, a3, a4], sk, h) res ↔ X xs L d 97 (36, [some (.inr x), a1, a2, a3, a4], .inr x :: sk, h) res := i_aload_n k_97_35 rfl
theorem e_97_36 : X xs L d 97 (36, lo, sk, h) res ↔ X xs L d 97 (39, lo, .inl 1001 :: sk, h) res := i_sipush k_97_36
theorem e_97_39 {o : Nat} {v : Int32} : X xs L d 97 (39, lo, .inl v :: .inr (some o) :: sk, h) res ↔ hK h o = 9 ∧ X xs L d 97 (42, lo, sk, sI h o 28 v) res := i_putI k_97_39
theorem e_97_42 : X xs L d 97 (42, lo, sk, h) res ↔ X xs L d 97 (43, lo, .inl 0 :: sk, h) res := i_iconst k_97_42
theorem e_97_43 {v : Int32} : X xs L d 97 (43, lo, [.inl v], h) res ↔ (v = 0 ∨ v = 1) ∧ res = (some (.inl v), h) := i_zret k_97_43 rfl
theorem e_97_44 {x : Option Nat} {a1 a2 a3 a4 : Option AV} : X xs L d 97 (44, [some (.inr x), a1, a2, a3, a4], sk, h) res ↔ X xs L d 97 (45, [some (.inr x), a1, a2, a3, a4], .inr x :: sk, h) res := i_aload_n k_97_44 rfl
theorem e_97_45 {o : Nat} : X xs L d 97 (45, lo, .inr (some o) :: sk, h) res ↔ hK h o = 9 ∧ X xs L d 97 (48, lo, .inr (hR h o 22) :: sk, h) res := i_getR k_97_45
theorem e_97_48 {x : Int32} {a0 a1 a2 a4 : Option AV} : X xs L d 97 (48, [a0, a1, a2, some (.inl x), a4], sk, h) res ↔ X xs L d 97 (49, [a0, a1, a2, some (.inl x), a4], .inl x :: sk, h) res := i_iload_n k_97_48 rfl
theorem e_97_49 {x : Option Nat} {a1 a2 a3 a4 : Option AV} : X xs L d 97 (49, [some (.inr x), a1, a2, a3, a4], sk, h) res ↔ X xs L d 97 (50, [some (.inr x), a1, a2, a3, a4], .inr x :: sk, h) res := i_aload_n k_97_49 rfl
theorem e_97_50 {o : Nat} : X xs L d 97 (50, lo, .inr (some o) :: sk, h) res ↔ hK h o = 9 ∧ X xs L d 97 (53, lo, .inr (hR h o 23) :: sk, h) res := i_getR k_97_50
theorem e_97_53 {x : Int32} {a0 a1 a2 a4 : Option AV} : X xs L d 97 (53, [a0, a1, a2, some (.inl x), a4], sk, h) res ↔ X xs L d 97 (54, [a0, a1, a2, some (.inl x), a4], .inl x :: sk, h) res := i_iload_n k_97_53 rfl
theorem e_97_54 {o : Nat} {i : Int32} : X xs L d 97 (54, lo, .inl i :: .inr (some o) :: sk, h) res ↔ (hK h o = 21 ∧ vp_in i (hL h o)) ∧ X xs L d 97 (55, lo, .inl (hI h o i.toNatClampNeg) :: sk, h) res := i_caload k_97_54
theorem e_97_55 {x : Int32} : X xs L d 97 (55, lo, .inl x :: sk, h) res ↔ (if x = 0 then X xs L d 97 (58, lo, sk, h) res else X xs L d 97 (65, lo, sk, h) res) := i_if_ne k_97_55
theorem e_97_58 {x : Option Nat} {a1 a2 a3 a4 : Option AV} : X xs L d 97 (58, [some (.inr x), a1, a2, a3, a4], sk, h) res ↔ X xs L d 97 (59, [some (.inr x), a1, a2, a3, a4], .inr x :: sk, h) res := i_aload_n k_97_58 rfl
theorem e_97_59 {o : Nat} : X xs L d 97 (59, lo, .inr (some o) :: sk, h) res ↔ hK h o = 9 ∧ X xs L d 97 (62, lo, .inl (hI h o 28) :: sk, h) res := i_getI k_97_59
theorem e_97_62 : X xs L d 97 (62, lo, sk, h) res ↔ X xs L d 97 (84, lo, sk, h) res := i_goto k_97_62
theorem e_97_65 {x : Option Nat} {a1 a2 a3 a4 : Option AV} : X xs L d 97 (65, [some (.inr x), a1, a2, a3, a4], sk, h) res ↔ X xs L d 97 (66, [some (.inr x), a1, a2, a3, a4], .inr x :: sk, h) res := i_aload_n k_97_65 rfl
theorem e_97_66 {o : Nat} : X xs L d 97 (66, lo, .inr (some o) :: sk, h) res ↔ hK h o = 9 ∧ X xs L d 97 (69, lo, .inr (hR h o 22) :: sk, h) res := i_getR k_97_66
theorem e_97_69 {x : Int32} {a0 a1 a2 a4 : Option AV} : X xs L d 97 (69, [a0, a1, a2, some (.inl x), a4], sk, h) res ↔ X xs L d 97 (70, [a0, a1, a2, some (.inl x), a4], .inl x :: sk, h) res := i_iload_n k_97_69 rfl
theorem e_97_70 {o : Nat} {i : Int32} : X xs L d 97 (70, lo, .inl i :: .inr (some o) :: sk, h) res ↔ (hK h o = 20 ∧ vp_in i (hL h o)) ∧ X xs L d 97 (71, lo, .inl (hI h o i.toNatClampNeg) :: sk, h) res := i_iaload k_97_70
theorem e_97_71 {x : Option Nat} {a1 a2 a3 a4 : Option AV} : X xs L d 97 (71, [some (.inr x), a1, a2, a3, a4], sk, h) res ↔ X xs L d 97 (72, [some (.inr x), a1, a2, a3, a4], .inr x :: sk, h) res := i_aload_n k_97_71 rfl
theorem e_97_72 {o : Nat} : X xs L d 97 (72, lo, .inr (some o) :: sk, h) res ↔ hK h o = 9 ∧ X xs L d 97 (75, lo, .inr (hR h o 23) :: sk, h) res := i_getR k_97_72
theorem e_97_75 {x : Int32} {a0 a1 a2 a4 : Option AV} : X xs L d 97 (75, [a0, a1, a2, some (.inl x), a4], sk, h) res ↔ X xs L d 97 (76, [a0, a1, a2, some (.inl x), a4], .inl x :: sk, h) res := i_iload_n k_97_75 rfl
theorem e_97_76 {o : Nat} {i : Int32} : X xs L d 97 (76, lo, .inl i :: .inr (some o) :: sk, h) res ↔ (hK h o = 21 ∧ vp_in i (hL h o)) ∧ X xs L d 97 (77, lo, .inl (hI h o i.toNatClampNeg) :: sk, h) res := i_caload k_97_76
theorem e_97_77 {x : Option Nat} {a1 a2 a3 a4 : Option AV} : X xs L d 97 (77, [some (.inr x), a1, a2, a3, a4], sk, h) res ↔ X xs L d 97 (78, [some (.inr x), a1, a2, a3, a4], .inr x :: sk, h) res := i_aload_n k_97_77 rfl
theorem e_97_78 {o : Nat} : X xs L d 97 (78, lo, .inr (some o) :: sk, h) res ↔ hK h o = 9 ∧ X xs L d 97 (81, lo, .inl (hI h o 28) :: sk, h) res := i_getI k_97_78
theorem e_97_81 {v0 : Int32} {v1 : Int32} {v2 : Int32} (hs : sk.length ≤ 8) : X xs L d 97 (81, lo, .inl v2 :: .inl v1 :: .inl v0 :: sk, h) res ↔ ∃ q : Res, Rn xs L d 96 [.inl v0, .inl v1, .inl v2] h q ∧ X xs L d 97 (84, lo, q.1.toList ++ sk, q.2) res := i_callS k_97_81 ⟨Nat.le_add_left 3 sk.length, Nat.le_trans (Nat.add_le_add_right hs 3) (Nat.le_of_eq (Nat.add_comm 8 3))⟩
theorem e_97_84 {o : Nat} {i v : Int32} : X xs L d 97 (84, lo, .inl v :: .inl i :: .inr (some o) :: sk, h) res ↔ (hK h o = 20 ∧ vp_in i (hL h o)) ∧ X xs L d 97 (85, lo, sk, sI h o i.toNatClampNeg (v)) res := i_iastore k_97_84
theorem e_97_85 {x : Option Nat} {a1 a2 a3 a4 : Option AV} : X xs L d 97 (85, [some (.inr x), a1, a2, a3, a4], sk, h) res ↔ X xs L d 97 (86, [some (.inr x), a1, a2, a3, a4], .inr x :: sk, h) res := i_aload_n k_97_85 rfl
theorem e_97_86 {o : Nat} : X xs L d 97 (86, lo, .inr (some o) :: sk, h) res ↔ hK h o = 9 ∧ X xs L d 97 (89, lo, .inr (hR h o 2) :: sk, h) res := i_getR k_97_86
theorem e_97_89 {x : Option Nat} {a1 a2 a3 a4 : Option AV} : X xs L d 97 (89, [some (.inr x), a1, a2, a3, a4], sk, h) res ↔ X xs L d 97 (90, [some (.inr x), a1, a2, a3, a4], .inr x :: sk, h) res := i_aload_n k_97_89 rfl
theorem e_97_90 {o : Nat} : X xs L d 97 (90, lo, .inr (some o) :: sk, h) res ↔ hK h o = 9 ∧ X xs L d 97 (93, lo, .inr (hR h o 18) :: sk, h) res := i_getR k_97_90
theorem e_97_93 {x : Int32} {a0 a1 a3 a4 : Option AV} : X xs L d 97 (93, [a0, a1, some (.inl x), a3, a4], sk, h) res ↔ X xs L d 97 (94, [a0, a1, some (.inl x), a3, a4], .inl x :: sk, h) res := i_iload_n k_97_93 rfl
theorem e_97_94 {o : Nat} {i : Int32} : X xs L d 97 (94, lo, .inl i :: .inr (some o) :: sk, h) res ↔ (hK h o = 20 ∧ vp_in i (hL h o)) ∧ X xs L d 97 (95, lo, .inl (hI h o i.toNatClampNeg) :: sk, h) res := i_iaload k_97_94
theorem e_97_95 {o : Nat} {i : Int32} : X xs L d 97 (95, lo, .inl i :: .inr (some o) :: sk, h) res ↔ (hK h o = 21 ∧ vp_in i (hL h o)) ∧ X xs L d 97 (96, lo, .inl (hI h o i.toNatClampNeg) :: sk, h) res := i_caload k_97_95
theorem e_97_96 {x : Int32} {a0 a1 a2 a3 a4 : Option AV} : X xs L d 97 (96, [a0, a1, a2, a3, a4], .inl x :: sk, h) res ↔ X xs L d 97 (98, [a0, a1, a2, a3, some (.inl x)], sk, h) res := i_istore k_97_96 (Nat.le_of_ble_eq_true rfl) rfl
theorem e_97_98 {x : Option Nat} {a1 a2 a3 a4 : Option AV} : X xs L d 97 (98, [some (.inr x), a1, a2, a3, a4], sk, h) res ↔ X xs L d 97 (99, [some (.inr x), a1, a2, a3, a4], .inr x :: sk, h) res := i_aload_n k_97_98 rfl
theorem e_97_99 {x : Option Nat} {a1 a2 a3 a4 : Option AV} : X xs L d 97 (99, [some (.inr x), a1, a2, a3, a4], sk, h) res ↔ X xs L d 97 (100, [some (.inr x), a1, a2, a3, a4], .inr x :: sk, h) res := i_aload_n k_97_99 rfl
theorem e_97_100 {o : Nat} : X xs L d 97 (100, lo, .inr (some o) :: sk, h) res ↔ hK h o = 9 ∧ X xs L d 97 (103, lo, .inr (hR h o 22) :: sk, h) res := i_getR k_97_100
theorem e_97_103 {x : Int32} {a0 a1 a2 a4 : Option AV} : X xs L d 97 (103, [a0, a1, a2, some (.inl x), a4], sk, h) res ↔ X xs L d 97 (104, [a0, a1, a2, some (.inl x), a4], .inl x :: sk, h) res := i_iload_n k_97_103 rfl
theorem e_97_104 {o : Nat} {i : Int32} : X xs L d 97 (104, lo, .inl i :: .inr (some o) :: sk, h) res ↔ (hK h o = 20 ∧ vp_in i (hL h o)) ∧ X xs L d 97 (105, lo, .inl (hI h o i.toNatClampNeg) :: sk, h) res := i_iaload k_97_104
theorem e_97_105 {o : Nat} {v : Int32} : X xs L d 97 (105, lo, .inl v :: .inr (some o) :: sk, h) res ↔ hK h o = 9 ∧ X xs L d 97 (108, lo, sk, sI h o 28 v) res := i_putI k_97_105
theorem e_97_108 {x : Int32} {a0 a1 a2 a3 : Option AV} : X xs L d 97 (108, [a0, a1, a2, a3, some (.inl x)], sk, h) res ↔ X xs L d 97 (110, [a0, a1, a2, a3, some (.inl x)], .inl x :: sk, h) res := i_iload k_97_108 rfl
theorem e_97_110 {v0 : Int32} (hs : sk.length ≤ 8) : X xs L d 97 (110, lo, .inl v0 :: sk, h) res ↔ ∃ q : Res, Rn xs L d 80 [.inl v0] h q ∧ X xs L d 97 (113, lo, q.1.toList ++ sk, q.2) res := i_callS k_97_110 ⟨Nat.le_add_left 1 sk.length, Nat.le_trans (Nat.add_le_add_right hs 1) (Nat.le_of_eq (Nat.add_comm 8 1))⟩
theorem e_97_113 {x : Int32} : X xs L d 97 (113, lo, .inl x :: sk, h) res ↔ (if x = 0 then X xs L d 97 (141, lo, sk, h) res else X xs L d 97 (116, lo, sk, h) res) := i_if_eq k_97_113
theorem e_97_116 {x : Option Nat} {a1 a2 a3 a4 : Option AV} : X xs L d 97 (116, [some (.inr x), a1, a2, a3, a4], sk, h) res ↔ X xs L d 97 (117, [some (.inr x), a1, a2, a3, a4], .inr x :: sk, h) res := i_aload_n k_97_116 rfl
theorem e_97_117 {o : Nat} : X xs L d 97 (117, lo, .inr (some o) :: sk, h) res ↔ hK h o = 9 ∧ X xs L d 97 (120, lo, .inr (hR h o 23) :: sk, h) res := i_getR k_97_117
theorem e_97_120 {x : Int32} {a0 a1 a2 a4 : Option AV} : X xs L d 97 (120, [a0, a1, a2, some (.inl x), a4], sk, h) res ↔ X xs L d 97 (121, [a0, a1, a2, some (.inl x), a4], .inl x :: sk, h) res := i_iload_n k_97_120 rfl
theorem e_97_121 {x : Int32} {a0 a1 a2 a3 : Option AV} : X xs L d 97 (121, [a0, a1, a2, a3, some (.inl x)], sk, h) res ↔ X xs L d 97 (123, [a0, a1, a2, a3, some (.inl x)], .inl x :: sk, h) res := i_iload k_97_121 rfl
theorem e_97_123 {o : Nat} {i v : Int32} : X xs L d 97 (123, lo, .inl v :: .inl i :: .inr (some o) :: sk, h) res ↔ (hK h o = 21 ∧ vp_in i (hL h o)) ∧ X xs L d 97 (124, lo, sk, sI h o i.toNatClampNeg (vp_nar .char v)) res := i_castore k_97_123
theorem e_97_124 {x : Option Nat} {a1 a2 a3 a4 : Option AV} : X xs L d 97 (124, [some (.inr x), a1, a2, a3, a4], sk, h) res ↔ X xs L d 97 (125, [some (.inr x), a1, a2, a3, a4], .inr x :: sk, h) res := i_aload_n k_97_124 rfl
theorem e_97_125 {o : Nat} : X xs L d 97 (125, lo, .inr (some o) :: sk, h) res ↔ hK h o = 9 ∧ X xs L d 97 (128, lo, .inr (hR h o 18) :: sk, h) res := i_getR k_97_125
theorem e_97_128 {x : Int32} {a0 a1 a3 a4 : Option AV} : X xs L d 97 (128, [a0, a1, some (.inl x), a3, a4], sk, h) res ↔ X xs L d 97 (129, [a0, a1, some (.inl x), a3, a4], .inl x :: sk, h) res := i_iload_n k_97_128 rfl
theorem e_97_129 {v w : AV} : X xs L d 97 (129, lo, v :: w :: sk, h) res ↔ X xs L d 97 (130, lo, v :: w :: v :: w :: sk, h) res := i_dup2 k_97_129
theorem e_97_130 {o : Nat} {i : Int32} : X xs L d 97 (130, lo, .inl i :: .inr (some o) :: sk, h) res ↔ (hK h o = 20 ∧ vp_in i (hL h o)) ∧ X xs L d 97 (131, lo, .inl (hI h o i.toNatClampNeg) :: sk, h) res := i_iaload k_97_130
theorem e_97_131 : X xs L d 97 (131, lo, sk, h) res ↔ X xs L d 97 (132, lo, .inl 1 :: sk, h) res := i_iconst k_97_131
theorem e_97_132 {x y : Int32} : X xs L d 97 (132, lo, .inl y :: .inl x :: sk, h) res ↔ X xs L d 97 (133, lo, .inl (x + y) :: sk, h) res := i_iadd k_97_132
theorem e_97_133 {o : Nat} {i v : Int32} : X xs L d 97 (133, lo, .inl v :: .inl i :: .inr (some o) :: sk, h) res ↔ (hK h o = 20 ∧ vp_in i (hL h o)) ∧ X xs L d 97 (134, lo, sk, sI h o i.toNatClampNeg (v)) res := i_iastore k_97_133
theorem e_97_134 {x : Option Nat} {a1 a2 a3 a4 : Option AV} : X xs L d 97 (134, [some (.inr x), a1, a2, a3, a4], sk, h) res ↔ X xs L d 97 (135, [some (.inr x), a1, a2, a3, a4], .inr x :: sk, h) res := i_aload_n k_97_134 rfl
theorem e_97_135 : X xs L d 97 (135, lo, sk, h) res ↔ X xs L d 97 (136, lo, .inl 1 :: sk, h) res := i_iconst k_97_135
theorem e_97_136 {o : Nat} {v : Int32} : X xs L d 97 (136, lo, .inl v :: .inr (some o) :: sk, h) res ↔ hK h o = 9 ∧ X xs L d 97 (139, lo, sk, sI h o 27 v) res := i_putI k_97_136
theorem e_97_139 : X xs L d 97 (139, lo, sk, h) res ↔ X xs L d 97 (140, lo, .inl 0 :: sk, h) res := i_iconst k_97_139
theorem e_97_140 {v : Int32} : X xs L d 97 (140, lo, [.inl v], h) res ↔ (v = 0 ∨ v = 1) ∧ res = (some (.inl v), h) := i_zret k_97_140 rfl
theorem e_97_141 {x : Int32} {a0 a1 a2 a3 : Option AV} : X xs L d 97 (141, [a0, a1, a2, a3, some (.inl x)], sk, h) res ↔ X xs L d 97 (143, [a0, a1, a2, a3, some (.inl x)], .inl x :: sk, h) res := i_iload k_97_141 rfl
theorem e_97_143 : X xs L d 97 (143, lo, sk, h) res ↔ X xs L d 97 (145, lo, .inl 44 :: sk, h) res := i_bipush k_97_143
theorem e_97_145 {x y : Int32} : X xs L d 97 (145, lo, .inl y :: .inl x :: sk, h) res ↔ (if x = y then X xs L d 97 (157, lo, sk, h) res else X xs L d 97 (148, lo, sk, h) res) := i_icmp_eq k_97_145
theorem e_97_148 {x : Int32} {a0 a1 a2 a3 : Option AV} : X xs L d 97 (148, [a0, a1, a2, a3, some (.inl x)], sk, h) res ↔ X xs L d 97 (150, [a0, a1, a2, a3, some (.inl x)], .inl x :: sk, h) res := i_iload k_97_148 rfl
theorem e_97_150 : X xs L d 97 (150, lo, sk, h) res ↔ X xs L d 97 (152, lo, .inl 41 :: sk, h) res := i_bipush k_97_150
theorem e_97_152 {x y : Int32} : X xs L d 97 (152, lo, .inl y :: .inl x :: sk, h) res ↔ (if x = y then X xs L d 97 (157, lo, sk, h) res else X xs L d 97 (155, lo, sk, h) res) := i_icmp_eq k_97_152
theorem e_97_155 : X xs L d 97 (155, lo, sk, h) res ↔ X xs L d 97 (156, lo, .inl 1 :: sk, h) res := i_iconst k_97_155
theorem e_97_156 {v : Int32} : X xs L d 97 (156, lo, [.inl v], h) res ↔ (v = 0 ∨ v = 1) ∧ res = (some (.inl v), h) := i_zret k_97_156 rfl
theorem e_97_157 {x : Option Nat} {a1 a2 a3 a4 : Option AV} : X xs L d 97 (157, [some (.inr x), a1, a2, a3, a4], sk, h) res ↔ X xs L d 97 (158, [some (.inr x), a1, a2, a3, a4], .inr x :: sk, h) res := i_aload_n k_97_157 rfl
theorem e_97_158 {o : Nat} : X xs L d 97 (158, lo, .inr (some o) :: sk, h) res ↔ hK h o = 9 ∧ X xs L d 97 (161, lo, .inr (hR h o 18) :: sk, h) res := i_getR k_97_158
theorem e_97_161 {x : Int32} {a0 a1 a3 a4 : Option AV} : X xs L d 97 (161, [a0, a1, some (.inl x), a3, a4], sk, h) res ↔ X xs L d 97 (162, [a0, a1, some (.inl x), a3, a4], .inl x :: sk, h) res := i_iload_n k_97_161 rfl
theorem e_97_162 {v w : AV} : X xs L d 97 (162, lo, v :: w :: sk, h) res ↔ X xs L d 97 (163, lo, v :: w :: v :: w :: sk, h) res := i_dup2 k_97_162
theorem e_97_163 {o : Nat} {i : Int32} : X xs L d 97 (163, lo, .inl i :: .inr (some o) :: sk, h) res ↔ (hK h o = 20 ∧ vp_in i (hL h o)) ∧ X xs L d 97 (164, lo, .inl (hI h o i.toNatClampNeg) :: sk, h) res := i_iaload k_97_163
theorem e_97_164 : X xs L d 97 (164, lo, sk, h) res ↔ X xs L d 97 (165, lo, .inl 1 :: sk, h) res := i_iconst k_97_164
theorem e_97_165 {x y : Int32} : X xs L d 97 (165, lo, .inl y :: .inl x :: sk, h) res ↔ X xs L d 97 (166, lo, .inl (x + y) :: sk, h) res := i_iadd k_97_165
theorem e_97_166 {o : Nat} {i v : Int32} : X xs L d 97 (166, lo, .inl v :: .inl i :: .inr (some o) :: sk, h) res ↔ (hK h o = 20 ∧ vp_in i (hL h o)) ∧ X xs L d 97 (167, lo, sk, sI h o i.toNatClampNeg (v)) res := i_iastore k_97_166
theorem e_97_167 {x : Option Nat} {a1 a2 a3 a4 : Option AV} : X xs L d 97 (167, [some (.inr x), a1, a2, a3, a4], sk, h) res ↔ X xs L d 97 (168, [some (.inr x), a1, a2, a3, a4], .inr x :: sk, h) res := i_aload_n k_97_167 rfl
theorem e_97_168 {o : Nat} : X xs L d 97 (168, lo, .inr (some o) :: sk, h) res ↔ hK h o = 9 ∧ X xs L d 97 (171, lo, .inr (hR h o 24) :: sk, h) res := i_getR k_97_168
theorem e_97_171 {x : Int32} {a0 a1 a2 a4 : Option AV} : X xs L d 97 (171, [a0, a1, a2, some (.inl x), a4], sk, h) res ↔ X xs L d 97 (172, [a0, a1, a2, some (.inl x), a4], .inl x :: sk, h) res := i_iload_n k_97_171 rfl
theorem e_97_172 {o : Nat} {i : Int32} : X xs L d 97 (172, lo, .inl i :: .inr (some o) :: sk, h) res ↔ (hK h o = 20 ∧ vp_in i (hL h o)) ∧ X xs L d 97 (173, lo, .inl (hI h o i.toNatClampNeg) :: sk, h) res := i_iaload k_97_172
theorem e_97_173 : X xs L d 97 (173, lo, sk, h) res ↔ X xs L d 97 (174, lo, .inl 1 :: sk, h) res := i_iconst k_97_173
theorem e_97_174 {x y : Int32} : X xs L d 97 (174, lo, .inl y :: .inl x :: sk, h) res ↔ (if x = y then X xs L d 97 (177, lo, sk, h) res else X xs L d 97 (189, lo, sk, h) res) := i_icmp_ne k_97_174
theorem e_97_177 {x : Option Nat} {a1 a2 a3 a4 : Option AV} : X xs L d 97 (177, [some (.inr x), a1, a2, a3, a4], sk, h) res ↔ X xs L d 97 (178, [some (.inr x), a1, a2, a3, a4], .inr x :: sk, h) res := i_aload_n k_97_177 rfl
theorem e_97_178 {o : Nat} : X xs L d 97 (178, lo, .inr (some o) :: sk, h) res ↔ hK h o = 9 ∧ X xs L d 97 (181, lo, .inr (hR h o 21) :: sk, h) res := i_getR k_97_178
theorem e_97_181 {x : Int32} {a0 a1 a3 a4 : Option AV} : X xs L d 97 (181, [a0, a1, some (.inl x), a3, a4], sk, h) res ↔ X xs L d 97 (182, [a0, a1, some (.inl x), a3, a4], .inl x :: sk, h) res := i_iload_n k_97_181 rfl
theorem e_97_182 {v w : AV} : X xs L d 97 (182, lo, v :: w :: sk, h) res ↔ X xs L d 97 (183, lo, v :: w :: v :: w :: sk, h) res := i_dup2 k_97_182
theorem e_97_183 {o : Nat} {i : Int32} : X xs L d 97 (183, lo, .inl i :: .inr (some o) :: sk, h) res ↔ (hK h o = 20 ∧ vp_in i (hL h o)) ∧ X xs L d 97 (184, lo, .inl (hI h o i.toNatClampNeg) :: sk, h) res := i_iaload k_97_183
theorem e_97_184 : X xs L d 97 (184, lo, sk, h) res ↔ X xs L d 97 (185, lo, .inl 1 :: sk, h) res := i_iconst k_97_184
theorem e_97_185 {x y : Int32} : X xs L d 97 (185, lo, .inl y :: .inl x :: sk, h) res ↔ X xs L d 97 (186, lo, .inl (x - y) :: sk, h) res := i_isub k_97_185
theorem e_97_186 {o : Nat} {i v : Int32} : X xs L d 97 (186, lo, .inl v :: .inl i :: .inr (some o) :: sk, h) res ↔ (hK h o = 20 ∧ vp_in i (hL h o)) ∧ X xs L d 97 (187, lo, sk, sI h o i.toNatClampNeg (v)) res := i_iastore k_97_186
theorem e_97_187 : X xs L d 97 (187, lo, sk, h) res ↔ X xs L d 97 (188, lo, .inl 0 :: sk, h) res := i_iconst k_97_187
theorem e_97_188 {v : Int32} : X xs L d 97 (188, lo, [.inl v], h) res ↔ (v = 0 ∨ v = 1) ∧ res = (some (.inl v), h) := i_zret k_97_188 rfl
theorem e_97_189 {x : Option Nat} {a1 a2 a3 a4 : Option AV} : X xs L d 97 (189, [some (.inr x), a1, a2, a3, a4], sk, h) res ↔ X xs L d 97 (190, [some (.inr x), a1, a2, a3, a4], .inr x :: sk, h) res := i_aload_n k_97_189 rfl
theorem e_97_190 {o : Nat} : X xs L d 97 (190, lo, .inr (some o) :: sk, h) res ↔ hK h o = 9 ∧ X xs L d 97 (193, lo, .inr (hR h o 26) :: sk, h) res := i_getR k_97_190
theorem e_97_193 : X xs L d 97 (193, lo, sk, h) res ↔ X xs L d 97 (194, lo, .inl 3 :: sk, h) res := i_iconst k_97_193
theorem e_97_194 {x : Int32} {a0 a1 a2 a4 : Option AV} : X xs L d 97 (194, [a0, a1, a2, some (.inl x), a4], sk, h) res ↔ X xs L d 97 (195, [a0, a1, a2, some (.inl x), a4], .inl x :: sk, h) res := i_iload_n k_97_194 rfl
theorem e_97_195 {x y : Int32} : X xs L d 97 (195, lo, .inl y :: .inl x :: sk, h) res ↔ X xs L d 97 (196, lo, .inl (x * y) :: sk, h) res := i_imul k_97_195
theorem e_97_196 {x : Option Nat} {a1 a2 a3 a4 : Option AV} : X xs L d 97 (196, [some (.inr x), a1, a2, a3, a4], sk, h) res ↔ X xs L d 97 (197, [some (.inr x), a1, a2, a3, a4], .inr x :: sk, h) res := i_aload_n k_97_196 rfl
theorem e_97_197 {o : Nat} : X xs L d 97 (197, lo, .inr (some o) :: sk, h) res ↔ hK h o = 9 ∧ X xs L d 97 (200, lo, .inr (hR h o 25) :: sk, h) res := i_getR k_97_197
theorem e_97_200 {x : Int32} {a0 a1 a2 a4 : Option AV} : X xs L d 97 (200, [a0, a1, a2, some (.inl x), a4], sk, h) res ↔ X xs L d 97 (201, [a0, a1, a2, some (.inl x), a4], .inl x :: sk, h) res := i_iload_n k_97_200 rfl
theorem e_97_201 {o : Nat} {i : Int32} : X xs L d 97 (201, lo, .inl i :: .inr (some o) :: sk, h) res ↔ (hK h o = 20 ∧ vp_in i (hL h o)) ∧ X xs L d 97 (202, lo, .inl (hI h o i.toNatClampNeg) :: sk, h) res := i_iaload k_97_201
theorem e_97_202 {x y : Int32} : X xs L d 97 (202, lo, .inl y :: .inl x :: sk, h) res ↔ X xs L d 97 (203, lo, .inl (x + y) :: sk, h) res := i_iadd k_97_202
theorem e_97_203 {x : Option Nat} {a1 a2 a3 a4 : Option AV} : X xs L d 97 (203, [some (.inr x), a1, a2, a3, a4], sk, h) res ↔ X xs L d 97 (204, [some (.inr x), a1, a2, a3, a4], .inr x :: sk, h) res := i_aload_n k_97_203 rfl
theorem e_97_204 {o : Nat} : X xs L d 97 (204, lo, .inr (some o) :: sk, h) res ↔ hK h o = 9 ∧ X xs L d 97 (207, lo, .inl (hI h o 28) :: sk, h) res := i_getI k_97_204
theorem e_97_207 {o : Nat} {i v : Int32} : X xs L d 97 (207, lo, .inl v :: .inl i :: .inr (some o) :: sk, h) res ↔ (hK h o = 20 ∧ vp_in i (hL h o)) ∧ X xs L d 97 (208, lo, sk, sI h o i.toNatClampNeg (v)) res := i_iastore k_97_207
theorem e_97_208 {x : Option Nat} {a1 a2 a3 a4 : Option AV} : X xs L d 97 (208, [some (.inr x), a1, a2, a3, a4], sk, h) res ↔ X xs L d 97 (209, [some (.inr x), a1, a2, a3, a4], .inr x :: sk, h) res := i_aload_n k_97_208 rfl
theorem e_97_209 {o : Nat} : X xs L d 97 (209, lo, .inr (some o) :: sk, h) res ↔ hK h o = 9 ∧ X xs L d 97 (212, lo, .inr (hR h o 25) :: sk, h) res := i_getR k_97_209
theorem e_97_212 {x : Int32} {a0 a1 a2 a4 : Option AV} : X xs L d 97 (212, [a0, a1, a2, some (.inl x), a4], sk, h) res ↔ X xs L d 97 (213, [a0, a1, a2, some (.inl x), a4], .inl x :: sk, h) res := i_iload_n k_97_212 rfl
theorem e_97_213 {v w : AV} : X xs L d 97 (213, lo, v :: w :: sk, h) res ↔ X xs L d 97 (214, lo, v :: w :: v :: w :: sk, h) res := i_dup2 k_97_213
theorem e_97_214 {o : Nat} {i : Int32} : X xs L d 97 (214, lo, .inl i :: .inr (some o) :: sk, h) res ↔ (hK h o = 20 ∧ vp_in i (hL h o)) ∧ X xs L d 97 (215, lo, .inl (hI h o i.toNatClampNeg) :: sk, h) res := i_iaload k_97_214
theorem e_97_215 : X xs L d 97 (215, lo, sk, h) res ↔ X xs L d 97 (216, lo, .inl 1 :: sk, h) res := i_iconst k_97_215
theorem e_97_216 {x y : Int32} : X xs L d 97 (216, lo, .inl y :: .inl x :: sk, h) res ↔ X xs L d 97 (217, lo, .inl (x + y) :: sk, h) res := i_iadd k_97_216
theorem e_97_217 {o : Nat} {i v : Int32} : X xs L d 97 (217, lo, .inl v :: .inl i :: .inr (some o) :: sk, h) res ↔ (hK h o = 20 ∧ vp_in i (hL h o)) ∧ X xs L d 97 (218, lo, sk, sI h o i.toNatClampNeg (v)) res := i_iastore k_97_217
theorem e_97_218 {x : Option Nat} {a1 a2 a3 a4 : Option AV} : X xs L d 97 (218, [some (.inr x), a1, a2, a3, a4], sk, h) res ↔ X xs L d 97 (219, [some (.inr x), a1, a2, a3, a4], .inr x :: sk, h) res := i_aload_n k_97_218 rfl
theorem e_97_219 {o : Nat} : X xs L d 97 (219, lo, .inr (some o) :: sk, h) res ↔ hK h o = 9 ∧ X xs L d 97 (222, lo, .inr (hR h o 23) :: sk, h) res := i_getR k_97_219
theorem e_97_222 {x : Int32} {a0 a1 a2 a4 : Option AV} : X xs L d 97 (222, [a0, a1, a2, some (.inl x), a4], sk, h) res ↔ X xs L d 97 (223, [a0, a1, a2, some (.inl x), a4], .inl x :: sk, h) res := i_iload_n k_97_222 rfl
theorem e_97_223 : X xs L d 97 (223, lo, sk, h) res ↔ X xs L d 97 (224, lo, .inl 0 :: sk, h) res := i_iconst k_97_223
theorem e_97_224 {o : Nat} {i v : Int32} : X xs L d 97 (224, lo, .inl v :: .inl i :: .inr (some o) :: sk, h) res ↔ (hK h o = 21 ∧ vp_in i (hL h o)) ∧ X xs L d 97 (225, lo, sk, sI h o i.toNatClampNeg (vp_nar .char v)) res := i_castore k_97_224
theorem e_97_225 {x : Option Nat} {a1 a2 a3 a4 : Option AV} : X xs L d 97 (225, [some (.inr x), a1, a2, a3, a4], sk, h) res ↔ X xs L d 97 (226, [some (.inr x), a1, a2, a3, a4], .inr x :: sk, h) res := i_aload_n k_97_225 rfl
theorem e_97_226 : X xs L d 97 (226, lo, sk, h) res ↔ X xs L d 97 (227, lo, .inl 1 :: sk, h) res := i_iconst k_97_226
theorem e_97_227 {o : Nat} {v : Int32} : X xs L d 97 (227, lo, .inl v :: .inr (some o) :: sk, h) res ↔ hK h o = 9 ∧ X xs L d 97 (230, lo, sk, sI h o 27 v) res := i_putI k_97_227
theorem e_97_230 {x : Int32} {a0 a1 a2 a3 : Option AV} : X xs L d 97 (230, [a0, a1, a2, a3, some (.inl x)], sk, h) res ↔ X xs L d 97 (232, [a0, a1, a2, a3, some (.inl x)], .inl x :: sk, h) res := i_iload k_97_230 rfl
theorem e_97_232 : X xs L d 97 (232, lo, sk, h) res ↔ X xs L d 97 (234, lo, .inl 41 :: sk, h) res := i_bipush k_97_232
theorem e_97_234 {x y : Int32} : X xs L d 97 (234, lo, .inl y :: .inl x :: sk, h) res ↔ (if x = y then X xs L d 97 (237, lo, sk, h) res else X xs L d 97 (263, lo, sk, h) res) := i_icmp_ne k_97_234
theorem e_97_237 {x : Option Nat} {a1 a2 a3 a4 : Option AV} : X xs L d 97 (237, [some (.inr x), a1, a2, a3, a4], sk, h) res ↔ X xs L d 97 (238, [some (.inr x), a1, a2, a3, a4], .inr x :: sk, h) res := i_aload_n k_97_237 rfl
theorem e_97_238 {o : Nat} : X xs L d 97 (238, lo, .inr (some o) :: sk, h) res ↔ hK h o = 9 ∧ X xs L d 97 (241, lo, .inr (hR h o 21) :: sk, h) res := i_getR k_97_238
theorem e_97_241 {x : Int32} {a0 a1 a3 a4 : Option AV} : X xs L d 97 (241, [a0, a1, some (.inl x), a3, a4], sk, h) res ↔ X xs L d 97 (242, [a0, a1, some (.inl x), a3, a4], .inl x :: sk, h) res := i_iload_n k_97_241 rfl
theorem e_97_242 {v w : AV} : X xs L d 97 (242, lo, v :: w :: sk, h) res ↔ X xs L d 97 (243, lo, v :: w :: v :: w :: sk, h) res := i_dup2 k_97_242
theorem e_97_243 {o : Nat} {i : Int32} : X xs L d 97 (243, lo, .inl i :: .inr (some o) :: sk, h) res ↔ (hK h o = 20 ∧ vp_in i (hL h o)) ∧ X xs L d 97 (244, lo, .inl (hI h o i.toNatClampNeg) :: sk, h) res := i_iaload k_97_243
theorem e_97_244 : X xs L d 97 (244, lo, sk, h) res ↔ X xs L d 97 (245, lo, .inl 1 :: sk, h) res := i_iconst k_97_244
theorem e_97_245 {x y : Int32} : X xs L d 97 (245, lo, .inl y :: .inl x :: sk, h) res ↔ X xs L d 97 (246, lo, .inl (x - y) :: sk, h) res := i_isub k_97_245
theorem e_97_246 {o : Nat} {i v : Int32} : X xs L d 97 (246, lo, .inl v :: .inl i :: .inr (some o) :: sk, h) res ↔ (hK h o = 20 ∧ vp_in i (hL h o)) ∧ X xs L d 97 (247, lo, sk, sI h o i.toNatClampNeg (v)) res := i_iastore k_97_246
theorem e_97_247 {x : Option Nat} {a1 a2 a3 a4 : Option AV} : X xs L d 97 (247, [some (.inr x), a1, a2, a3, a4], sk, h) res ↔ X xs L d 97 (248, [some (.inr x), a1, a2, a3, a4], .inr x :: sk, h) res := i_aload_n k_97_247 rfl
theorem e_97_248 {x : Int32} {a0 a2 a3 a4 : Option AV} : X xs L d 97 (248, [a0, some (.inl x), a2, a3, a4], sk, h) res ↔ X xs L d 97 (249, [a0, some (.inl x), a2, a3, a4], .inl x :: sk, h) res := i_iload_n k_97_248 rfl
theorem e_97_249 {x : Option Nat} {a1 a2 a3 a4 : Option AV} : X xs L d 97 (249, [some (.inr x), a1, a2, a3, a4], sk, h) res ↔ X xs L d 97 (250, [some (.inr x), a1, a2, a3, a4], .inr x :: sk, h) res := i_aload_n k_97_249 rfl
theorem e_97_250 {o : Nat} : X xs L d 97 (250, lo, .inr (some o) :: sk, h) res ↔ hK h o = 9 ∧ X xs L d 97 (253, lo, .inr (hR h o 24) :: sk, h) res := i_getR k_97_250
theorem e_97_253 {x : Int32} {a0 a1 a2 a4 : Option AV} : X xs L d 97 (253, [a0, a1, a2, some (.inl x), a4], sk, h) res ↔ X xs L d 97 (254, [a0, a1, a2, some (.inl x), a4], .inl x :: sk, h) res := i_iload_n k_97_253 rfl
theorem e_97_254 {o : Nat} {i : Int32} : X xs L d 97 (254, lo, .inl i :: .inr (some o) :: sk, h) res ↔ (hK h o = 20 ∧ vp_in i (hL h o)) ∧ X xs L d 97 (255, lo, .inl (hI h o i.toNatClampNeg) :: sk, h) res := i_iaload k_97_254
theorem e_97_255 : X xs L d 97 (255, lo, sk, h) res ↔ X xs L d 97 (256, lo, .inl 2 :: sk, h) res := i_iconst k_97_255
theorem e_97_256 {x y : Int32} : X xs L d 97 (256, lo, .inl y :: .inl x :: sk, h) res ↔ X xs L d 97 (257, lo, .inl (x - y) :: sk, h) res := i_isub k_97_256
theorem e_97_257 : X xs L d 97 (257, lo, sk, h) res ↔ X xs L d 97 (258, lo, .inl 3 :: sk, h) res := i_iconst k_97_257
theorem e_97_258 {x : Int32} {a0 a1 a2 a4 : Option AV} : X xs L d 97 (258, [a0, a1, a2, some (.inl x), a4], sk, h) res ↔ X xs L d 97 (259, [a0, a1, a2, some (.inl x), a4], .inl x :: sk, h) res := i_iload_n k_97_258 rfl
theorem e_97_259 {x y : Int32} : X xs L d 97 (259, lo, .inl y :: .inl x :: sk, h) res ↔ X xs L d 97 (260, lo, .inl (x * y) :: sk, h) res := i_imul k_97_259
theorem e_97_260 {o : Nat} {v0 : Int32} {v1 : Int32} {v2 : Int32} (hs : sk.length ≤ 8) : X xs L d 97 (260, lo, .inl v2 :: .inl v1 :: .inl v0 :: .inr (some o) :: sk, h) res ↔ hK h o = 9 ∧ ∃ q : Res, Rn xs L d 92 [.inr (some o), .inl v0, .inl v1, .inl v2] h q ∧ X xs L d 97 (263, lo, q.1.toList ++ sk, q.2) res := i_callV k_97_260 rfl ⟨Nat.le_add_left 4 sk.length, Nat.le_trans (Nat.add_le_add_right hs 4) (Nat.le_of_eq (Nat.add_comm 8 4))⟩
theorem e_97_263 : X xs L d 97 (263, lo, sk, h) res ↔ X xs L d 97 (264, lo, .inl 0 :: sk, h) res := i_iconst k_97_263
theorem e_97_264 {v : Int32} : X xs L d 97 (264, lo, [.inl v], h) res ↔ (v = 0 ∨ v = 1) ∧ res = (some (.inl v), h) := i_zret k_97_264 rfl
theorem k_98_0 : am_cd 98 0 = some (.aload_n 0, 1, [], [])   := rfl
theorem k_98_1 : am_cd 98 1 = some (.getfield 13, 3, [9, 2, 2], [(0, 706)])   := rfl
theorem k_98_4 : am_cd 98 4 = some (.aload_n 0, 1, [], [])   := rfl
theorem k_98_5 : am_cd 98 5 = some (.getfield 56, 3, [9, 19, 2], [(0, 723)])   := rfl
theorem k_98_8 : am_cd 98 8 = some (.iload_n 1, 1, [], [])   := rfl
theorem k_98_9 : am_cd 98 9 = some (.iaload, 1, [], [])   := rfl
theorem k_98_10 : am_cd 98 10 = some (.caload, 1, [], [])   := rfl
theorem k_98_11 : am_cd 98 11 = some (.istore_n 2, 1, [], [])   := rfl
theorem k_98_12 : am_cd 98 12 = some (.aload_n 0, 1, [], [])   := rfl
theorem k_98_13 : am_cd 98 13 = some (.getfield 53, 3, [9, 18, 2], [(0, 722)])   := rfl
theorem k_98_16 : am_cd 98 16 = some (.iload_n 1, 1, [], [])   := rfl
theorem k_98_17 : am_cd 98 17 = some (.iaload, 1, [], [])   := rfl
theorem k_98_18 : am_cd 98 18 = some (.istore_n 3, 1, [], [])   := rfl
theorem k_98_19 : am_cd 98 19 = some (.aload_n 0, 1, [], [])   := rfl
theorem k_98_20 : am_cd 98 20 = some (.iload_n 2, 1, [], [])   := rfl
theorem k_98_21 : am_cd 98 21 = some (.bipush 94, 2, [], [(94, 0)])   := rfl
theorem k_98_23 : am_cd 98 23 = some (.if_icmp .ne 7, 3, [30], [])   := rfl
theorem k_98_26 : am_cd 98 26 = some (.iconst 4, 1, [], [(4, 0)])   := rfl
theorem k_98_27 : am_cd 98 27 = some (.goto 14, 3, [41], [])   := rfl
theorem k_98_30 : am_cd 98 30 = some (.iload_n 2, 1, [], [])   := rfl
theorem k_98_31 : am_cd 98 31 = some (.bipush 35, 2, [], [(35, 0)])   := rfl
theorem k_98_33 : am_cd 98 33 = some (.if_icmp .ne 7, 3, [40], [])   := rfl
theorem k_98_36 : am_cd 98 36 = some (.iconst 3, 1, [], [(3, 0)])   := rfl
theorem k_98_37 : am_cd 98 37 = some (.goto 4, 3, [41], [])   := rfl
theorem k_98_40 : am_cd 98 40 = some (.iconst 0, 1, [], [(0, 0)])   := rfl
theorem k_98_41 : am_cd 98 41 = some (.putfield 182, 3, [9, 27, 0], [(0, 731)])   := rfl
theorem k_98_44 : am_cd 98 44 = some (.aload_n 0, 1, [], [])   := rfl
theorem k_98_45 : am_cd 98 45 = some (.getfield 53, 3, [9, 18, 2], [(0, 722)])   := rfl
theorem k_98_48 : am_cd 98 48 = some (.iload_n 1, 1, [], [])   := rfl
theorem k_98_49 : am_cd 98 49 = some (.iload_n 2, 1, [], [])   := rfl
theorem k_98_50 : am_cd 98 50 = some (.bipush 63, 2, [], [(63, 0)])   := rfl
theorem k_98_52 : am_cd 98 52 = some (.if_icmp .eq 9, 3, [61], [])   := rfl
theorem k_98_55 : am_cd 98 55 = some (.iload_n 2, 1, [], [])   := rfl
theorem k_98_56 : am_cd 98 56 = some (.bipush 64, 2, [], [(64, 0)])   := rfl
theorem k_98_58 : am_cd 98 58 = some (.if_icmp .ne 27, 3, [85], [])   := rfl
theorem k_98_61 : am_cd 98 61 = some (.aload_n 0, 1, [], [])   := rfl
theorem k_98_62 : am_cd 98 62 = some (.getfield 185, 3, [9, 28, 0], [(0, 732)])   := rfl
theorem k_98_65 : am_cd 98 65 = some (.ifCond .eq 9, 3, [74], [])   := rfl
theorem k_98_68 : am_cd 98 68 = some (.iload_n 3, 1, [], [])   := rfl
theorem k_98_69 : am_cd 98 69 = some (.iconst 1, 1, [], [(1, 0)])   := rfl
theorem k_98_70 : am_cd 98 70 = some (.iadd, 1, [], [])   := rfl
theorem k_98_71 : am_cd 98 71 = some (.goto 17, 3, [88], [])   := rfl
theorem k_98_74 : am_cd 98 74 = some (.aload_n 0, 1, [], [])   := rfl
theorem k_98_75 : am_cd 98 75 = some (.getfield 16, 3, [9, 6, 2], [(0, 710)])   := rfl
theorem k_98_78 : am_cd 98 78 = some (.iload_n 3, 1, [], [])   := rfl
theorem k_98_79 : am_cd 98 79 = some (.iaload, 1, [], [])   := rfl
theorem k_98_80 : am_cd 98 80 = some (.iconst 1, 1, [], [(1, 0)])   := rfl
theorem k_98_81 : am_cd 98 81 = some (.iadd, 1, [], [])   := rfl
theorem k_98_82 : am_cd 98 82 = some (.goto 6, 3, [88], [])   := rfl
theorem k_98_85 : am_cd 98 85 = some (.iload_n 3, 1, [], [])   := rfl
theorem k_98_86 : am_cd 98 86 = some (.iconst 1, 1, [], [(1, 0)])   := rfl
theorem k_98_87 : am_cd 98 87 = some (.iadd, 1, [], [])   := rfl
theorem k_98_88 : am_cd 98 88 = some (.iastore, 1, [], [])   := rfl
theorem k_98_89 : am_cd 98 89 = some (.iload_n 2, 1, [], [])   := rfl
theorem k_98_90 : am_cd 98 90 = some (.invokestatic 110, 3, [77, 1], [(0, 869), (0, 870)])   := rfl
theorem k_98_93 : am_cd 98 93 = some (.ifCond .eq 21, 3, [114], [])   := rfl
theorem k_98_96 : am_cd 98 96 = some (.aload_n 0, 1, [], [])   := rfl
theorem k_98_97 : am_cd 98 97 = some (.getfield 59, 3, [9, 20, 2], [(0, 724)])   := rfl
theorem k_98_100 : am_cd 98 100 = some (.bipush 6, 2, [], [(6, 0)])   := rfl
theorem k_98_102 : am_cd 98 102 = some (.iload_n 1, 1, [], [])   := rfl
theorem k_98_103 : am_cd 98 103 = some (.imul, 1, [], [])   := rfl
theorem k_98_104 : am_cd 98 104 = some (.iload_n 2, 1, [], [])   := rfl
theorem k_98_105 : am_cd 98 105 = some (.iadd, 1, [], [])   := rfl
theorem k_98_106 : am_cd 98 106 = some (.bipush 97, 2, [], [(97, 0)])   := rfl
theorem k_98_108 : am_cd 98 108 = some (.isub, 1, [], [])   := rfl
theorem k_98_109 : am_cd 98 109 = some (.aload_n 0, 1, [], [])   := rfl
theorem k_98_110 : am_cd 98 110 = some (.getfield 185, 3, [9, 28, 0], [(0, 732)])   := rfl
theorem k_98_113 : am_cd 98 113 = some (.iastore, 1, [], [])   := rfl
theorem k_98_114 : am_cd 98 114 = some (.iload_n 2, 1, [], [])   := rfl
theorem k_98_115 : am_cd 98 115 = some (.bipush 33, 2, [], [(33, 0)])   := rfl
theorem k_98_117 : am_cd 98 117 = some (.if_icmp .ne 35, 3, [152], [])   := rfl
theorem k_98_120 : am_cd 98 120 = some (.iload_n 1, 1, [], [])   := rfl
theorem k_98_121 : am_cd 98 121 = some (.bipush 6, 2, [], [(6, 0)])   := rfl
theorem k_98_123 : am_cd 98 123 = some (.if_icmp .ge 29, 3, [152], [])   := rfl
theorem k_98_126 : am_cd 98 126 = some (.aload_n 0, 1, [], [])   := rfl
theorem k_98_127 : am_cd 98 127 = some (.getfield 96, 3, [9, 41, 2], [(0, 745)])   := rfl
theorem k_98_130 : am_cd 98 130 = some (.aload_n 0, 1, [], [])   := rfl
theorem k_98_131 : am_cd 98 131 = some (.getfield 173, 3, [9, 40, 0], [(0, 744)])   := rfl
theorem k_98_134 : am_cd 98 134 = some (.bipush 16, 2, [], [(16, 0)])   := rfl
theorem k_98_136 : am_cd 98 136 = some (.irem, 1, [], [])   := rfl
theorem k_98_137 : am_cd 98 137 = some (.aload_n 0, 1, [], [])   := rfl
theorem k_98_138 : am_cd 98 138 = some (.getfield 185, 3, [9, 28, 0], [(0, 732)])   := rfl
theorem k_98_141 : am_cd 98 141 = some (.iastore, 1, [], [])   := rfl
theorem k_98_142 : am_cd 98 142 = some (.aload_n 0, 1, [], [])   := rfl
theorem k_98_143 : am_cd 98 143 = some (.dup, 1, [], [])   := rfl
theorem k_98_144 : am_cd 98 144 = some (.getfield 173, 3, [9, 40, 0], [(0, 744)])   := rfl
theorem k_98_147 : am_cd 98 147 = some (.iconst 1, 1, [], [(1, 0)])   := rfl
theorem k_98_148 : am_cd 98 148 = some (.iadd, 1, [], [])   := rfl
theorem k_98_149 : am_cd 98 149 = some (.putfield 173, 3, [9, 40, 0], [(0, 744)])   := rfl
theorem k_98_152 : am_cd 98 152 = some (.return_, 1, [], [])   := rfl
theorem e_98_0 {x : Option Nat} {a1 a2 a3 : Option AV} : X xs L d 98 (0, [some (.inr x), a1, a2, a3], sk, h) res ↔ X xs L d 98 (1, [some (.inr x), a1, a2, a3], .inr x :: sk, h) res := i_aload_n k_98_0 rfl
theorem e_98_1 {o : Nat} : X xs L d 98 (1, lo, .inr (some o) :: sk, h) res ↔ hK h o = 9 ∧ X xs L d 98 (4, lo, .inr (hR h o 2) :: sk, h) res := i_getR k_98_1
theorem e_98_4 {x : Option Nat} {a1 a2 a3 : Option AV} : X xs L d 98 (4, [some (.inr x), a1, a2, a3], sk, h) res ↔ X xs L d 98 (5, [some (.inr x), a1, a2, a3], .inr x :: sk, h) res := i_aload_n k_98_4 rfl
theorem e_98_5 {o : Nat} : X xs L d 98 (5, lo, .inr (some o) :: sk, h) res ↔ hK h o = 9 ∧ X xs L d 98 (8, lo, .inr (hR h o 19) :: sk, h) res := i_getR k_98_5
theorem e_98_8 {x : Int32} {a0 a2 a3 : Option AV} : X xs L d 98 (8, [a0, some (.inl x), a2, a3], sk, h) res ↔ X xs L d 98 (9, [a0, some (.inl x), a2, a3], .inl x :: sk, h) res := i_iload_n k_98_8 rfl
theorem e_98_9 {o : Nat} {i : Int32} : X xs L d 98 (9, lo, .inl i :: .inr (some o) :: sk, h) res ↔ (hK h o = 20 ∧ vp_in i (hL h o)) ∧ X xs L d 98 (10, lo, .inl (hI h o i.toNatClampNeg) :: sk, h) res := i_iaload k_98_9
theorem e_98_10 {o : Nat} {i : Int32} : X xs L d 98 (10, lo, .inl i :: .inr (some o) :: sk, h) res ↔ (hK h o = 21 ∧ vp_in i (hL h o)) ∧ X xs L d 98 (11, lo, .inl (hI h o i.toNatClampNeg) :: sk, h) res := i_caload k_98_10
theorem e_98_11 {x : Int32} {a0 a1 a2 a3 : Option AV} : X xs L d 98 (11, [a0, a1, a2, a3], .inl x :: sk, h) res ↔ X xs L d 98 (12, [a0, a1, some (.inl x), a3], sk, h) res := i_istore_n k_98_11 (Nat.le_of_ble_eq_true rfl) rfl
theorem e_98_12 {x : Option Nat} {a1 a2 a3 : Option AV} : X xs L d 98 (12, [some (.inr x), a1, a2, a3], sk, h) res ↔ X xs L d 98 (13, [some (.inr x), a1, a2, a3], .inr x :: sk, h) res := i_aload_n k_98_12 rfl
theorem e_98_13 {o : Nat} : X xs L d 98 (13, lo, .inr (some o) :: sk, h) res ↔ hK h o = 9 ∧ X xs L d 98 (16, lo, .inr (hR h o 18) :: sk, h) res := i_getR k_98_13
theorem e_98_16 {x : Int32} {a0 a2 a3 : Option AV} : X xs L d 98 (16, [a0, some (.inl x), a2, a3], sk, h) res ↔ X xs L d 98 (17, [a0, some (.inl x), a2, a3], .inl x :: sk, h) res := i_iload_n k_98_16 rfl
theorem e_98_17 {o : Nat} {i : Int32} : X xs L d 98 (17, lo, .inl i :: .inr (some o) :: sk, h) res ↔ (hK h o = 20 ∧ vp_in i (hL h o)) ∧ X xs L d 98 (18, lo, .inl (hI h o i.toNatClampNeg) :: sk, h) res := i_iaload k_98_17
theorem e_98_18 {x : Int32} {a0 a1 a2 a3 : Option AV} : X xs L d 98 (18, [a0, a1, a2, a3], .inl x :: sk, h) res ↔ X xs L d 98 (19, [a0, a1, a2, some (.inl x)], sk, h) res := i_istore_n k_98_18 (Nat.le_of_ble_eq_true rfl) rfl
theorem e_98_19 {x : Option Nat} {a1 a2 a3 : Option AV} : X xs L d 98 (19, [some (.inr x), a1, a2, a3], sk, h) res ↔ X xs L d 98 (20, [some (.inr x), a1, a2, a3], .inr x :: sk, h) res := i_aload_n k_98_19 rfl
theorem e_98_20 {x : Int32} {a0 a1 a3 : Option AV} : X xs L d 98 (20, [a0, a1, some (.inl x), a3], sk, h) res ↔ X xs L d 98 (21, [a0, a1, some (.inl x), a3], .inl x :: sk, h) res := i_iload_n k_98_20 rfl
theorem e_98_21 : X xs L d 98 (21, lo, sk, h) res ↔ X xs L d 98 (23, lo, .inl 94 :: sk, h) res := i_bipush k_98_21
theorem e_98_23 {x y : Int32} : X xs L d 98 (23, lo, .inl y :: .inl x :: sk, h) res ↔ (if x = y then X xs L d 98 (26, lo, sk, h) res else X xs L d 98 (30, lo, sk, h) res) := i_icmp_ne k_98_23
theorem e_98_26 : X xs L d 98 (26, lo, sk, h) res ↔ X xs L d 98 (27, lo, .inl 4 :: sk, h) res := i_iconst k_98_26
theorem e_98_27 : X xs L d 98 (27, lo, sk, h) res ↔ X xs L d 98 (41, lo, sk, h) res := i_goto k_98_27
theorem e_98_30 {x : Int32} {a0 a1 a3 : Option AV} : X xs L d 98 (30, [a0, a1, some (.inl x), a3], sk, h) res ↔ X xs L d 98 (31, [a0, a1, some (.inl x), a3], .inl x :: sk, h) res := i_iload_n k_98_30 rfl
theorem e_98_31 : X xs L d 98 (31, lo, sk, h) res ↔ X xs L d 98 (33, lo, .inl 35 :: sk, h) res := i_bipush k_98_31
theorem e_98_33 {x y : Int32} : X xs L d 98 (33, lo, .inl y :: .inl x :: sk, h) res ↔ (if x = y then X xs L d 98 (36, lo, sk, h) res else X xs L d 98 (40, lo, sk, h) res) := i_icmp_ne k_98_33
theorem e_98_36 : X xs L d 98 (36, lo, sk, h) res ↔ X xs L d 98 (37, lo, .inl 3 :: sk, h) res := i_iconst k_98_36
theorem e_98_37 : X xs L d 98 (37, lo, sk, h) res ↔ X xs L d 98 (41, lo, sk, h) res := i_goto k_98_37
theorem e_98_40 : X xs L d 98 (40, lo, sk, h) res ↔ X xs L d 98 (41, lo, .inl 0 :: sk, h) res := i_iconst k_98_40
theorem e_98_41 {o : Nat} {v : Int32} : X xs L d 98 (41, lo, .inl v :: .inr (some o) :: sk, h) res ↔ hK h o = 9 ∧ X xs L d 98 (44, lo, sk, sI h o 27 v) res := i_putI k_98_41
theorem e_98_44 {x : Option Nat} {a1 a2 a3 : Option AV} : X xs L d 98 (44, [some (.inr x), a1, a2, a3], sk, h) res ↔ X xs L d 98 (45, [some (.inr x), a1, a2, a3], .inr x :: sk, h) res := i_aload_n k_98_44 rfl
theorem e_98_45 {o : Nat} : X xs L d 98 (45, lo, .inr (some o) :: sk, h) res ↔ hK h o = 9 ∧ X xs L d 98 (48, lo, .inr (hR h o 18) :: sk, h) res := i_getR k_98_45
theorem e_98_48 {x : Int32} {a0 a2 a3 : Option AV} : X xs L d 98 (48, [a0, some (.inl x), a2, a3], sk, h) res ↔ X xs L d 98 (49, [a0, some (.inl x), a2, a3], .inl x :: sk, h) res := i_iload_n k_98_48 rfl
theorem e_98_49 {x : Int32} {a0 a1 a3 : Option AV} : X xs L d 98 (49, [a0, a1, some (.inl x), a3], sk, h) res ↔ X xs L d 98 (50, [a0, a1, some (.inl x), a3], .inl x :: sk, h) res := i_iload_n k_98_49 rfl
theorem e_98_50 : X xs L d 98 (50, lo, sk, h) res ↔ X xs L d 98 (52, lo, .inl 63 :: sk, h) res := i_bipush k_98_50
theorem e_98_52 {x y : Int32} : X xs L d 98 (52, lo, .inl y :: .inl x :: sk, h) res ↔ (if x = y then X xs L d 98 (61, lo, sk, h) res else X xs L d 98 (55, lo, sk, h) res) := i_icmp_eq k_98_52
theorem e_98_55 {x : Int32} {a0 a1 a3 : Option AV} : X xs L d 98 (55, [a0, a1, some (.inl x), a3], sk, h) res ↔ X xs L d 98 (56, [a0, a1, some (.inl x), a3], .inl x :: sk, h) res := i_iload_n k_98_55 rfl
theorem e_98_56 : X xs L d 98 (56, lo, sk, h) res ↔ X xs L d 98 (58, lo, .inl 64 :: sk, h) res := i_bipush k_98_56
theorem e_98_58 {x y : Int32} : X xs L d 98 (58, lo, .inl y :: .inl x :: sk, h) res ↔ (if x = y then X xs L d 98 (61, lo, sk, h) res else X xs L d 98 (85, lo, sk, h) res) := i_icmp_ne k_98_58
theorem e_98_61 {x : Option Nat} {a1 a2 a3 : Option AV} : X xs L d 98 (61, [some (.inr x), a1, a2, a3], sk, h) res ↔ X xs L d 98 (62, [some (.inr x), a1, a2, a3], .inr x :: sk, h) res := i_aload_n k_98_61 rfl
theorem e_98_62 {o : Nat} : X xs L d 98 (62, lo, .inr (some o) :: sk, h) res ↔ hK h o = 9 ∧ X xs L d 98 (65, lo, .inl (hI h o 28) :: sk, h) res := i_getI k_98_62
theorem e_98_65 {x : Int32} : X xs L d 98 (65, lo, .inl x :: sk, h) res ↔ (if x = 0 then X xs L d 98 (74, lo, sk, h) res else X xs L d 98 (68, lo, sk, h) res) := i_if_eq k_98_65
theorem e_98_68 {x : Int32} {a0 a1 a2 : Option AV} : X xs L d 98 (68, [a0, a1, a2, some (.inl x)], sk, h) res ↔ X xs L d 98 (69, [a0, a1, a2, some (.inl x)], .inl x :: sk, h) res := i_iload_n k_98_68 rfl
theorem e_98_69 : X xs L d 98 (69, lo, sk, h) res ↔ X xs L d 98 (70, lo, .inl 1 :: sk, h) res := i_iconst k_98_69
theorem e_98_70 {x y : Int32} : X xs L d 98 (70, lo, .inl y :: .inl x :: sk, h) res ↔ X xs L d 98 (71, lo, .inl (x + y) :: sk, h) res := i_iadd k_98_70
theorem e_98_71 : X xs L d 98 (71, lo, sk, h) res ↔ X xs L d 98 (88, lo, sk, h) res := i_goto k_98_71
theorem e_98_74 {x : Option Nat} {a1 a2 a3 : Option AV} : X xs L d 98 (74, [some (.inr x), a1, a2, a3], sk, h) res ↔ X xs L d 98 (75, [some (.inr x), a1, a2, a3], .inr x :: sk, h) res := i_aload_n k_98_74 rfl
theorem e_98_75 {o : Nat} : X xs L d 98 (75, lo, .inr (some o) :: sk, h) res ↔ hK h o = 9 ∧ X xs L d 98 (78, lo, .inr (hR h o 6) :: sk, h) res := i_getR k_98_75
theorem e_98_78 {x : Int32} {a0 a1 a2 : Option AV} : X xs L d 98 (78, [a0, a1, a2, some (.inl x)], sk, h) res ↔ X xs L d 98 (79, [a0, a1, a2, some (.inl x)], .inl x :: sk, h) res := i_iload_n k_98_78 rfl
theorem e_98_79 {o : Nat} {i : Int32} : X xs L d 98 (79, lo, .inl i :: .inr (some o) :: sk, h) res ↔ (hK h o = 20 ∧ vp_in i (hL h o)) ∧ X xs L d 98 (80, lo, .inl (hI h o i.toNatClampNeg) :: sk, h) res := i_iaload k_98_79
theorem e_98_80 : X xs L d 98 (80, lo, sk, h) res ↔ X xs L d 98 (81, lo, .inl 1 :: sk, h) res := i_iconst k_98_80
theorem e_98_81 {x y : Int32} : X xs L d 98 (81, lo, .inl y :: .inl x :: sk, h) res ↔ X xs L d 98 (82, lo, .inl (x + y) :: sk, h) res := i_iadd k_98_81
theorem e_98_82 : X xs L d 98 (82, lo, sk, h) res ↔ X xs L d 98 (88, lo, sk, h) res := i_goto k_98_82
theorem e_98_85 {x : Int32} {a0 a1 a2 : Option AV} : X xs L d 98 (85, [a0, a1, a2, some (.inl x)], sk, h) res ↔ X xs L d 98 (86, [a0, a1, a2, some (.inl x)], .inl x :: sk, h) res := i_iload_n k_98_85 rfl
theorem e_98_86 : X xs L d 98 (86, lo, sk, h) res ↔ X xs L d 98 (87, lo, .inl 1 :: sk, h) res := i_iconst k_98_86
theorem e_98_87 {x y : Int32} : X xs L d 98 (87, lo, .inl y :: .inl x :: sk, h) res ↔ X xs L d 98 (88, lo, .inl (x + y) :: sk, h) res := i_iadd k_98_87
theorem e_98_88 {o : Nat} {i v : Int32} : X xs L d 98 (88, lo, .inl v :: .inl i :: .inr (some o) :: sk, h) res ↔ (hK h o = 20 ∧ vp_in i (hL h o)) ∧ X xs L d 98 (89, lo, sk, sI h o i.toNatClampNeg (v)) res := i_iastore k_98_88
theorem e_98_89 {x : Int32} {a0 a1 a3 : Option AV} : X xs L d 98 (89, [a0, a1, some (.inl x), a3], sk, h) res ↔ X xs L d 98 (90, [a0, a1, some (.inl x), a3], .inl x :: sk, h) res := i_iload_n k_98_89 rfl
theorem e_98_90 {v0 : Int32} (hs : sk.length ≤ 8) : X xs L d 98 (90, lo, .inl v0 :: sk, h) res ↔ ∃ q : Res, Rn xs L d 77 [.inl v0] h q ∧ X xs L d 98 (93, lo, q.1.toList ++ sk, q.2) res := i_callS k_98_90 ⟨Nat.le_add_left 1 sk.length, Nat.le_trans (Nat.add_le_add_right hs 1) (Nat.le_of_eq (Nat.add_comm 8 1))⟩
theorem e_98_93 {x : Int32} : X xs L d 98 (93, lo, .inl x :: sk, h) res ↔ (if x = 0 then X xs L d 98 (114, lo, sk, h) res else X xs L d 98 (96, lo, sk, h) res) := i_if_eq k_98_93
theorem e_98_96 {x : Option Nat} {a1 a2 a3 : Option AV} : X xs L d 98 (96, [some (.inr x), a1, a2, a3], sk, h) res ↔ X xs L d 98 (97, [some (.inr x), a1, a2, a3], .inr x :: sk, h) res := i_aload_n k_98_96 rfl
theorem e_98_97 {o : Nat} : X xs L d 98 (97, lo, .inr (some o) :: sk, h) res ↔ hK h o = 9 ∧ X xs L d 98 (100, lo, .inr (hR h o 20) :: sk, h) res := i_getR k_98_97
theorem e_98_100 : X xs L d 98 (100, lo, sk, h) res ↔ X xs L d 98 (102, lo, .inl 6 :: sk, h) res := i_bipush k_98_100
theorem e_98_102 {x : Int32} {a0 a2 a3 : Option AV} : X xs L d 98 (102, [a0, some (.inl x), a2, a3], sk, h) res ↔ X xs L d 98 (103, [a0, some (.inl x), a2, a3], .inl x :: sk, h) res := i_iload_n k_98_102 rfl
theorem e_98_103 {x y : Int32} : X xs L d 98 (103, lo, .inl y :: .inl x :: sk, h) res ↔ X xs L d 98 (104, lo, .inl (x * y) :: sk, h) res := i_imul k_98_103
theorem e_98_104 {x : Int32} {a0 a1 a3 : Option AV} : X xs L d 98 (104, [a0, a1, some (.inl x), a3], sk, h) res ↔ X xs L d 98 (105, [a0, a1, some (.inl x), a3], .inl x :: sk, h) res := i_iload_n k_98_104 rfl
theorem e_98_105 {x y : Int32} : X xs L d 98 (105, lo, .inl y :: .inl x :: sk, h) res ↔ X xs L d 98 (106, lo, .inl (x + y) :: sk, h) res := i_iadd k_98_105
theorem e_98_106 : X xs L d 98 (106, lo, sk, h) res ↔ X xs L d 98 (108, lo, .inl 97 :: sk, h) res := i_bipush k_98_106
theorem e_98_108 {x y : Int32} : X xs L d 98 (108, lo, .inl y :: .inl x :: sk, h) res ↔ X xs L d 98 (109, lo, .inl (x - y) :: sk, h) res := i_isub k_98_108
theorem e_98_109 {x : Option Nat} {a1 a2 a3 : Option AV} : X xs L d 98 (109, [some (.inr x), a1, a2, a3], sk, h) res ↔ X xs L d 98 (110, [some (.inr x), a1, a2, a3], .inr x :: sk, h) res := i_aload_n k_98_109 rfl
theorem e_98_110 {o : Nat} : X xs L d 98 (110, lo, .inr (some o) :: sk, h) res ↔ hK h o = 9 ∧ X xs L d 98 (113, lo, .inl (hI h o 28) :: sk, h) res := i_getI k_98_110
theorem e_98_113 {o : Nat} {i v : Int32} : X xs L d 98 (113, lo, .inl v :: .inl i :: .inr (some o) :: sk, h) res ↔ (hK h o = 20 ∧ vp_in i (hL h o)) ∧ X xs L d 98 (114, lo, sk, sI h o i.toNatClampNeg (v)) res := i_iastore k_98_113
theorem e_98_114 {x : Int32} {a0 a1 a3 : Option AV} : X xs L d 98 (114, [a0, a1, some (.inl x), a3], sk, h) res ↔ X xs L d 98 (115, [a0, a1, some (.inl x), a3], .inl x :: sk, h) res := i_iload_n k_98_114 rfl
theorem e_98_115 : X xs L d 98 (115, lo, sk, h) res ↔ X xs L d 98 (117, lo, .inl 33 :: sk, h) res := i_bipush k_98_115
theorem e_98_117 {x y : Int32} : X xs L d 98 (117, lo, .inl y :: .inl x :: sk, h) res ↔ (if x = y then X xs L d 98 (120, lo, sk, h) res else X xs L d 98 (152, lo, sk, h) res) := i_icmp_ne k_98_117
theorem e_98_120 {x : Int32} {a0 a2 a3 : Option AV} : X xs L d 98 (120, [a0, some (.inl x), a2, a3], sk, h) res ↔ X xs L d 98 (121, [a0, some (.inl x), a2, a3], .inl x :: sk, h) res := i_iload_n k_98_120 rfl
theorem e_98_121 : X xs L d 98 (121, lo, sk, h) res ↔ X xs L d 98 (123, lo, .inl 6 :: sk, h) res := i_bipush k_98_121
theorem e_98_123 {x y : Int32} : X xs L d 98 (123, lo, .inl y :: .inl x :: sk, h) res ↔ (if y ≤ x then X xs L d 98 (152, lo, sk, h) res else X xs L d 98 (126, lo, sk, h) res) := i_icmp_ge k_98_123
theorem e_98_126 {x : Option Nat} {a1 a2 a3 : Option AV} : X xs L d 98 (126, [some (.inr x), a1, a2, a3], sk, h) res ↔ X xs L d 98 (127, [some (.inr x), a1, a2, a3], .inr x :: sk, h) res := i_aload_n k_98_126 rfl
theorem e_98_127 {o : Nat} : X xs L d 98 (127, lo, .inr (some o) :: sk, h) res ↔ hK h o = 9 ∧ X xs L d 98 (130, lo, .inr (hR h o 41) :: sk, h) res := i_getR k_98_127
theorem e_98_130 {x : Option Nat} {a1 a2 a3 : Option AV} : X xs L d 98 (130, [some (.inr x), a1, a2, a3], sk, h) res ↔ X xs L d 98 (131, [some (.inr x), a1, a2, a3], .inr x :: sk, h) res := i_aload_n k_98_130 rfl
theorem e_98_131 {o : Nat} : X xs L d 98 (131, lo, .inr (some o) :: sk, h) res ↔ hK h o = 9 ∧ X xs L d 98 (134, lo, .inl (hI h o 40) :: sk, h) res := i_getI k_98_131
theorem e_98_134 : X xs L d 98 (134, lo, sk, h) res ↔ X xs L d 98 (136, lo, .inl 16 :: sk, h) res := i_bipush k_98_134
theorem e_98_136 {x y : Int32} : X xs L d 98 (136, lo, .inl y :: .inl x :: sk, h) res ↔ (¬ y = 0) ∧ X xs L d 98 (137, lo, .inl (x - x / y * y) :: sk, h) res := i_irem k_98_136
theorem e_98_137 {x : Option Nat} {a1 a2 a3 : Option AV} : X xs L d 98 (137, [some (.inr x), a1, a2, a3], sk, h) res ↔ X xs L d 98 (138, [some (.inr x), a1, a2, a3], .inr x :: sk, h) res := i_aload_n k_98_137 rfl
theorem e_98_138 {o : Nat} : X xs L d 98 (138, lo, .inr (some o) :: sk, h) res ↔ hK h o = 9 ∧ X xs L d 98 (141, lo, .inl (hI h o 28) :: sk, h) res := i_getI k_98_138
theorem e_98_141 {o : Nat} {i v : Int32} : X xs L d 98 (141, lo, .inl v :: .inl i :: .inr (some o) :: sk, h) res ↔ (hK h o = 20 ∧ vp_in i (hL h o)) ∧ X xs L d 98 (142, lo, sk, sI h o i.toNatClampNeg (v)) res := i_iastore k_98_141
theorem e_98_142 {x : Option Nat} {a1 a2 a3 : Option AV} : X xs L d 98 (142, [some (.inr x), a1, a2, a3], sk, h) res ↔ X xs L d 98 (143, [some (.inr x), a1, a2, a3], .inr x :: sk, h) res := i_aload_n k_98_142 rfl
theorem e_98_143 {v : AV} : X xs L d 98 (143, lo, v :: sk, h) res ↔ X xs L d 98 (144, lo, v :: v :: sk, h) res := i_dup k_98_143
theorem e_98_144 {o : Nat} : X xs L d 98 (144, lo, .inr (some o) :: sk, h) res ↔ hK h o = 9 ∧ X xs L d 98 (147, lo, .inl (hI h o 40) :: sk, h) res := i_getI k_98_144
theorem e_98_147 : X xs L d 98 (147, lo, sk, h) res ↔ X xs L d 98 (148, lo, .inl 1 :: sk, h) res := i_iconst k_98_147
theorem e_98_148 {x y : Int32} : X xs L d 98 (148, lo, .inl y :: .inl x :: sk, h) res ↔ X xs L d 98 (149, lo, .inl (x + y) :: sk, h) res := i_iadd k_98_148
theorem e_98_149 {o : Nat} {v : Int32} : X xs L d 98 (149, lo, .inl v :: .inr (some o) :: sk, h) res ↔ hK h o = 9 ∧ X xs L d 98 (152, lo, sk, sI h o 40 v) res := i_putI k_98_149
theorem e_98_152 : X xs L d 98 (152, lo, [], h) res ↔ res = (none, h) := i_vret k_98_152 rfl
theorem k_99_0 : am_cd 99 0 = some (.iconst (-1), 1, [], [(-1, 0)])   := rfl
theorem k_99_1 : am_cd 99 1 = some (.istore_n 2, 1, [], [])   := rfl
theorem k_99_2 : am_cd 99 2 = some (.iconst 0, 1, [], [(0, 0)])   := rfl
theorem k_99_3 : am_cd 99 3 = some (.istore_n 3, 1, [], [])   := rfl
theorem k_99_4 : am_cd 99 4 = some (.iload_n 3, 1, [], [])   := rfl
theorem k_99_5 : am_cd 99 5 = some (.iload_n 1, 1, [], [])   := rfl
theorem k_99_6 : am_cd 99 6 = some (.if_icmp .ge 46, 3, [52], [])   := rfl
theorem k_99_9 : am_cd 99 9 = some (.aload_n 0, 1, [], [])   := rfl
theorem k_99_10 : am_cd 99 10 = some (.getfield 13, 3, [9, 2, 2], [(0, 706)])   := rfl
theorem k_99_13 : am_cd 99 13 = some (.iload_n 3, 1, [], [])   := rfl
theorem k_99_14 : am_cd 99 14 = some (.caload, 1, [], [])   := rfl
theorem k_99_15 : am_cd 99 15 = some (.bipush 123, 2, [], [(123, 0)])   := rfl
theorem k_99_17 : am_cd 99 17 = some (.if_icmp .ne 27, 3, [44], [])   := rfl
theorem k_99_20 : am_cd 99 20 = some (.aload_n 0, 1, [], [])   := rfl
theorem k_99_21 : am_cd 99 21 = some (.getfield 20, 3, [9, 7, 2], [(0, 711)])   := rfl
theorem k_99_24 : am_cd 99 24 = some (.iload_n 3, 1, [], [])   := rfl
theorem k_99_25 : am_cd 99 25 = some (.iaload, 1, [], [])   := rfl
theorem k_99_26 : am_cd 99 26 = some (.iconst 3, 1, [], [(3, 0)])   := rfl
theorem k_99_27 : am_cd 99 27 = some (.if_icmp .ne 17, 3, [44], [])   := rfl
theorem k_99_30 : am_cd 99 30 = some (.aload_n 0, 1, [], [])   := rfl
theorem k_99_31 : am_cd 99 31 = some (.getfield 16, 3, [9, 6, 2], [(0, 710)])   := rfl
theorem k_99_34 : am_cd 99 34 = some (.iload_n 3, 1, [], [])   := rfl
theorem k_99_35 : am_cd 99 35 = some (.iaload, 1, [], [])   := rfl
theorem k_99_36 : am_cd 99 36 = some (.iload_n 1, 1, [], [])   := rfl
theorem k_99_37 : am_cd 99 37 = some (.if_icmp .le 7, 3, [44], [])   := rfl
theorem k_99_40 : am_cd 99 40 = some (.iload_n 3, 1, [], [])   := rfl
theorem k_99_41 : am_cd 99 41 = some (.goto 4, 3, [45], [])   := rfl
theorem k_99_44 : am_cd 99 44 = some (.iload_n 2, 1, [], [])   := rfl
theorem k_99_45 : am_cd 99 45 = some (.istore_n 2, 1, [], [])   := rfl
theorem k_99_46 : am_cd 99 46 = some (.iinc 3 1, 3, [], [(1, 0)])   := rfl
theorem k_99_49 : am_cd 99 49 = some (.goto (-45), 3, [4], [])   := rfl
theorem k_99_52 : am_cd 99 52 = some (.iload_n 2, 1, [], [])   := rfl
theorem k_99_53 : am_cd 99 53 = some (.ireturn, 1, [], [])   := rfl
theorem e_99_0 : X xs L d 99 (0, lo, sk, h) res ↔ X xs L d 99 (1, lo, .inl (-1) :: sk, h) res := i_iconst k_99_0
theorem e_99_1 {x : Int32} {a0 a1 a2 a3 : Option AV} : X xs L d 99 (1, [a0, a1, a2, a3], .inl x :: sk, h) res ↔ X xs L d 99 (2, [a0, a1, some (.inl x), a3], sk, h) res := i_istore_n k_99_1 (Nat.le_of_ble_eq_true rfl) rfl
theorem e_99_2 : X xs L d 99 (2, lo, sk, h) res ↔ X xs L d 99 (3, lo, .inl 0 :: sk, h) res := i_iconst k_99_2
theorem e_99_3 {x : Int32} {a0 a1 a2 a3 : Option AV} : X xs L d 99 (3, [a0, a1, a2, a3], .inl x :: sk, h) res ↔ X xs L d 99 (4, [a0, a1, a2, some (.inl x)], sk, h) res := i_istore_n k_99_3 (Nat.le_of_ble_eq_true rfl) rfl
theorem e_99_4 {x : Int32} {a0 a1 a2 : Option AV} : X xs L d 99 (4, [a0, a1, a2, some (.inl x)], sk, h) res ↔ X xs L d 99 (5, [a0, a1, a2, some (.inl x)], .inl x :: sk, h) res := i_iload_n k_99_4 rfl
theorem e_99_5 {x : Int32} {a0 a2 a3 : Option AV} : X xs L d 99 (5, [a0, some (.inl x), a2, a3], sk, h) res ↔ X xs L d 99 (6, [a0, some (.inl x), a2, a3], .inl x :: sk, h) res := i_iload_n k_99_5 rfl
theorem e_99_6 {x y : Int32} : X xs L d 99 (6, lo, .inl y :: .inl x :: sk, h) res ↔ (if y ≤ x then X xs L d 99 (52, lo, sk, h) res else X xs L d 99 (9, lo, sk, h) res) := i_icmp_ge k_99_6
theorem e_99_9 {x : Option Nat} {a1 a2 a3 : Option AV} : X xs L d 99 (9, [some (.inr x), a1, a2, a3], sk, h) res ↔ X xs L d 99 (10, [some (.inr x), a1, a2, a3], .inr x :: sk, h) res := i_aload_n k_99_9 rfl
theorem e_99_10 {o : Nat} : X xs L d 99 (10, lo, .inr (some o) :: sk, h) res ↔ hK h o = 9 ∧ X xs L d 99 (13, lo, .inr (hR h o 2) :: sk, h) res := i_getR k_99_10
theorem e_99_13 {x : Int32} {a0 a1 a2 : Option AV} : X xs L d 99 (13, [a0, a1, a2, some (.inl x)], sk, h) res ↔ X xs L d 99 (14, [a0, a1, a2, some (.inl x)], .inl x :: sk, h) res := i_iload_n k_99_13 rfl
theorem e_99_14 {o : Nat} {i : Int32} : X xs L d 99 (14, lo, .inl i :: .inr (some o) :: sk, h) res ↔ (hK h o = 21 ∧ vp_in i (hL h o)) ∧ X xs L d 99 (15, lo, .inl (hI h o i.toNatClampNeg) :: sk, h) res := i_caload k_99_14
theorem e_99_15 : X xs L d 99 (15, lo, sk, h) res ↔ X xs L d 99 (17, lo, .inl 123 :: sk, h) res := i_bipush k_99_15
theorem e_99_17 {x y : Int32} : X xs L d 99 (17, lo, .inl y :: .inl x :: sk, h) res ↔ (if x = y then X xs L d 99 (20, lo, sk, h) res else X xs L d 99 (44, lo, sk, h) res) := i_icmp_ne k_99_17
theorem e_99_20 {x : Option Nat} {a1 a2 a3 : Option AV} : X xs L d 99 (20, [some (.inr x), a1, a2, a3], sk, h) res ↔ X xs L d 99 (21, [some (.inr x), a1, a2, a3], .inr x :: sk, h) res := i_aload_n k_99_20 rfl
theorem e_99_21 {o : Nat} : X xs L d 99 (21, lo, .inr (some o) :: sk, h) res ↔ hK h o = 9 ∧ X xs L d 99 (24, lo, .inr (hR h o 7) :: sk, h) res := i_getR k_99_21
theorem e_99_24 {x : Int32} {a0 a1 a2 : Option AV} : X xs L d 99 (24, [a0, a1, a2, some (.inl x)], sk, h) res ↔ X xs L d 99 (25, [a0, a1, a2, some (.inl x)], .inl x :: sk, h) res := i_iload_n k_99_24 rfl
theorem e_99_25 {o : Nat} {i : Int32} : X xs L d 99 (25, lo, .inl i :: .inr (some o) :: sk, h) res ↔ (hK h o = 20 ∧ vp_in i (hL h o)) ∧ X xs L d 99 (26, lo, .inl (hI h o i.toNatClampNeg) :: sk, h) res := i_iaload k_99_25
theorem e_99_26 : X xs L d 99 (26, lo, sk, h) res ↔ X xs L d 99 (27, lo, .inl 3 :: sk, h) res := i_iconst k_99_26
theorem e_99_27 {x y : Int32} : X xs L d 99 (27, lo, .inl y :: .inl x :: sk, h) res ↔ (if x = y then X xs L d 99 (30, lo, sk, h) res else X xs L d 99 (44, lo, sk, h) res) := i_icmp_ne k_99_27
theorem e_99_30 {x : Option Nat} {a1 a2 a3 : Option AV} : X xs L d 99 (30, [some (.inr x), a1, a2, a3], sk, h) res ↔ X xs L d 99 (31, [some (.inr x), a1, a2, a3], .inr x :: sk, h) res := i_aload_n k_99_30 rfl
theorem e_99_31 {o : Nat} : X xs L d 99 (31, lo, .inr (some o) :: sk, h) res ↔ hK h o = 9 ∧ X xs L d 99 (34, lo, .inr (hR h o 6) :: sk, h) res := i_getR k_99_31
theorem e_99_34 {x : Int32} {a0 a1 a2 : Option AV} : X xs L d 99 (34, [a0, a1, a2, some (.inl x)], sk, h) res ↔ X xs L d 99 (35, [a0, a1, a2, some (.inl x)], .inl x :: sk, h) res := i_iload_n k_99_34 rfl
theorem e_99_35 {o : Nat} {i : Int32} : X xs L d 99 (35, lo, .inl i :: .inr (some o) :: sk, h) res ↔ (hK h o = 20 ∧ vp_in i (hL h o)) ∧ X xs L d 99 (36, lo, .inl (hI h o i.toNatClampNeg) :: sk, h) res := i_iaload k_99_35
theorem e_99_36 {x : Int32} {a0 a2 a3 : Option AV} : X xs L d 99 (36, [a0, some (.inl x), a2, a3], sk, h) res ↔ X xs L d 99 (37, [a0, some (.inl x), a2, a3], .inl x :: sk, h) res := i_iload_n k_99_36 rfl
theorem e_99_37 {x y : Int32} : X xs L d 99 (37, lo, .inl y :: .inl x :: sk, h) res ↔ (if x ≤ y then X xs L d 99 (44, lo, sk, h) res else X xs L d 99 (40, lo, sk, h) res) := i_icmp_le k_99_37
theorem e_99_40 {x : Int32} {a0 a1 a2 : Option AV} : X xs L d 99 (40, [a0, a1, a2, some (.inl x)], sk, h) res ↔ X xs L d 99 (41, [a0, a1, a2, some (.inl x)], .inl x :: sk, h) res := i_iload_n k_99_40 rfl
theorem e_99_41 : X xs L d 99 (41, lo, sk, h) res ↔ X xs L d 99 (45, lo, sk, h) res := i_goto k_99_41
theorem e_99_44 {x : Int32} {a0 a1 a3 : Option AV} : X xs L d 99 (44, [a0, a1, some (.inl x), a3], sk, h) res ↔ X xs L d 99 (45, [a0, a1, some (.inl x), a3], .inl x :: sk, h) res := i_iload_n k_99_44 rfl
theorem e_99_45 {x : Int32} {a0 a1 a2 a3 : Option AV} : X xs L d 99 (45, [a0, a1, a2, a3], .inl x :: sk, h) res ↔ X xs L d 99 (46, [a0, a1, some (.inl x), a3], sk, h) res := i_istore_n k_99_45 (Nat.le_of_ble_eq_true rfl) rfl
theorem e_99_46 {x : Int32} {a0 a1 a2 : Option AV} : X xs L d 99 (46, [a0, a1, a2, some (.inl x)], sk, h) res ↔ X xs L d 99 (49, [a0, a1, a2, some (.inl (x + 1))], sk, h) res := i_iinc k_99_46 rfl rfl
theorem e_99_49 : X xs L d 99 (49, lo, sk, h) res ↔ X xs L d 99 (4, lo, sk, h) res := i_goto k_99_49
theorem e_99_52 {x : Int32} {a0 a1 a3 : Option AV} : X xs L d 99 (52, [a0, a1, some (.inl x), a3], sk, h) res ↔ X xs L d 99 (53, [a0, a1, some (.inl x), a3], .inl x :: sk, h) res := i_iload_n k_99_52 rfl
theorem e_99_53 {v : Int32} : X xs L d 99 (53, lo, [.inl v], h) res ↔ res = (some (.inl v), h) := i_iret k_99_53 rfl
theorem k_100_0 : am_cd 100 0 = some (.aload_n 0, 1, [], [])   := rfl
theorem k_100_1 : am_cd 100 1 = some (.aload_n 0, 1, [], [])   := rfl
theorem k_100_2 : am_cd 100 2 = some (.getfield 203, 3, [9, 29, 1], [(0, 733)])   := rfl
theorem k_100_5 : am_cd 100 5 = some (.ifCond .ne 7, 3, [12], [])   := rfl
theorem k_100_8 : am_cd 100 8 = some (.iload_n 1, 1, [], [])   := rfl
theorem k_100_9 : am_cd 100 9 = some (.ifCond .ne 7, 3, [16], [])   := rfl
theorem k_100_12 : am_cd 100 12 = some (.iconst 1, 1, [], [(1, 0)])   := rfl
theorem k_100_13 : am_cd 100 13 = some (.goto 4, 3, [17], [])   := rfl
theorem k_100_16 : am_cd 100 16 = some (.iconst 0, 1, [], [(0, 0)])   := rfl
theorem k_100_17 : am_cd 100 17 = some (.putfield 203, 3, [9, 29, 1], [(0, 733)])   := rfl
theorem k_100_20 : am_cd 100 20 = some (.aload_n 0, 1, [], [])   := rfl
theorem k_100_21 : am_cd 100 21 = some (.getfield 47, 3, [9, 16, 2], [(0, 720)])   := rfl
theorem k_100_24 : am_cd 100 24 = some (.iload_n 1, 1, [], [])   := rfl
theorem k_100_25 : am_cd 100 25 = some (.iaload, 1, [], [])   := rfl
theorem k_100_26 : am_cd 100 26 = some (.iload_n 1, 1, [], [])   := rfl
theorem k_100_27 : am_cd 100 27 = some (.if_icmp .le 73, 3, [100], [])   := rfl
theorem k_100_30 : am_cd 100 30 = some (.aload_n 0, 1, [], [])   := rfl
theorem k_100_31 : am_cd 100 31 = some (.iload_n 1, 1, [], [])   := rfl
theorem k_100_32 : am_cd 100 32 = some (.invokevirtual 179, 3, [90, 2, 9], [(0, 898), (0, 900), (0, 38)])   := rfl
theorem k_100_35 : am_cd 100 35 = some (.istore_n 2, 1, [], [])   := rfl
theorem k_100_36 : am_cd 100 36 = some (.aload_n 0, 1, [], [])   := rfl
theorem k_100_37 : am_cd 100 37 = some (.aload_n 0, 1, [], [])   := rfl
theorem k_100_38 : am_cd 100 38 = some (.getfield 56, 3, [9, 19, 2], [(0, 723)])   := rfl
theorem k_100_41 : am_cd 100 41 = some (.iload_n 2, 1, [], [])   := rfl
theorem k_100_42 : am_cd 100 42 = some (.iaload, 1, [], [])   := rfl
theorem k_100_43 : am_cd 100 43 = some (.invokevirtual 206, 3, [99, 2, 9], [(0, 937), (0, 939), (0, 47)])   := rfl
theorem k_100_46 : am_cd 100 46 = some (.istore_n 3, 1, [], [])   := rfl
theorem k_100_47 : am_cd 100 47 = some (.iload_n 3, 1, [], [])   := rfl
theorem k_100_48 : am_cd 100 48 = some (.ifCond .lt 39, 3, [87], [])   := rfl
theorem k_100_51 : am_cd 100 51 = some (.aload_n 0, 1, [], [])   := rfl
theorem k_100_52 : am_cd 100 52 = some (.getfield 59, 3, [9, 20, 2], [(0, 724)])   := rfl
theorem k_100_55 : am_cd 100 55 = some (.bipush 6, 2, [], [(6, 0)])   := rfl
theorem k_100_57 : am_cd 100 57 = some (.iload_n 2, 1, [], [])   := rfl
theorem k_100_58 : am_cd 100 58 = some (.imul, 1, [], [])   := rfl
theorem k_100_59 : am_cd 100 59 = some (.iconst 4, 1, [], [(4, 0)])   := rfl
theorem k_100_60 : am_cd 100 60 = some (.iadd, 1, [], [])   := rfl
theorem k_100_61 : am_cd 100 61 = some (.aload_n 0, 1, [], [])   := rfl
theorem k_100_62 : am_cd 100 62 = some (.getfield 185, 3, [9, 28, 0], [(0, 732)])   := rfl
theorem k_100_65 : am_cd 100 65 = some (.iastore, 1, [], [])   := rfl
theorem k_100_66 : am_cd 100 66 = some (.aload_n 0, 1, [], [])   := rfl
theorem k_100_67 : am_cd 100 67 = some (.getfield 53, 3, [9, 18, 2], [(0, 722)])   := rfl
theorem k_100_70 : am_cd 100 70 = some (.iload_n 2, 1, [], [])   := rfl
theorem k_100_71 : am_cd 100 71 = some (.aload_n 0, 1, [], [])   := rfl
theorem k_100_72 : am_cd 100 72 = some (.getfield 16, 3, [9, 6, 2], [(0, 710)])   := rfl
theorem k_100_75 : am_cd 100 75 = some (.iload_n 3, 1, [], [])   := rfl
theorem k_100_76 : am_cd 100 76 = some (.iaload, 1, [], [])   := rfl
theorem k_100_77 : am_cd 100 77 = some (.iconst 2, 1, [], [(2, 0)])   := rfl
theorem k_100_78 : am_cd 100 78 = some (.iadd, 1, [], [])   := rfl
theorem k_100_79 : am_cd 100 79 = some (.iastore, 1, [], [])   := rfl
theorem k_100_80 : am_cd 100 80 = some (.aload_n 0, 1, [], [])   := rfl
theorem k_100_81 : am_cd 100 81 = some (.iconst 0, 1, [], [(0, 0)])   := rfl
theorem k_100_82 : am_cd 100 82 = some (.putfield 182, 3, [9, 27, 0], [(0, 731)])   := rfl
theorem k_100_85 : am_cd 100 85 = some (.iconst 1, 1, [], [(1, 0)])   := rfl
theorem k_100_86 : am_cd 100 86 = some (.ireturn, 1, [], [])   := rfl
theorem k_100_87 : am_cd 100 87 = some (.aload_n 0, 1, [], [])   := rfl
theorem k_100_88 : am_cd 100 88 = some (.getfield 47, 3, [9, 16, 2], [(0, 720)])   := rfl
theorem k_100_91 : am_cd 100 91 = some (.iload_n 1, 1, [], [])   := rfl
theorem k_100_92 : am_cd 100 92 = some (.dup2, 1, [], [])   := rfl
theorem k_100_93 : am_cd 100 93 = some (.iaload, 1, [], [])   := rfl
theorem k_100_94 : am_cd 100 94 = some (.iconst 1, 1, [], [(1, 0)])   := rfl
theorem k_100_95 : am_cd 100 95 = some (.isub, 1, [], [])   := rfl
theorem k_100_96 : am_cd 100 96 = some (.iastore, 1, [], [])   := rfl
theorem k_100_97 : am_cd 100 97 = some (.goto (-77), 3, [20], [])   := rfl
theorem k_100_100 : am_cd 100 100 = some (.iconst 0, 1, [], [(0, 0)])   := rfl
theorem k_100_101 : am_cd 100 101 = some (.ireturn, 1, [], [])   := rfl
theorem e_100_0 {x : Option Nat} {a1 a2 a3 : Option AV} : X xs L d 100 (0, [some (.inr x), a1, a2, a3], sk, h) res ↔ X xs L d 100 (1, [some (.inr x), a1, a2, a3], .inr x :: sk, h) res := i_aload_n k_100_0 rfl
theorem e_100_1 {x : Option Nat} {a1 a2 a3 : Option AV} : X xs L d 100 (1, [some (.inr x), a1, a2, a3], sk, h) res ↔ X xs L d 100 (2, [some (.inr x), a1, a2, a3], .inr x :: sk, h) res := i_aload_n k_100_1 rfl
theorem e_100_2 {o : Nat} : X xs L d 100 (2, lo, .inr (some o) :: sk, h) res ↔ hK h o = 9 ∧ X xs L d 100 (5, lo, .inl (hI h o 29) :: sk, h) res := i_getZ k_100_2
theorem e_100_5 {x : Int32} : X xs L d 100 (5, lo, .inl x :: sk, h) res ↔ (if x = 0 then X xs L d 100 (8, lo, sk, h) res else X xs L d 100 (12, lo, sk, h) res) := i_if_ne k_100_5
theorem e_100_8 {x : Int32} {a0 a2 a3 : Option AV} : X xs L d 100 (8, [a0, some (.inl x), a2, a3], sk, h) res ↔ X xs L d 100 (9, [a0, some (.inl x), a2, a3], .inl x :: sk, h) res := i_iload_n k_100_8 rfl
theorem e_100_9 {x : Int32} : X xs L d 100 (9, lo, .inl x :: sk, h) res ↔ (if x = 0 then X xs L d 100 (12, lo, sk, h) res else X xs L d 100 (16, lo, sk, h) res) := i_if_ne k_100_9
theorem e_100_12 : X xs L d 100 (12, lo, sk, h) res ↔ X xs L d 100 (13, lo, .inl 1 :: sk, h) res := i_iconst k_100_12
theorem e_100_13 : X xs L d 100 (13, lo, sk, h) res ↔ X xs L d 100 (17, lo, sk, h) res := i_goto k_100_13
theorem e_100_16 : X xs L d 100 (16, lo, sk, h) res ↔ X xs L d 100 (17, lo, .inl 0 :: sk, h) res := i_iconst k_100_16
theorem e_100_17 {o : Nat} {v : Int32} : X xs L d 100 (17, lo, .inl v :: .inr (some o) :: sk, h) res ↔ (hK h o = 9 ∧ (v = 0 ∨ v = 1)) ∧ X xs L d 100 (20, lo, sk, sI h o 29 v) res := i_putZ k_100_17
theorem e_100_20 {x : Option Nat} {a1 a2 a3 : Option AV} : X xs L d 100 (20, [some (.inr x), a1, a2, a3], sk, h) res ↔ X xs L d 100 (21, [some (.inr x), a1, a2, a3], .inr x :: sk, h) res := i_aload_n k_100_20 rfl
theorem e_100_21 {o : Nat} : X xs L d 100 (21, lo, .inr (some o) :: sk, h) res ↔ hK h o = 9 ∧ X xs L d 100 (24, lo, .inr (hR h o 16) :: sk, h) res := i_getR k_100_21
theorem e_100_24 {x : Int32} {a0 a2 a3 : Option AV} : X xs L d 100 (24, [a0, some (.inl x), a2, a3], sk, h) res ↔ X xs L d 100 (25, [a0, some (.inl x), a2, a3], .inl x :: sk, h) res := i_iload_n k_100_24 rfl
theorem e_100_25 {o : Nat} {i : Int32} : X xs L d 100 (25, lo, .inl i :: .inr (some o) :: sk, h) res ↔ (hK h o = 20 ∧ vp_in i (hL h o)) ∧ X xs L d 100 (26, lo, .inl (hI h o i.toNatClampNeg) :: sk, h) res := i_iaload k_100_25
theorem e_100_26 {x : Int32} {a0 a2 a3 : Option AV} : X xs L d 100 (26, [a0, some (.inl x), a2, a3], sk, h) res ↔ X xs L d 100 (27, [a0, some (.inl x), a2, a3], .inl x :: sk, h) res := i_iload_n k_100_26 rfl
theorem e_100_27 {x y : Int32} : X xs L d 100 (27, lo, .inl y :: .inl x :: sk, h) res ↔ (if x ≤ y then X xs L d 100 (100, lo, sk, h) res else X xs L d 100 (30, lo, sk, h) res) := i_icmp_le k_100_27
theorem e_100_30 {x : Option Nat} {a1 a2 a3 : Option AV} : X xs L d 100 (30, [some (.inr x), a1, a2, a3], sk, h) res ↔ X xs L d 100 (31, [some (.inr x), a1, a2, a3], .inr x :: sk, h) res := i_aload_n k_100_30 rfl
theorem e_100_31 {x : Int32} {a0 a2 a3 : Option AV} : X xs L d 100 (31, [a0, some (.inl x), a2, a3], sk, h) res ↔ X xs L d 100 (32, [a0, some (.inl x), a2, a3], .inl x :: sk, h) res := i_iload_n k_100_31 rfl
theorem e_100_32 {o : Nat} {v0 : Int32} (hs : sk.length ≤ 8) : X xs L d 100 (32, lo, .inl v0 :: .inr (some o) :: sk, h) res ↔ hK h o = 9 ∧ ∃ q : Res, Rn xs L d 90 [.inr (some o), .inl v0] h q ∧ X xs L d 100 (35, lo, q.1.toList ++ sk, q.2) res := i_callV k_100_32 rfl ⟨Nat.le_add_left 2 sk.length, Nat.le_trans (Nat.add_le_add_right hs 2) (Nat.le_of_eq (Nat.add_comm 8 2))⟩
theorem e_100_35 {x : Int32} {a0 a1 a2 a3 : Option AV} : X xs L d 100 (35, [a0, a1, a2, a3], .inl x :: sk, h) res ↔ X xs L d 100 (36, [a0, a1, some (.inl x), a3], sk, h) res := i_istore_n k_100_35 (Nat.le_of_ble_eq_true rfl) rfl
theorem e_100_36 {x : Option Nat} {a1 a2 a3 : Option AV} : X xs L d 100 (36, [some (.inr x), a1, a2, a3], sk, h) res ↔ X xs L d 100 (37, [some (.inr x), a1, a2, a3], .inr x :: sk, h) res := i_aload_n k_100_36 rfl
theorem e_100_37 {x : Option Nat} {a1 a2 a3 : Option AV} : X xs L d 100 (37, [some (.inr x), a1, a2, a3], sk, h) res ↔ X xs L d 100 (38, [some (.inr x), a1, a2, a3], .inr x :: sk, h) res := i_aload_n k_100_37 rfl
theorem e_100_38 {o : Nat} : X xs L d 100 (38, lo, .inr (some o) :: sk, h) res ↔ hK h o = 9 ∧ X xs L d 100 (41, lo, .inr (hR h o 19) :: sk, h) res := i_getR k_100_38
theorem e_100_41 {x : Int32} {a0 a1 a3 : Option AV} : X xs L d 100 (41, [a0, a1, some (.inl x), a3], sk, h) res ↔ X xs L d 100 (42, [a0, a1, some (.inl x), a3], .inl x :: sk, h) res := i_iload_n k_100_41 rfl
theorem e_100_42 {o : Nat} {i : Int32} : X xs L d 100 (42, lo, .inl i :: .inr (some o) :: sk, h) res ↔ (hK h o = 20 ∧ vp_in i (hL h o)) ∧ X xs L d 100 (43, lo, .inl (hI h o i.toNatClampNeg) :: sk, h) res := i_iaload k_100_42
theorem e_100_43 {o : Nat} {v0 : Int32} (hs : sk.length ≤ 8) : X xs L d 100 (43, lo, .inl v0 :: .inr (some o) :: sk, h) res ↔ hK h o = 9 ∧ ∃ q : Res, Rn xs L d 99 [.inr (some o), .inl v0] h q ∧ X xs L d 100 (46, lo, q.1.toList ++ sk, q.2) res := i_callV k_100_43 rfl ⟨Nat.le_add_left 2 sk.length, Nat.le_trans (Nat.add_le_add_right hs 2) (Nat.le_of_eq (Nat.add_comm 8 2))⟩
theorem e_100_46 {x : Int32} {a0 a1 a2 a3 : Option AV} : X xs L d 100 (46, [a0, a1, a2, a3], .inl x :: sk, h) res ↔ X xs L d 100 (47, [a0, a1, a2, some (.inl x)], sk, h) res := i_istore_n k_100_46 (Nat.le_of_ble_eq_true rfl) rfl
theorem e_100_47 {x : Int32} {a0 a1 a2 : Option AV} : X xs L d 100 (47, [a0, a1, a2, some (.inl x)], sk, h) res ↔ X xs L d 100 (48, [a0, a1, a2, some (.inl x)], .inl x :: sk, h) res := i_iload_n k_100_47 rfl
theorem e_100_48 {x : Int32} : X xs L d 100 (48, lo, .inl x :: sk, h) res ↔ (if x < 0 then X xs L d 100 (87, lo, sk, h) res else X xs L d 100 (51, lo, sk, h) res) := i_if_lt k_100_48
theorem e_100_51 {x : Option Nat} {a1 a2 a3 : Option AV} : X xs L d 100 (51, [some (.inr x), a1, a2, a3], sk, h) res ↔ X xs L d 100 (52, [some (.inr x), a1, a2, a3], .inr x :: sk, h) res := i_aload_n k_100_51 rfl
theorem e_100_52 {o : Nat} : X xs L d 100 (52, lo, .inr (some o) :: sk, h) res ↔ hK h o = 9 ∧ X xs L d 100 (55, lo, .inr (hR h o 20) :: sk, h) res := i_getR k_100_52
theorem e_100_55 : X xs L d 100 (55, lo, sk, h) res ↔ X xs L d 100 (57, lo, .inl 6 :: sk, h) res := i_bipush k_100_55
theorem e_100_57 {x : Int32} {a0 a1 a3 : Option AV} : X xs L d 100 (57, [a0, a1, some (.inl x), a3], sk, h) res ↔ X xs L d 100 (58, [a0, a1, some (.inl x), a3], .inl x :: sk, h) res := i_iload_n k_100_57 rfl
theorem e_100_58 {x y : Int32} : X xs L d 100 (58, lo, .inl y :: .inl x :: sk, h) res ↔ X xs L d 100 (59, lo, .inl (x * y) :: sk, h) res := i_imul k_100_58
theorem e_100_59 : X xs L d 100 (59, lo, sk, h) res ↔ X xs L d 100 (60, lo, .inl 4 :: sk, h) res := i_iconst k_100_59
theorem e_100_60 {x y : Int32} : X xs L d 100 (60, lo, .inl y :: .inl x :: sk, h) res ↔ X xs L d 100 (61, lo, .inl (x + y) :: sk, h) res := i_iadd k_100_60
theorem e_100_61 {x : Option Nat} {a1 a2 a3 : Option AV} : X xs L d 100 (61, [some (.inr x), a1, a2, a3], sk, h) res ↔ X xs L d 100 (62, [some (.inr x), a1, a2, a3], .inr x :: sk, h) res := i_aload_n k_100_61 rfl
theorem e_100_62 {o : Nat} : X xs L d 100 (62, lo, .inr (some o) :: sk, h) res ↔ hK h o = 9 ∧ X xs L d 100 (65, lo, .inl (hI h o 28) :: sk, h) res := i_getI k_100_62
theorem e_100_65 {o : Nat} {i v : Int32} : X xs L d 100 (65, lo, .inl v :: .inl i :: .inr (some o) :: sk, h) res ↔ (hK h o = 20 ∧ vp_in i (hL h o)) ∧ X xs L d 100 (66, lo, sk, sI h o i.toNatClampNeg (v)) res := i_iastore k_100_65
theorem e_100_66 {x : Option Nat} {a1 a2 a3 : Option AV} : X xs L d 100 (66, [some (.inr x), a1, a2, a3], sk, h) res ↔ X xs L d 100 (67, [some (.inr x), a1, a2, a3], .inr x :: sk, h) res := i_aload_n k_100_66 rfl
theorem e_100_67 {o : Nat} : X xs L d 100 (67, lo, .inr (some o) :: sk, h) res ↔ hK h o = 9 ∧ X xs L d 100 (70, lo, .inr (hR h o 18) :: sk, h) res := i_getR k_100_67
theorem e_100_70 {x : Int32} {a0 a1 a3 : Option AV} : X xs L d 100 (70, [a0, a1, some (.inl x), a3], sk, h) res ↔ X xs L d 100 (71, [a0, a1, some (.inl x), a3], .inl x :: sk, h) res := i_iload_n k_100_70 rfl
theorem e_100_71 {x : Option Nat} {a1 a2 a3 : Option AV} : X xs L d 100 (71, [some (.inr x), a1, a2, a3], sk, h) res ↔ X xs L d 100 (72, [some (.inr x), a1, a2, a3], .inr x :: sk, h) res := i_aload_n k_100_71 rfl
theorem e_100_72 {o : Nat} : X xs L d 100 (72, lo, .inr (some o) :: sk, h) res ↔ hK h o = 9 ∧ X xs L d 100 (75, lo, .inr (hR h o 6) :: sk, h) res := i_getR k_100_72
theorem e_100_75 {x : Int32} {a0 a1 a2 : Option AV} : X xs L d 100 (75, [a0, a1, a2, some (.inl x)], sk, h) res ↔ X xs L d 100 (76, [a0, a1, a2, some (.inl x)], .inl x :: sk, h) res := i_iload_n k_100_75 rfl
theorem e_100_76 {o : Nat} {i : Int32} : X xs L d 100 (76, lo, .inl i :: .inr (some o) :: sk, h) res ↔ (hK h o = 20 ∧ vp_in i (hL h o)) ∧ X xs L d 100 (77, lo, .inl (hI h o i.toNatClampNeg) :: sk, h) res := i_iaload k_100_76
theorem e_100_77 : X xs L d 100 (77, lo, sk, h) res ↔ X xs L d 100 (78, lo, .inl 2 :: sk, h) res := i_iconst k_100_77
theorem e_100_78 {x y : Int32} : X xs L d 100 (78, lo, .inl y :: .inl x :: sk, h) res ↔ X xs L d 100 (79, lo, .inl (x + y) :: sk, h) res := i_iadd k_100_78
theorem e_100_79 {o : Nat} {i v : Int32} : X xs L d 100 (79, lo, .inl v :: .inl i :: .inr (some o) :: sk, h) res ↔ (hK h o = 20 ∧ vp_in i (hL h o)) ∧ X xs L d 100 (80, lo, sk, sI h o i.toNatClampNeg (v)) res := i_iastore k_100_79
theorem e_100_80 {x : Option Nat} {a1 a2 a3 : Option AV} : X xs L d 100 (80, [some (.inr x), a1, a2, a3], sk, h) res ↔ X xs L d 100 (81, [some (.inr x), a1, a2, a3], .inr x :: sk, h) res := i_aload_n k_100_80 rfl
theorem e_100_81 : X xs L d 100 (81, lo, sk, h) res ↔ X xs L d 100 (82, lo, .inl 0 :: sk, h) res := i_iconst k_100_81
theorem e_100_82 {o : Nat} {v : Int32} : X xs L d 100 (82, lo, .inl v :: .inr (some o) :: sk, h) res ↔ hK h o = 9 ∧ X xs L d 100 (85, lo, sk, sI h o 27 v) res := i_putI k_100_82
theorem e_100_85 : X xs L d 100 (85, lo, sk, h) res ↔ X xs L d 100 (86, lo, .inl 1 :: sk, h) res := i_iconst k_100_85
theorem e_100_86 {v : Int32} : X xs L d 100 (86, lo, [.inl v], h) res ↔ (v = 0 ∨ v = 1) ∧ res = (some (.inl v), h) := i_zret k_100_86 rfl
theorem e_100_87 {x : Option Nat} {a1 a2 a3 : Option AV} : X xs L d 100 (87, [some (.inr x), a1, a2, a3], sk, h) res ↔ X xs L d 100 (88, [some (.inr x), a1, a2, a3], .inr x :: sk, h) res := i_aload_n k_100_87 rfl
theorem e_100_88 {o : Nat} : X xs L d 100 (88, lo, .inr (some o) :: sk, h) res ↔ hK h o = 9 ∧ X xs L d 100 (91, lo, .inr (hR h o 16) :: sk, h) res := i_getR k_100_88
theorem e_100_91 {x : Int32} {a0 a2 a3 : Option AV} : X xs L d 100 (91, [a0, some (.inl x), a2, a3], sk, h) res ↔ X xs L d 100 (92, [a0, some (.inl x), a2, a3], .inl x :: sk, h) res := i_iload_n k_100_91 rfl
theorem e_100_92 {v w : AV} : X xs L d 100 (92, lo, v :: w :: sk, h) res ↔ X xs L d 100 (93, lo, v :: w :: v :: w :: sk, h) res := i_dup2 k_100_92
theorem e_100_93 {o : Nat} {i : Int32} : X xs L d 100 (93, lo, .inl i :: .inr (some o) :: sk, h) res ↔ (hK h o = 20 ∧ vp_in i (hL h o)) ∧ X xs L d 100 (94, lo, .inl (hI h o i.toNatClampNeg) :: sk, h) res := i_iaload k_100_93
theorem e_100_94 : X xs L d 100 (94, lo, sk, h) res ↔ X xs L d 100 (95, lo, .inl 1 :: sk, h) res := i_iconst k_100_94
theorem e_100_95 {x y : Int32} : X xs L d 100 (95, lo, .inl y :: .inl x :: sk, h) res ↔ X xs L d 100 (96, lo, .inl (x - y) :: sk, h) res := i_isub k_100_95
theorem e_100_96 {o : Nat} {i v : Int32} : X xs L d 100 (96, lo, .inl v :: .inl i :: .inr (some o) :: sk, h) res ↔ (hK h o = 20 ∧ vp_in i (hL h o)) ∧ X xs L d 100 (97, lo, sk, sI h o i.toNatClampNeg (v)) res := i_iastore k_100_96
theorem e_100_97 : X xs L d 100 (97, lo, sk, h) res ↔ X xs L d 100 (20, lo, sk, h) res := i_goto k_100_97
theorem e_100_100 : X xs L d 100 (100, lo, sk, h) res ↔ X xs L d 100 (101, lo, .inl 0 :: sk, h) res := i_iconst k_100_100
theorem e_100_101 {v : Int32} : X xs L d 100 (101, lo, [.inl v], h) res ↔ (v = 0 ∨ v = 1) ∧ res = (some (.inl v), h) := i_zret k_100_101 rfl
theorem k_101_0 : am_cd 101 0 = some (.aload_n 0, 1, [], [])   := rfl
theorem k_101_1 : am_cd 101 1 = some (.iload_n 1, 1, [], [])   := rfl
theorem k_101_2 : am_cd 101 2 = some (.invokevirtual 179, 3, [90, 2, 9], [(0, 898), (0, 900), (0, 38)])   := rfl
theorem k_101_5 : am_cd 101 5 = some (.istore_n 2, 1, [], [])   := rfl
theorem k_101_6 : am_cd 101 6 = some (.aload_n 0, 1, [], [])   := rfl
theorem k_101_7 : am_cd 101 7 = some (.getfield 182, 3, [9, 27, 0], [(0, 731)])   := rfl
theorem k_101_10 : am_cd 101 10 = some (.ifCond .ne 13, 3, [23], [])   := rfl
theorem k_101_13 : am_cd 101 13 = some (.aload_n 0, 1, [], [])   := rfl
theorem k_101_14 : am_cd 101 14 = some (.iload_n 2, 1, [], [])   := rfl
theorem k_101_15 : am_cd 101 15 = some (.invokevirtual 209, 3, [93, 2, 9], [(0, 906), (0, 908), (0, 40)])   := rfl
theorem k_101_18 : am_cd 101 18 = some (.ifCond .eq 99, 3, [117], [])   := rfl
theorem k_101_21 : am_cd 101 21 = some (.iconst 1, 1, [], [(1, 0)])   := rfl
theorem k_101_22 : am_cd 101 22 = some (.ireturn, 1, [], [])   := rfl
theorem k_101_23 : am_cd 101 23 = some (.aload_n 0, 1, [], [])   := rfl
theorem k_101_24 : am_cd 101 24 = some (.getfield 182, 3, [9, 27, 0], [(0, 731)])   := rfl
theorem k_101_27 : am_cd 101 27 = some (.iconst 1, 1, [], [(1, 0)])   := rfl
theorem k_101_28 : am_cd 101 28 = some (.if_icmp .ne 12, 3, [40], [])   := rfl
theorem k_101_31 : am_cd 101 31 = some (.aload_n 0, 1, [], [])   := rfl
theorem k_101_32 : am_cd 101 32 = some (.iload_n 1, 1, [], [])   := rfl
theorem k_101_33 : am_cd 101 33 = some (.iload_n 2, 1, [], [])   := rfl
theorem k_101_34 : am_cd 101 34 = some (.invokevirtual 212, 3, [95, 3, 9], [(0, 910), (0, 912), (0, 41)])   := rfl
theorem k_101_37 : am_cd 101 37 = some (.goto 80, 3, [117], [])   := rfl
theorem k_101_40 : am_cd 101 40 = some (.aload_n 0, 1, [], [])   := rfl
theorem k_101_41 : am_cd 101 41 = some (.getfield 182, 3, [9, 27, 0], [(0, 731)])   := rfl
theorem k_101_44 : am_cd 101 44 = some (.iconst 2, 1, [], [(2, 0)])   := rfl
theorem k_101_45 : am_cd 101 45 = some (.if_icmp .ne 28, 3, [73], [])   := rfl
theorem k_101_48 : am_cd 101 48 = some (.aload_n 0, 1, [], [])   := rfl
theorem k_101_49 : am_cd 101 49 = some (.iload_n 1, 1, [], [])   := rfl
theorem k_101_50 : am_cd 101 50 = some (.iload_n 2, 1, [], [])   := rfl
theorem k_101_51 : am_cd 101 51 = some (.invokevirtual 215, 3, [97, 3, 9], [(0, 922), (0, 924), (0, 44)])   := rfl
theorem k_101_54 : am_cd 101 54 = some (.ifCond .eq 63, 3, [117], [])   := rfl
theorem k_101_57 : am_cd 101 57 = some (.iload_n 2, 1, [], [])   := rfl
theorem k_101_58 : am_cd 101 58 = some (.bipush 6, 2, [], [(6, 0)])   := rfl
theorem k_101_60 : am_cd 101 60 = some (.if_icmp .ne 5, 3, [65], [])   := rfl
theorem k_101_63 : am_cd 101 63 = some (.iconst 2, 1, [], [(2, 0)])   := rfl
theorem k_101_64 : am_cd 101 64 = some (.ireturn, 1, [], [])   := rfl
theorem k_101_65 : am_cd 101 65 = some (.aload_n 0, 1, [], [])   := rfl
theorem k_101_66 : am_cd 101 66 = some (.iload_n 2, 1, [], [])   := rfl
theorem k_101_67 : am_cd 101 67 = some (.invokevirtual 219, 3, [98, 2, 9], [(0, 929), (0, 931), (0, 45)])   := rfl
theorem k_101_70 : am_cd 101 70 = some (.goto 47, 3, [117], [])   := rfl
theorem k_101_73 : am_cd 101 73 = some (.aload_n 0, 1, [], [])   := rfl
theorem k_101_74 : am_cd 101 74 = some (.getfield 182, 3, [9, 27, 0], [(0, 731)])   := rfl
theorem k_101_77 : am_cd 101 77 = some (.iconst 3, 1, [], [(3, 0)])   := rfl
theorem k_101_78 : am_cd 101 78 = some (.if_icmp .ne 13, 3, [91], [])   := rfl
theorem k_101_81 : am_cd 101 81 = some (.aload_n 0, 1, [], [])   := rfl
theorem k_101_82 : am_cd 101 82 = some (.iload_n 1, 1, [], [])   := rfl
theorem k_101_83 : am_cd 101 83 = some (.invokevirtual 222, 3, [100, 2, 9], [(0, 933), (0, 935), (0, 46)])   := rfl
theorem k_101_86 : am_cd 101 86 = some (.ifCond .ne 31, 3, [117], [])   := rfl
theorem k_101_89 : am_cd 101 89 = some (.iconst 3, 1, [], [(3, 0)])   := rfl
theorem k_101_90 : am_cd 101 90 = some (.ireturn, 1, [], [])   := rfl
theorem k_101_91 : am_cd 101 91 = some (.aload_n 0, 1, [], [])   := rfl
theorem k_101_92 : am_cd 101 92 = some (.getfield 47, 3, [9, 16, 2], [(0, 720)])   := rfl
theorem k_101_95 : am_cd 101 95 = some (.iload_n 1, 1, [], [])   := rfl
theorem k_101_96 : am_cd 101 96 = some (.dup2, 1, [], [])   := rfl
theorem k_101_97 : am_cd 101 97 = some (.iaload, 1, [], [])   := rfl
theorem k_101_98 : am_cd 101 98 = some (.iconst 1, 1, [], [(1, 0)])   := rfl
theorem k_101_99 : am_cd 101 99 = some (.isub, 1, [], [])   := rfl
theorem k_101_100 : am_cd 101 100 = some (.iastore, 1, [], [])   := rfl
theorem k_101_101 : am_cd 101 101 = some (.aload_n 0, 1, [], [])   := rfl
theorem k_101_102 : am_cd 101 102 = some (.iconst 2, 1, [], [(2, 0)])   := rfl
theorem k_101_103 : am_cd 101 103 = some (.putfield 182, 3, [9, 27, 0], [(0, 731)])   := rfl
theorem k_101_106 : am_cd 101 106 = some (.aload_n 0, 1, [], [])   := rfl
theorem k_101_107 : am_cd 101 107 = some (.getfield 47, 3, [9, 16, 2], [(0, 720)])   := rfl
theorem k_101_110 : am_cd 101 110 = some (.iload_n 1, 1, [], [])   := rfl
theorem k_101_111 : am_cd 101 111 = some (.iaload, 1, [], [])   := rfl
theorem k_101_112 : am_cd 101 112 = some (.ifCond .ne 5, 3, [117], [])   := rfl
theorem k_101_115 : am_cd 101 115 = some (.iconst 2, 1, [], [(2, 0)])   := rfl
theorem k_101_116 : am_cd 101 116 = some (.ireturn, 1, [], [])   := rfl
theorem k_101_117 : am_cd 101 117 = some (.goto (-117), 3, [0], [])   := rfl
theorem e_101_0 {x : Option Nat} {a1 a2 : Option AV} : X xs L d 101 (0, [some (.inr x), a1, a2], sk, h) res ↔ X xs L d 101 (1, [some (.inr x), a1, a2], .inr x :: sk, h) res := i_aload_n k_101_0 rfl
theorem e_101_1 {x : Int32} {a0 a2 : Option AV} : X xs L d 101 (1, [a0, some (.inl x), a2], sk, h) res ↔ X xs L d 101 (2, [a0, some (.inl x), a2], .inl x :: sk, h) res := i_iload_n k_101_1 rfl
theorem e_101_2 {o : Nat} {v0 : Int32} (hs : sk.length ≤ 8) : X xs L d 101 (2, lo, .inl v0 :: .inr (some o) :: sk, h) res ↔ hK h o = 9 ∧ ∃ q : Res, Rn xs L d 90 [.inr (some o), .inl v0] h q ∧ X xs L d 101 (5, lo, q.1.toList ++ sk, q.2) res := i_callV k_101_2 rfl ⟨Nat.le_add_left 2 sk.length, Nat.le_trans (Nat.add_le_add_right hs 2) (Nat.le_of_eq (Nat.add_comm 8 2))⟩
theorem e_101_5 {x : Int32} {a0 a1 a2 : Option AV} : X xs L d 101 (5, [a0, a1, a2], .inl x :: sk, h) res ↔ X xs L d 101 (6, [a0, a1, some (.inl x)], sk, h) res := i_istore_n k_101_5 (Nat.le_of_ble_eq_true rfl) rfl
theorem e_101_6 {x : Option Nat} {a1 a2 : Option AV} : X xs L d 101 (6, [some (.inr x), a1, a2], sk, h) res ↔ X xs L d 101 (7, [some (.inr x), a1, a2], .inr x :: sk, h) res := i_aload_n k_101_6 rfl
theorem e_101_7 {o : Nat} : X xs L d 101 (7, lo, .inr (some o) :: sk, h) res ↔ hK h o = 9 ∧ X xs L d 101 (10, lo, .inl (hI h o 27) :: sk, h) res := i_getI k_101_7
theorem e_101_10 {x : Int32} : X xs L d 101 (10, lo, .inl x :: sk, h) res ↔ (if x = 0 then X xs L d 101 (13, lo, sk, h) res else X xs L d 101 (23, lo, sk, h) res) := i_if_ne k_101_10
theorem e_101_13 {x : Option Nat} {a1 a2 : Option AV} : X xs L d 101 (13, [some (.inr x), a1, a2], sk, h) res ↔ X xs L d 101 (14, [some (.inr x), a1, a2], .inr x :: sk, h) res := i_aload_n k_101_13 rfl
theorem e_101_14 {x : Int32} {a0 a1 : Option AV} : X xs L d 101 (14, [a0, a1, some (.inl x)], sk, h) res ↔ X xs L d 101 (15, [a0, a1, some (.inl x)], .inl x :: sk, h) res := i_iload_n k_101_14 rfl
theorem e_101_15 {o : Nat} {v0 : Int32} (hs : sk.length ≤ 8) : X xs L d 101 (15, lo, .inl v0 :: .inr (some o) :: sk, h) res ↔ hK h o = 9 ∧ ∃ q : Res, Rn xs L d 93 [.inr (some o), .inl v0] h q ∧ X xs L d 101 (18, lo, q.1.toList ++ sk, q.2) res := i_callV k_101_15 rfl ⟨Nat.le_add_left 2 sk.length, Nat.le_trans (Nat.add_le_add_right hs 2) (Nat.le_of_eq (Nat.add_comm 8 2))⟩
theorem e_101_18 {x : Int32} : X xs L d 101 (18, lo, .inl x :: sk, h) res ↔ (if x = 0 then X xs L d 101 (117, lo, sk, h) res else X xs L d 101 (21, lo, sk, h) res) := i_if_eq k_101_18
theorem e_101_21 : X xs L d 101 (21, lo, sk, h) res ↔ X xs L d 101 (22, lo, .inl 1 :: sk, h) res := i_iconst k_101_21
theorem e_101_22 {v : Int32} : X xs L d 101 (22, lo, [.inl v], h) res ↔ res = (some (.inl v), h) := i_iret k_101_22 rfl
theorem e_101_23 {x : Option Nat} {a1 a2 : Option AV} : X xs L d 101 (23, [some (.inr x), a1, a2], sk, h) res ↔ X xs L d 101 (24, [some (.inr x), a1, a2], .inr x :: sk, h) res := i_aload_n k_101_23 rfl
theorem e_101_24 {o : Nat} : X xs L d 101 (24, lo, .inr (some o) :: sk, h) res ↔ hK h o = 9 ∧ X xs L d 101 (27, lo, .inl (hI h o 27) :: sk, h) res := i_getI k_101_24
theorem e_101_27 : X xs L d 101 (27, lo, sk, h) res ↔ X xs L d 101 (28, lo, .inl 1 :: sk, h) res := i_iconst k_101_27
theorem e_101_28 {x y : Int32} : X xs L d 101 (28, lo, .inl y :: .inl x :: sk, h) res ↔ (if x = y then X xs L d 101 (31, lo, sk, h) res else X xs L d 101 (40, lo, sk, h) res) := i_icmp_ne k_101_28
theorem e_101_31 {x : Option Nat} {a1 a2 : Option AV} : X xs L d 101 (31, [some (.inr x), a1, a2], sk, h) res ↔ X xs L d 101 (32, [some (.inr x), a1, a2], .inr x :: sk, h) res := i_aload_n k_101_31 rfl
theorem e_101_32 {x : Int32} {a0 a2 : Option AV} : X xs L d 101 (32, [a0, some (.inl x), a2], sk, h) res ↔ X xs L d 101 (33, [a0, some (.inl x), a2], .inl x :: sk, h) res := i_iload_n k_101_32 rfl
theorem e_101_33 {x : Int32} {a0 a1 : Option AV} : X xs L d 101 (33, [a0, a1, some (.inl x)], sk, h) res ↔ X xs L d 101 (34, [a0, a1, some (.inl x)], .inl x :: sk, h) res := i_iload_n k_101_33 rfl
theorem e_101_34 {o : Nat} {v0 : Int32} {v1 : Int32} (hs : sk.length ≤ 8) : X xs L d 101 (34, lo, .inl v1 :: .inl v0 :: .inr (some o) :: sk, h) res ↔ hK h o = 9 ∧ ∃ q : Res, Rn xs L d 95 [.inr (some o), .inl v0, .inl v1] h q ∧ X xs L d 101 (37, lo, q.1.toList ++ sk, q.2) res := i_callV k_101_34 rfl ⟨Nat.le_add_left 3 sk.length, Nat.le_trans (Nat.add_le_add_right hs 3) (Nat.le_of_eq (Nat.add_comm 8 3))⟩
theorem e_101_37 : X xs L d 101 (37, lo, sk, h) res ↔ X xs L d 101 (117, lo, sk, h) res := i_goto k_101_37
theorem e_101_40 {x : Option Nat} {a1 a2 : Option AV} : X xs L d 101 (40, [some (.inr x), a1, a2], sk, h) res ↔ X xs L d 101 (41, [some (.inr x), a1, a2], .inr x :: sk, h) res := i_aload_n k_101_40 rfl
theorem e_101_41 {o : Nat} : X xs L d 101 (41, lo, .inr (some o) :: sk, h) res ↔ hK h o = 9 ∧ X xs L d 101 (44, lo, .inl (hI h o 27) :: sk, h) res := i_getI k_101_41
theorem e_101_44 : X xs L d 101 (44, lo, sk, h) res ↔ X xs L d 101 (45, lo, .inl 2 :: sk, h) res := i_iconst k_101_44
theorem e_101_45 {x y : Int32} : X xs L d 101 (45, lo, .inl y :: .inl x :: sk, h) res ↔ (if x = y then X xs L d 101 (48, lo, sk, h) res else X xs L d 101 (73, lo, sk, h) res) := i_icmp_ne k_101_45
theorem e_101_48 {x : Option Nat} {a1 a2 : Option AV} : X xs L d 101 (48, [some (.inr x), a1, a2], sk, h) res ↔ X xs L d 101 (49, [some (.inr x), a1, a2], .inr x :: sk, h) res := i_aload_n k_101_48 rfl
theorem e_101_49 {x : Int32} {a0 a2 : Option AV} : X xs L d 101 (49, [a0, some (.inl x), a2], sk, h) res ↔ X xs L d 101 (50, [a0, some (.inl x), a2], .inl x :: sk, h) res := i_iload_n k_101_49 rfl
theorem e_101_50 {x : Int32} {a0 a1 : Option AV} : X xs L d 101 (50, [a0, a1, some (.inl x)], sk, h) res ↔ X xs L d 101 (51, [a0, a1, some (.inl x)], .inl x :: sk, h) res := i_iload_n k_101_50 rfl
theorem e_101_51 {o : Nat} {v0 : Int32} {v1 : Int32} (hs : sk.length ≤ 8) : X xs L d 101 (51, lo, .inl v1 :: .inl v0 :: .inr (some o) :: sk, h) res ↔ hK h o = 9 ∧ ∃ q : Res, Rn xs L d 97 [.inr (some o), .inl v0, .inl v1] h q ∧ X xs L d 101 (54, lo, q.1.toList ++ sk, q.2) res := i_callV k_101_51 rfl ⟨Nat.le_add_left 3 sk.length, Nat.le_trans (Nat.add_le_add_right hs 3) (Nat.le_of_eq (Nat.add_comm 8 3))⟩
theorem e_101_54 {x : Int32} : X xs L d 101 (54, lo, .inl x :: sk, h) res ↔ (if x = 0 then X xs L d 101 (117, lo, sk, h) res else X xs L d 101 (57, lo, sk, h) res) := i_if_eq k_101_54
theorem e_101_57 {x : Int32} {a0 a1 : Option AV} : X xs L d 101 (57, [a0, a1, some (.inl x)], sk, h) res ↔ X xs L d 101 (58, [a0, a1, some (.inl x)], .inl x :: sk, h) res := i_iload_n k_101_57 rfl
theorem e_101_58 : X xs L d 101 (58, lo, sk, h) res ↔ X xs L d 101 (60, lo, .inl 6 :: sk, h) res := i_bipush k_101_58
theorem e_101_60 {x y : Int32} : X xs L d 101 (60, lo, .inl y :: .inl x :: sk, h) res ↔ (if x = y then X xs L d 101 (63, lo, sk, h) res else X xs L d 101 (65, lo, sk, h) res) := i_icmp_ne k_101_60
theorem e_101_63 : X xs L d 101 (63, lo, sk, h) res ↔ X xs L d 101 (64, lo, .inl 2 :: sk, h) res := i_iconst k_101_63
theorem e_101_64 {v : Int32} : X xs L d 101 (64, lo, [.inl v], h) res ↔ res = (some (.inl v), h) := i_iret k_101_64 rfl
theorem e_101_65 {x : Option Nat} {a1 a2 : Option AV} : X xs L d 101 (65, [some (.inr x), a1, a2], sk, h) res ↔ X xs L d 101 (66, [some (.inr x), a1, a2], .inr x :: sk, h) res := i_aload_n k_101_65 rfl
theorem e_101_66 {x : Int32} {a0 a1 : Option AV} : X xs L d 101 (66, [a0, a1, some (.inl x)], sk, h) res ↔ X xs L d 101 (67, [a0, a1, some (.inl x)], .inl x :: sk, h) res := i_iload_n k_101_66 rfl
theorem e_101_67 {o : Nat} {v0 : Int32} (hs : sk.length ≤ 8) : X xs L d 101 (67, lo, .inl v0 :: .inr (some o) :: sk, h) res ↔ hK h o = 9 ∧ ∃ q : Res, Rn xs L d 98 [.inr (some o), .inl v0] h q ∧ X xs L d 101 (70, lo, q.1.toList ++ sk, q.2) res := i_callV k_101_67 rfl ⟨Nat.le_add_left 2 sk.length, Nat.le_trans (Nat.add_le_add_right hs 2) (Nat.le_of_eq (Nat.add_comm 8 2))⟩
theorem e_101_70 : X xs L d 101 (70, lo, sk, h) res ↔ X xs L d 101 (117, lo, sk, h) res := i_goto k_101_70
theorem e_101_73 {x : Option Nat} {a1 a2 : Option AV} : X xs L d 101 (73, [some (.inr x), a1, a2], sk, h) res ↔ X xs L d 101 (74, [some (.inr x), a1, a2], .inr x :: sk, h) res := i_aload_n k_101_73 rfl
theorem e_101_74 {o : Nat} : X xs L d 101 (74, lo, .inr (some o) :: sk, h) res ↔ hK h o = 9 ∧ X xs L d 101 (77, lo, .inl (hI h o 27) :: sk, h) res := i_getI k_101_74
theorem e_101_77 : X xs L d 101 (77, lo, sk, h) res ↔ X xs L d 101 (78, lo, .inl 3 :: sk, h) res := i_iconst k_101_77
theorem e_101_78 {x y : Int32} : X xs L d 101 (78, lo, .inl y :: .inl x :: sk, h) res ↔ (if x = y then X xs L d 101 (81, lo, sk, h) res else X xs L d 101 (91, lo, sk, h) res) := i_icmp_ne k_101_78
theorem e_101_81 {x : Option Nat} {a1 a2 : Option AV} : X xs L d 101 (81, [some (.inr x), a1, a2], sk, h) res ↔ X xs L d 101 (82, [some (.inr x), a1, a2], .inr x :: sk, h) res := i_aload_n k_101_81 rfl
theorem e_101_82 {x : Int32} {a0 a2 : Option AV} : X xs L d 101 (82, [a0, some (.inl x), a2], sk, h) res ↔ X xs L d 101 (83, [a0, some (.inl x), a2], .inl x :: sk, h) res := i_iload_n k_101_82 rfl
theorem e_101_83 {o : Nat} {v0 : Int32} (hs : sk.length ≤ 8) : X xs L d 101 (83, lo, .inl v0 :: .inr (some o) :: sk, h) res ↔ hK h o = 9 ∧ ∃ q : Res, Rn xs L d 100 [.inr (some o), .inl v0] h q ∧ X xs L d 101 (86, lo, q.1.toList ++ sk, q.2) res := i_callV k_101_83 rfl ⟨Nat.le_add_left 2 sk.length, Nat.le_trans (Nat.add_le_add_right hs 2) (Nat.le_of_eq (Nat.add_comm 8 2))⟩
theorem e_101_86 {x : Int32} : X xs L d 101 (86, lo, .inl x :: sk, h) res ↔ (if x = 0 then X xs L d 101 (89, lo, sk, h) res else X xs L d 101 (117, lo, sk, h) res) := i_if_ne k_101_86
theorem e_101_89 : X xs L d 101 (89, lo, sk, h) res ↔ X xs L d 101 (90, lo, .inl 3 :: sk, h) res := i_iconst k_101_89
theorem e_101_90 {v : Int32} : X xs L d 101 (90, lo, [.inl v], h) res ↔ res = (some (.inl v), h) := i_iret k_101_90 rfl
theorem e_101_91 {x : Option Nat} {a1 a2 : Option AV} : X xs L d 101 (91, [some (.inr x), a1, a2], sk, h) res ↔ X xs L d 101 (92, [some (.inr x), a1, a2], .inr x :: sk, h) res := i_aload_n k_101_91 rfl
theorem e_101_92 {o : Nat} : X xs L d 101 (92, lo, .inr (some o) :: sk, h) res ↔ hK h o = 9 ∧ X xs L d 101 (95, lo, .inr (hR h o 16) :: sk, h) res := i_getR k_101_92
theorem e_101_95 {x : Int32} {a0 a2 : Option AV} : X xs L d 101 (95, [a0, some (.inl x), a2], sk, h) res ↔ X xs L d 101 (96, [a0, some (.inl x), a2], .inl x :: sk, h) res := i_iload_n k_101_95 rfl
theorem e_101_96 {v w : AV} : X xs L d 101 (96, lo, v :: w :: sk, h) res ↔ X xs L d 101 (97, lo, v :: w :: v :: w :: sk, h) res := i_dup2 k_101_96
theorem e_101_97 {o : Nat} {i : Int32} : X xs L d 101 (97, lo, .inl i :: .inr (some o) :: sk, h) res ↔ (hK h o = 20 ∧ vp_in i (hL h o)) ∧ X xs L d 101 (98, lo, .inl (hI h o i.toNatClampNeg) :: sk, h) res := i_iaload k_101_97
theorem e_101_98 : X xs L d 101 (98, lo, sk, h) res ↔ X xs L d 101 (99, lo, .inl 1 :: sk, h) res := i_iconst k_101_98
theorem e_101_99 {x y : Int32} : X xs L d 101 (99, lo, .inl y :: .inl x :: sk, h) res ↔ X xs L d 101 (100, lo, .inl (x - y) :: sk, h) res := i_isub k_101_99
theorem e_101_100 {o : Nat} {i v : Int32} : X xs L d 101 (100, lo, .inl v :: .inl i :: .inr (some o) :: sk, h) res ↔ (hK h o = 20 ∧ vp_in i (hL h o)) ∧ X xs L d 101 (101, lo, sk, sI h o i.toNatClampNeg (v)) res := i_iastore k_101_100
theorem e_101_101 {x : Option Nat} {a1 a2 : Option AV} : X xs L d 101 (101, [some (.inr x), a1, a2], sk, h) res ↔ X xs L d 101 (102, [some (.inr x), a1, a2], .inr x :: sk, h) res := i_aload_n k_101_101 rfl
theorem e_101_102 : X xs L d 101 (102, lo, sk, h) res ↔ X xs L d 101 (103, lo, .inl 2 :: sk, h) res := i_iconst k_101_102
theorem e_101_103 {o : Nat} {v : Int32} : X xs L d 101 (103, lo, .inl v :: .inr (some o) :: sk, h) res ↔ hK h o = 9 ∧ X xs L d 101 (106, lo, sk, sI h o 27 v) res := i_putI k_101_103
theorem e_101_106 {x : Option Nat} {a1 a2 : Option AV} : X xs L d 101 (106, [some (.inr x), a1, a2], sk, h) res ↔ X xs L d 101 (107, [some (.inr x), a1, a2], .inr x :: sk, h) res := i_aload_n k_101_106 rfl
theorem e_101_107 {o : Nat} : X xs L d 101 (107, lo, .inr (some o) :: sk, h) res ↔ hK h o = 9 ∧ X xs L d 101 (110, lo, .inr (hR h o 16) :: sk, h) res := i_getR k_101_107
theorem e_101_110 {x : Int32} {a0 a2 : Option AV} : X xs L d 101 (110, [a0, some (.inl x), a2], sk, h) res ↔ X xs L d 101 (111, [a0, some (.inl x), a2], .inl x :: sk, h) res := i_iload_n k_101_110 rfl
theorem e_101_111 {o : Nat} {i : Int32} : X xs L d 101 (111, lo, .inl i :: .inr (some o) :: sk, h) res ↔ (hK h o = 20 ∧ vp_in i (hL h o)) ∧ X xs L d 101 (112, lo, .inl (hI h o i.toNatClampNeg) :: sk, h) res := i_iaload k_101_111
theorem e_101_112 {x : Int32} : X xs L d 101 (112, lo, .inl x :: sk, h) res ↔ (if x = 0 then X xs L d 101 (115, lo, sk, h) res else X xs L d 101 (117, lo, sk, h) res) := i_if_ne k_101_112
theorem e_101_115 : X xs L d 101 (115, lo, sk, h) res ↔ X xs L d 101 (116, lo, .inl 2 :: sk, h) res := i_iconst k_101_115
theorem e_101_116 {v : Int32} : X xs L d 101 (116, lo, [.inl v], h) res ↔ res = (some (.inl v), h) := i_iret k_101_116 rfl
theorem e_101_117 : X xs L d 101 (117, lo, sk, h) res ↔ X xs L d 101 (0, lo, sk, h) res := i_goto k_101_117
theorem k_102_0 : am_cd 102 0 = some (.aload_n 0, 1, [], [])   := rfl
theorem k_102_1 : am_cd 102 1 = some (.getfield 13, 3, [9, 2, 2], [(0, 706)])   := rfl
theorem k_102_4 : am_cd 102 4 = some (.aload_n 0, 1, [], [])   := rfl
theorem k_102_5 : am_cd 102 5 = some (.getfield 56, 3, [9, 19, 2], [(0, 723)])   := rfl
theorem k_102_8 : am_cd 102 8 = some (.iload_n 1, 1, [], [])   := rfl
theorem k_102_9 : am_cd 102 9 = some (.iaload, 1, [], [])   := rfl
theorem k_102_10 : am_cd 102 10 = some (.caload, 1, [], [])   := rfl
theorem k_102_11 : am_cd 102 11 = some (.istore_n 2, 1, [], [])   := rfl
theorem k_102_12 : am_cd 102 12 = some (.aload_n 0, 1, [], [])   := rfl
theorem k_102_13 : am_cd 102 13 = some (.getfield 53, 3, [9, 18, 2], [(0, 722)])   := rfl
theorem k_102_16 : am_cd 102 16 = some (.iload_n 1, 1, [], [])   := rfl
theorem k_102_17 : am_cd 102 17 = some (.iload_n 2, 1, [], [])   := rfl
theorem k_102_18 : am_cd 102 18 = some (.bipush 126, 2, [], [(126, 0)])   := rfl
theorem k_102_20 : am_cd 102 20 = some (.if_icmp .eq 10, 3, [30], [])   := rfl
theorem k_102_23 : am_cd 102 23 = some (.iload_n 2, 1, [], [])   := rfl
theorem k_102_24 : am_cd 102 24 = some (.invokestatic 110, 3, [77, 1], [(0, 869), (0, 870)])   := rfl
theorem k_102_27 : am_cd 102 27 = some (.ifCond .eq 14, 3, [41], [])   := rfl
theorem k_102_30 : am_cd 102 30 = some (.aload_n 0, 1, [], [])   := rfl
theorem k_102_31 : am_cd 102 31 = some (.getfield 56, 3, [9, 19, 2], [(0, 723)])   := rfl
theorem k_102_34 : am_cd 102 34 = some (.iload_n 1, 1, [], [])   := rfl
theorem k_102_35 : am_cd 102 35 = some (.iaload, 1, [], [])   := rfl
theorem k_102_36 : am_cd 102 36 = some (.iconst 2, 1, [], [(2, 0)])   := rfl
theorem k_102_37 : am_cd 102 37 = some (.iadd, 1, [], [])   := rfl
theorem k_102_38 : am_cd 102 38 = some (.goto 11, 3, [49], [])   := rfl
theorem k_102_41 : am_cd 102 41 = some (.aload_n 0, 1, [], [])   := rfl
theorem k_102_42 : am_cd 102 42 = some (.getfield 56, 3, [9, 19, 2], [(0, 723)])   := rfl
theorem k_102_45 : am_cd 102 45 = some (.iload_n 1, 1, [], [])   := rfl
theorem k_102_46 : am_cd 102 46 = some (.iaload, 1, [], [])   := rfl
theorem k_102_47 : am_cd 102 47 = some (.iconst 1, 1, [], [(1, 0)])   := rfl
theorem k_102_48 : am_cd 102 48 = some (.iadd, 1, [], [])   := rfl
theorem k_102_49 : am_cd 102 49 = some (.iastore, 1, [], [])   := rfl
theorem k_102_50 : am_cd 102 50 = some (.aload_n 0, 1, [], [])   := rfl
theorem k_102_51 : am_cd 102 51 = some (.iload_n 2, 1, [], [])   := rfl
theorem k_102_52 : am_cd 102 52 = some (.bipush 126, 2, [], [(126, 0)])   := rfl
theorem k_102_54 : am_cd 102 54 = some (.if_icmp .ne 7, 3, [61], [])   := rfl
theorem k_102_57 : am_cd 102 57 = some (.iconst 0, 1, [], [(0, 0)])   := rfl
theorem k_102_58 : am_cd 102 58 = some (.goto 4, 3, [62], [])   := rfl
theorem k_102_61 : am_cd 102 61 = some (.iconst 1, 1, [], [(1, 0)])   := rfl
theorem k_102_62 : am_cd 102 62 = some (.putfield 182, 3, [9, 27, 0], [(0, 731)])   := rfl
theorem k_102_65 : am_cd 102 65 = some (.aload_n 0, 1, [], [])   := rfl
theorem k_102_66 : am_cd 102 66 = some (.getfield 62, 3, [9, 21, 2], [(0, 725)])   := rfl
theorem k_102_69 : am_cd 102 69 = some (.iload_n 1, 1, [], [])   := rfl
theorem k_102_70 : am_cd 102 70 = some (.iconst (-1), 1, [], [(-1, 0)])   := rfl
theorem k_102_71 : am_cd 102 71 = some (.iastore, 1, [], [])   := rfl
theorem k_102_72 : am_cd 102 72 = some (.aload_n 0, 1, [], [])   := rfl
theorem k_102_73 : am_cd 102 73 = some (.iload_n 1, 1, [], [])   := rfl
theorem k_102_74 : am_cd 102 74 = some (.iconst 0, 1, [], [(0, 0)])   := rfl
theorem k_102_75 : am_cd 102 75 = some (.invokevirtual 192, 3, [94, 3, 9], [(0, 914), (0, 916), (0, 42)])   := rfl
theorem k_102_78 : am_cd 102 78 = some (.return_, 1, [], [])   := rfl
theorem e_102_0 {x : Option Nat} {a1 a2 : Option AV} : X xs L d 102 (0, [some (.inr x), a1, a2], sk, h) res ↔ X xs L d 102 (1, [some (.inr x), a1, a2], .inr x :: sk, h) res := i_aload_n k_102_0 rfl
theorem e_102_1 {o : Nat} : X xs L d 102 (1, lo, .inr (some o) :: sk, h) res ↔ hK h o = 9 ∧ X xs L d 102 (4, lo, .inr (hR h o 2) :: sk, h) res := i_getR k_102_1
theorem e_102_4 {x : Option Nat} {a1 a2 : Option AV} : X xs L d 102 (4, [some (.inr x), a1, a2], sk, h) res ↔ X xs L d 102 (5, [some (.inr x), a1, a2], .inr x :: sk, h) res := i_aload_n k_102_4 rfl
theorem e_102_5 {o : Nat} : X xs L d 102 (5, lo, .inr (some o) :: sk, h) res ↔ hK h o = 9 ∧ X xs L d 102 (8, lo, .inr (hR h o 19) :: sk, h) res := i_getR k_102_5
theorem e_102_8 {x : Int32} {a0 a2 : Option AV} : X xs L d 102 (8, [a0, some (.inl x), a2], sk, h) res ↔ X xs L d 102 (9, [a0, some (.inl x), a2], .inl x :: sk, h) res := i_iload_n k_102_8 rfl
theorem e_102_9 {o : Nat} {i : Int32} : X xs L d 102 (9, lo, .inl i :: .inr (some o) :: sk, h) res ↔ (hK h o = 20 ∧ vp_in i (hL h o)) ∧ X xs L d 102 (10, lo, .inl (hI h o i.toNatClampNeg) :: sk, h) res := i_iaload k_102_9
theorem e_102_10 {o : Nat} {i : Int32} : X xs L d 102 (10, lo, .inl i :: .inr (some o) :: sk, h) res ↔ (hK h o = 21 ∧ vp_in i (hL h o)) ∧ X xs L d 102 (11, lo, .inl (hI h o i.toNatClampNeg) :: sk, h) res := i_caload k_102_10
theorem e_102_11 {x : Int32} {a0 a1 a2 : Option AV} : X xs L d 102 (11, [a0, a1, a2], .inl x :: sk, h) res ↔ X xs L d 102 (12, [a0, a1, some (.inl x)], sk, h) res := i_istore_n k_102_11 (Nat.le_of_ble_eq_true rfl) rfl
theorem e_102_12 {x : Option Nat} {a1 a2 : Option AV} : X xs L d 102 (12, [some (.inr x), a1, a2], sk, h) res ↔ X xs L d 102 (13, [some (.inr x), a1, a2], .inr x :: sk, h) res := i_aload_n k_102_12 rfl
theorem e_102_13 {o : Nat} : X xs L d 102 (13, lo, .inr (some o) :: sk, h) res ↔ hK h o = 9 ∧ X xs L d 102 (16, lo, .inr (hR h o 18) :: sk, h) res := i_getR k_102_13
theorem e_102_16 {x : Int32} {a0 a2 : Option AV} : X xs L d 102 (16, [a0, some (.inl x), a2], sk, h) res ↔ X xs L d 102 (17, [a0, some (.inl x), a2], .inl x :: sk, h) res := i_iload_n k_102_16 rfl
theorem e_102_17 {x : Int32} {a0 a1 : Option AV} : X xs L d 102 (17, [a0, a1, some (.inl x)], sk, h) res ↔ X xs L d 102 (18, [a0, a1, some (.inl x)], .inl x :: sk, h) res := i_iload_n k_102_17 rfl
theorem e_102_18 : X xs L d 102 (18, lo, sk, h) res ↔ X xs L d 102 (20, lo, .inl 126 :: sk, h) res := i_bipush k_102_18
theorem e_102_20 {x y : Int32} : X xs L d 102 (20, lo, .inl y :: .inl x :: sk, h) res ↔ (if x = y then X xs L d 102 (30, lo, sk, h) res else X xs L d 102 (23, lo, sk, h) res) := i_icmp_eq k_102_20
theorem e_102_23 {x : Int32} {a0 a1 : Option AV} : X xs L d 102 (23, [a0, a1, some (.inl x)], sk, h) res ↔ X xs L d 102 (24, [a0, a1, some (.inl x)], .inl x :: sk, h) res := i_iload_n k_102_23 rfl
theorem e_102_24 {v0 : Int32} (hs : sk.length ≤ 8) : X xs L d 102 (24, lo, .inl v0 :: sk, h) res ↔ ∃ q : Res, Rn xs L d 77 [.inl v0] h q ∧ X xs L d 102 (27, lo, q.1.toList ++ sk, q.2) res := i_callS k_102_24 ⟨Nat.le_add_left 1 sk.length, Nat.le_trans (Nat.add_le_add_right hs 1) (Nat.le_of_eq (Nat.add_comm 8 1))⟩
theorem e_102_27 {x : Int32} : X xs L d 102 (27, lo, .inl x :: sk, h) res ↔ (if x = 0 then X xs L d 102 (41, lo, sk, h) res else X xs L d 102 (30, lo, sk, h) res) := i_if_eq k_102_27
theorem e_102_30 {x : Option Nat} {a1 a2 : Option AV} : X xs L d 102 (30, [some (.inr x), a1, a2], sk, h) res ↔ X xs L d 102 (31, [some (.inr x), a1, a2], .inr x :: sk, h) res := i_aload_n k_102_30 rfl
theorem e_102_31 {o : Nat} : X xs L d 102 (31, lo, .inr (some o) :: sk, h) res ↔ hK h o = 9 ∧ X xs L d 102 (34, lo, .inr (hR h o 19) :: sk, h) res := i_getR k_102_31
theorem e_102_34 {x : Int32} {a0 a2 : Option AV} : X xs L d 102 (34, [a0, some (.inl x), a2], sk, h) res ↔ X xs L d 102 (35, [a0, some (.inl x), a2], .inl x :: sk, h) res := i_iload_n k_102_34 rfl
theorem e_102_35 {o : Nat} {i : Int32} : X xs L d 102 (35, lo, .inl i :: .inr (some o) :: sk, h) res ↔ (hK h o = 20 ∧ vp_in i (hL h o)) ∧ X xs L d 102 (36, lo, .inl (hI h o i.toNatClampNeg) :: sk, h) res := i_iaload k_102_35
theorem e_102_36 : X xs L d 102 (36, lo, sk, h) res ↔ X xs L d 102 (37, lo, .inl 2 :: sk, h) res := i_iconst k_102_36
theorem e_102_37 {x y : Int32} : X xs L d 102 (37, lo, .inl y :: .inl x :: sk, h) res ↔ X xs L d 102 (38, lo, .inl (x + y) :: sk, h) res := i_iadd k_102_37
theorem e_102_38 : X xs L d 102 (38, lo, sk, h) res ↔ X xs L d 102 (49, lo, sk, h) res := i_goto k_102_38
theorem e_102_41 {x : Option Nat} {a1 a2 : Option AV} : X xs L d 102 (41, [some (.inr x), a1, a2], sk, h) res ↔ X xs L d 102 (42, [some (.inr x), a1, a2], .inr x :: sk, h) res := i_aload_n k_102_41 rfl
theorem e_102_42 {o : Nat} : X xs L d 102 (42, lo, .inr (some o) :: sk, h) res ↔ hK h o = 9 ∧ X xs L d 102 (45, lo, .inr (hR h o 19) :: sk, h) res := i_getR k_102_42
theorem e_102_45 {x : Int32} {a0 a2 : Option AV} : X xs L d 102 (45, [a0, some (.inl x), a2], sk, h) res ↔ X xs L d 102 (46, [a0, some (.inl x), a2], .inl x :: sk, h) res := i_iload_n k_102_45 rfl
theorem e_102_46 {o : Nat} {i : Int32} : X xs L d 102 (46, lo, .inl i :: .inr (some o) :: sk, h) res ↔ (hK h o = 20 ∧ vp_in i (hL h o)) ∧ X xs L d 102 (47, lo, .inl (hI h o i.toNatClampNeg) :: sk, h) res := i_iaload k_102_46
theorem e_102_47 : X xs L d 102 (47, lo, sk, h) res ↔ X xs L d 102 (48, lo, .inl 1 :: sk, h) res := i_iconst k_102_47
theorem e_102_48 {x y : Int32} : X xs L d 102 (48, lo, .inl y :: .inl x :: sk, h) res ↔ X xs L d 102 (49, lo, .inl (x + y) :: sk, h) res := i_iadd k_102_48
theorem e_102_49 {o : Nat} {i v : Int32} : X xs L d 102 (49, lo, .inl v :: .inl i :: .inr (some o) :: sk, h) res ↔ (hK h o = 20 ∧ vp_in i (hL h o)) ∧ X xs L d 102 (50, lo, sk, sI h o i.toNatClampNeg (v)) res := i_iastore k_102_49
theorem e_102_50 {x : Option Nat} {a1 a2 : Option AV} : X xs L d 102 (50, [some (.inr x), a1, a2], sk, h) res ↔ X xs L d 102 (51, [some (.inr x), a1, a2], .inr x :: sk, h) res := i_aload_n k_102_50 rfl
theorem e_102_51 {x : Int32} {a0 a1 : Option AV} : X xs L d 102 (51, [a0, a1, some (.inl x)], sk, h) res ↔ X xs L d 102 (52, [a0, a1, some (.inl x)], .inl x :: sk, h) res := i_iload_n k_102_51 rfl
theorem e_102_52 : X xs L d 102 (52, lo, sk, h) res ↔ X xs L d 102 (54, lo, .inl 126 :: sk, h) res := i_bipush k_102_52
theorem e_102_54 {x y : Int32} : X xs L d 102 (54, lo, .inl y :: .inl x :: sk, h) res ↔ (if x = y then X xs L d 102 (57, lo, sk, h) res else X xs L d 102 (61, lo, sk, h) res) := i_icmp_ne k_102_54
theorem e_102_57 : X xs L d 102 (57, lo, sk, h) res ↔ X xs L d 102 (58, lo, .inl 0 :: sk, h) res := i_iconst k_102_57
theorem e_102_58 : X xs L d 102 (58, lo, sk, h) res ↔ X xs L d 102 (62, lo, sk, h) res := i_goto k_102_58
theorem e_102_61 : X xs L d 102 (61, lo, sk, h) res ↔ X xs L d 102 (62, lo, .inl 1 :: sk, h) res := i_iconst k_102_61
theorem e_102_62 {o : Nat} {v : Int32} : X xs L d 102 (62, lo, .inl v :: .inr (some o) :: sk, h) res ↔ hK h o = 9 ∧ X xs L d 102 (65, lo, sk, sI h o 27 v) res := i_putI k_102_62
theorem e_102_65 {x : Option Nat} {a1 a2 : Option AV} : X xs L d 102 (65, [some (.inr x), a1, a2], sk, h) res ↔ X xs L d 102 (66, [some (.inr x), a1, a2], .inr x :: sk, h) res := i_aload_n k_102_65 rfl
theorem e_102_66 {o : Nat} : X xs L d 102 (66, lo, .inr (some o) :: sk, h) res ↔ hK h o = 9 ∧ X xs L d 102 (69, lo, .inr (hR h o 21) :: sk, h) res := i_getR k_102_66
theorem e_102_69 {x : Int32} {a0 a2 : Option AV} : X xs L d 102 (69, [a0, some (.inl x), a2], sk, h) res ↔ X xs L d 102 (70, [a0, some (.inl x), a2], .inl x :: sk, h) res := i_iload_n k_102_69 rfl
theorem e_102_70 : X xs L d 102 (70, lo, sk, h) res ↔ X xs L d 102 (71, lo, .inl (-1) :: sk, h) res := i_iconst k_102_70
theorem e_102_71 {o : Nat} {i v : Int32} : X xs L d 102 (71, lo, .inl v :: .inl i :: .inr (some o) :: sk, h) res ↔ (hK h o = 20 ∧ vp_in i (hL h o)) ∧ X xs L d 102 (72, lo, sk, sI h o i.toNatClampNeg (v)) res := i_iastore k_102_71
theorem e_102_72 {x : Option Nat} {a1 a2 : Option AV} : X xs L d 102 (72, [some (.inr x), a1, a2], sk, h) res ↔ X xs L d 102 (73, [some (.inr x), a1, a2], .inr x :: sk, h) res := i_aload_n k_102_72 rfl
theorem e_102_73 {x : Int32} {a0 a2 : Option AV} : X xs L d 102 (73, [a0, some (.inl x), a2], sk, h) res ↔ X xs L d 102 (74, [a0, some (.inl x), a2], .inl x :: sk, h) res := i_iload_n k_102_73 rfl
theorem e_102_74 : X xs L d 102 (74, lo, sk, h) res ↔ X xs L d 102 (75, lo, .inl 0 :: sk, h) res := i_iconst k_102_74
theorem e_102_75 {o : Nat} {v0 : Int32} {v1 : Int32} (hs : sk.length ≤ 8) : X xs L d 102 (75, lo, .inl v1 :: .inl v0 :: .inr (some o) :: sk, h) res ↔ hK h o = 9 ∧ ∃ q : Res, Rn xs L d 94 [.inr (some o), .inl v0, .inl v1] h q ∧ X xs L d 102 (78, lo, q.1.toList ++ sk, q.2) res := i_callV k_102_75 rfl ⟨Nat.le_add_left 3 sk.length, Nat.le_trans (Nat.add_le_add_right hs 3) (Nat.le_of_eq (Nat.add_comm 8 3))⟩
theorem e_102_78 : X xs L d 102 (78, lo, [], h) res ↔ res = (none, h) := i_vret k_102_78 rfl
theorem k_103_0 : am_cd 103 0 = some (.aload_n 0, 1, [], [])   := rfl
theorem k_103_1 : am_cd 103 1 = some (.iload_n 1, 1, [], [])   := rfl
theorem k_103_2 : am_cd 103 2 = some (.putfield 158, 3, [9, 30, 0], [(0, 734)])   := rfl
theorem k_103_5 : am_cd 103 5 = some (.aload_n 0, 1, [], [])   := rfl
theorem k_103_6 : am_cd 103 6 = some (.iload_n 1, 1, [], [])   := rfl
theorem k_103_7 : am_cd 103 7 = some (.iconst 1, 1, [], [(1, 0)])   := rfl
theorem k_103_8 : am_cd 103 8 = some (.if_icmp .ne 7, 3, [15], [])   := rfl
theorem k_103_11 : am_cd 103 11 = some (.iconst 0, 1, [], [(0, 0)])   := rfl
theorem k_103_12 : am_cd 103 12 = some (.goto 7, 3, [19], [])   := rfl
theorem k_103_15 : am_cd 103 15 = some (.aload_n 0, 1, [], [])   := rfl
theorem k_103_16 : am_cd 103 16 = some (.getfield 185, 3, [9, 28, 0], [(0, 732)])   := rfl
theorem k_103_19 : am_cd 103 19 = some (.putfield 161, 3, [9, 31, 0], [(0, 735)])   := rfl
theorem k_103_22 : am_cd 103 22 = some (.aload_n 0, 1, [], [])   := rfl
theorem k_103_23 : am_cd 103 23 = some (.getfield 47, 3, [9, 16, 2], [(0, 720)])   := rfl
theorem k_103_26 : am_cd 103 26 = some (.iconst 0, 1, [], [(0, 0)])   := rfl
theorem k_103_27 : am_cd 103 27 = some (.iload_n 1, 1, [], [])   := rfl
theorem k_103_28 : am_cd 103 28 = some (.iconst 1, 1, [], [(1, 0)])   := rfl
theorem k_103_29 : am_cd 103 29 = some (.if_icmp .ne 12, 3, [41], [])   := rfl
theorem k_103_32 : am_cd 103 32 = some (.aload_n 0, 1, [], [])   := rfl
theorem k_103_33 : am_cd 103 33 = some (.getfield 47, 3, [9, 16, 2], [(0, 720)])   := rfl
theorem k_103_36 : am_cd 103 36 = some (.iconst 0, 1, [], [(0, 0)])   := rfl
theorem k_103_37 : am_cd 103 37 = some (.iaload, 1, [], [])   := rfl
theorem k_103_38 : am_cd 103 38 = some (.goto 4, 3, [42], [])   := rfl
theorem k_103_41 : am_cd 103 41 = some (.iconst 0, 1, [], [(0, 0)])   := rfl
theorem k_103_42 : am_cd 103 42 = some (.iastore, 1, [], [])   := rfl
theorem k_103_43 : am_cd 103 43 = some (.return_, 1, [], [])   := rfl
theorem e_103_0 {x : Option Nat} {a1 : Option AV} : X xs L d 103 (0, [some (.inr x), a1], sk, h) res ↔ X xs L d 103 (1, [some (.inr x), a1], .inr x :: sk, h) res := i_aload_n k_103_0 rfl
theorem e_103_1 {x : Int32} {a0 : Option AV} : X xs L d 103 (1, [a0, some (.inl x)], sk, h) res ↔ X xs L d 103 (2, [a0, some (.inl x)], .inl x :: sk, h) res := i_iload_n k_103_1 rfl
theorem e_103_2 {o : Nat} {v : Int32} : X xs L d 103 (2, lo, .inl v :: .inr (some o) :: sk, h) res ↔ hK h o = 9 ∧ X xs L d 103 (5, lo, sk, sI h o 30 v) res := i_putI k_103_2
theorem e_103_5 {x : Option Nat} {a1 : Option AV} : X xs L d 103 (5, [some (.inr x), a1], sk, h) res ↔ X xs L d 103 (6, [some (.inr x), a1], .inr x :: sk, h) res := i_aload_n k_103_5 rfl
theorem e_103_6 {x : Int32} {a0 : Option AV} : X xs L d 103 (6, [a0, some (.inl x)], sk, h) res ↔ X xs L d 103 (7, [a0, some (.inl x)], .inl x :: sk, h) res := i_iload_n k_103_6 rfl
theorem e_103_7 : X xs L d 103 (7, lo, sk, h) res ↔ X xs L d 103 (8, lo, .inl 1 :: sk, h) res := i_iconst k_103_7
theorem e_103_8 {x y : Int32} : X xs L d 103 (8, lo, .inl y :: .inl x :: sk, h) res ↔ (if x = y then X xs L d 103 (11, lo, sk, h) res else X xs L d 103 (15, lo, sk, h) res) := i_icmp_ne k_103_8
theorem e_103_11 : X xs L d 103 (11, lo, sk, h) res ↔ X xs L d 103 (12, lo, .inl 0 :: sk, h) res := i_iconst k_103_11
theorem e_103_12 : X xs L d 103 (12, lo, sk, h) res ↔ X xs L d 103 (19, lo, sk, h) res := i_goto k_103_12
theorem e_103_15 {x : Option Nat} {a1 : Option AV} : X xs L d 103 (15, [some (.inr x), a1], sk, h) res ↔ X xs L d 103 (16, [some (.inr x), a1], .inr x :: sk, h) res := i_aload_n k_103_15 rfl
theorem e_103_16 {o : Nat} : X xs L d 103 (16, lo, .inr (some o) :: sk, h) res ↔ hK h o = 9 ∧ X xs L d 103 (19, lo, .inl (hI h o 28) :: sk, h) res := i_getI k_103_16
theorem e_103_19 {o : Nat} {v : Int32} : X xs L d 103 (19, lo, .inl v :: .inr (some o) :: sk, h) res ↔ hK h o = 9 ∧ X xs L d 103 (22, lo, sk, sI h o 31 v) res := i_putI k_103_19
theorem e_103_22 {x : Option Nat} {a1 : Option AV} : X xs L d 103 (22, [some (.inr x), a1], sk, h) res ↔ X xs L d 103 (23, [some (.inr x), a1], .inr x :: sk, h) res := i_aload_n k_103_22 rfl
theorem e_103_23 {o : Nat} : X xs L d 103 (23, lo, .inr (some o) :: sk, h) res ↔ hK h o = 9 ∧ X xs L d 103 (26, lo, .inr (hR h o 16) :: sk, h) res := i_getR k_103_23
theorem e_103_26 : X xs L d 103 (26, lo, sk, h) res ↔ X xs L d 103 (27, lo, .inl 0 :: sk, h) res := i_iconst k_103_26
theorem e_103_27 {x : Int32} {a0 : Option AV} : X xs L d 103 (27, [a0, some (.inl x)], sk, h) res ↔ X xs L d 103 (28, [a0, some (.inl x)], .inl x :: sk, h) res := i_iload_n k_103_27 rfl
theorem e_103_28 : X xs L d 103 (28, lo, sk, h) res ↔ X xs L d 103 (29, lo, .inl 1 :: sk, h) res := i_iconst k_103_28
theorem e_103_29 {x y : Int32} : X xs L d 103 (29, lo, .inl y :: .inl x :: sk, h) res ↔ (if x = y then X xs L d 103 (32, lo, sk, h) res else X xs L d 103 (41, lo, sk, h) res) := i_icmp_ne k_103_29
theorem e_103_32 {x : Option Nat} {a1 : Option AV} : X xs L d 103 (32, [some (.inr x), a1], sk, h) res ↔ X xs L d 103 (33, [some (.inr x), a1], .inr x :: sk, h) res := i_aload_n k_103_32 rfl
theorem e_103_33 {o : Nat} : X xs L d 103 (33, lo, .inr (some o) :: sk, h) res ↔ hK h o = 9 ∧ X xs L d 103 (36, lo, .inr (hR h o 16) :: sk, h) res := i_getR k_103_33
theorem e_103_36 : X xs L d 103 (36, lo, sk, h) res ↔ X xs L d 103 (37, lo, .inl 0 :: sk, h) res := i_iconst k_103_36
theorem e_103_37 {o : Nat} {i : Int32} : X xs L d 103 (37, lo, .inl i :: .inr (some o) :: sk, h) res ↔ (hK h o = 20 ∧ vp_in i (hL h o)) ∧ X xs L d 103 (38, lo, .inl (hI h o i.toNatClampNeg) :: sk, h) res := i_iaload k_103_37
theorem e_103_38 : X xs L d 103 (38, lo, sk, h) res ↔ X xs L d 103 (42, lo, sk, h) res := i_goto k_103_38
theorem e_103_41 : X xs L d 103 (41, lo, sk, h) res ↔ X xs L d 103 (42, lo, .inl 0 :: sk, h) res := i_iconst k_103_41
theorem e_103_42 {o : Nat} {i v : Int32} : X xs L d 103 (42, lo, .inl v :: .inl i :: .inr (some o) :: sk, h) res ↔ (hK h o = 20 ∧ vp_in i (hL h o)) ∧ X xs L d 103 (43, lo, sk, sI h o i.toNatClampNeg (v)) res := i_iastore k_103_42
theorem e_103_43 : X xs L d 103 (43, lo, [], h) res ↔ res = (none, h) := i_vret k_103_43 rfl
theorem k_104_0 : am_cd 104 0 = some (.aload_n 0, 1, [], [])   := rfl
theorem k_104_1 : am_cd 104 1 = some (.getfield 151, 3, [9, 4, 1], [(0, 708)])   := rfl
theorem k_104_4 : am_cd 104 4 = some (.ifCond .ne 5, 3, [9], [])   := rfl
theorem k_104_7 : am_cd 104 7 = some (.iconst (-1), 1, [], [(-1, 0)])   := rfl
theorem k_104_8 : am_cd 104 8 = some (.ireturn, 1, [], [])   := rfl
theorem k_104_9 : am_cd 104 9 = some (.aload_n 0, 1, [], [])   := rfl
theorem k_104_10 : am_cd 104 10 = some (.iconst 0, 1, [], [(0, 0)])   := rfl
theorem k_104_11 : am_cd 104 11 = some (.putfield 173, 3, [9, 40, 0], [(0, 744)])   := rfl
theorem k_104_14 : am_cd 104 14 = some (.aload_n 0, 1, [], [])   := rfl
theorem k_104_15 : am_cd 104 15 = some (.iconst 0, 1, [], [(0, 0)])   := rfl
theorem k_104_16 : am_cd 104 16 = some (.putfield 176, 3, [9, 42, 0], [(0, 746)])   := rfl
theorem k_104_19 : am_cd 104 19 = some (.aload_n 0, 1, [], [])   := rfl
theorem k_104_20 : am_cd 104 20 = some (.iconst 0, 1, [], [(0, 0)])   := rfl
theorem k_104_21 : am_cd 104 21 = some (.putfield 164, 3, [9, 32, 0], [(0, 736)])   := rfl
theorem k_104_24 : am_cd 104 24 = some (.iconst 0, 1, [], [(0, 0)])   := rfl
theorem k_104_25 : am_cd 104 25 = some (.istore_n 1, 1, [], [])   := rfl
theorem k_104_26 : am_cd 104 26 = some (.iload_n 1, 1, [], [])   := rfl
theorem k_104_27 : am_cd 104 27 = some (.bipush 40, 2, [], [(40, 0)])   := rfl
theorem k_104_29 : am_cd 104 29 = some (.if_icmp .ge 16, 3, [45], [])   := rfl
theorem k_104_32 : am_cd 104 32 = some (.aload_n 0, 1, [], [])   := rfl
theorem k_104_33 : am_cd 104 33 = some (.getfield 93, 3, [9, 39, 2], [(0, 743)])   := rfl
theorem k_104_36 : am_cd 104 36 = some (.iload_n 1, 1, [], [])   := rfl
theorem k_104_37 : am_cd 104 37 = some (.iconst 0, 1, [], [(0, 0)])   := rfl
theorem k_104_38 : am_cd 104 38 = some (.iastore, 1, [], [])   := rfl
theorem k_104_39 : am_cd 104 39 = some (.iinc 1 1, 3, [], [(1, 0)])   := rfl
theorem k_104_42 : am_cd 104 42 = some (.goto (-16), 3, [26], [])   := rfl
theorem k_104_45 : am_cd 104 45 = some (.aload_n 0, 1, [], [])   := rfl
theorem k_104_46 : am_cd 104 46 = some (.getfield 47, 3, [9, 16, 2], [(0, 720)])   := rfl
theorem k_104_49 : am_cd 104 49 = some (.iconst 0, 1, [], [(0, 0)])   := rfl
theorem k_104_50 : am_cd 104 50 = some (.iconst 0, 1, [], [(0, 0)])   := rfl
theorem k_104_51 : am_cd 104 51 = some (.iastore, 1, [], [])   := rfl
theorem k_104_52 : am_cd 104 52 = some (.aload_n 0, 1, [], [])   := rfl
theorem k_104_53 : am_cd 104 53 = some (.iconst 0, 1, [], [(0, 0)])   := rfl
theorem k_104_54 : am_cd 104 54 = some (.iconst 0, 1, [], [(0, 0)])   := rfl
theorem k_104_55 : am_cd 104 55 = some (.iconst 0, 1, [], [(0, 0)])   := rfl
theorem k_104_56 : am_cd 104 56 = some (.invokevirtual 188, 3, [91, 4, 9], [(0, 894), (0, 896), (0, 37)])   := rfl
theorem k_104_59 : am_cd 104 59 = some (.aload_n 0, 1, [], [])   := rfl
theorem k_104_60 : am_cd 104 60 = some (.aload_n 0, 1, [], [])   := rfl
theorem k_104_61 : am_cd 104 61 = some (.iconst 0, 1, [], [(0, 0)])   := rfl
theorem k_104_62 : am_cd 104 62 = some (.invokevirtual 225, 3, [101, 2, 9], [(0, 902), (0, 904), (0, 39)])   := rfl
theorem k_104_65 : am_cd 104 65 = some (.invokevirtual 228, 3, [103, 2, 9], [(0, 941), (0, 943), (0, 48)])   := rfl
theorem k_104_68 : am_cd 104 68 = some (.aload_n 0, 1, [], [])   := rfl
theorem k_104_69 : am_cd 104 69 = some (.getfield 158, 3, [9, 30, 0], [(0, 734)])   := rfl
theorem k_104_72 : am_cd 104 72 = some (.ireturn, 1, [], [])   := rfl
theorem e_104_0 {x : Option Nat} {a1 : Option AV} : X xs L d 104 (0, [some (.inr x), a1], sk, h) res ↔ X xs L d 104 (1, [some (.inr x), a1], .inr x :: sk, h) res := i_aload_n k_104_0 rfl
theorem e_104_1 {o : Nat} : X xs L d 104 (1, lo, .inr (some o) :: sk, h) res ↔ hK h o = 9 ∧ X xs L d 104 (4, lo, .inl (hI h o 4) :: sk, h) res := i_getZ k_104_1
theorem e_104_4 {x : Int32} : X xs L d 104 (4, lo, .inl x :: sk, h) res ↔ (if x = 0 then X xs L d 104 (7, lo, sk, h) res else X xs L d 104 (9, lo, sk, h) res) := i_if_ne k_104_4
theorem e_104_7 : X xs L d 104 (7, lo, sk, h) res ↔ X xs L d 104 (8, lo, .inl (-1) :: sk, h) res := i_iconst k_104_7
theorem e_104_8 {v : Int32} : X xs L d 104 (8, lo, [.inl v], h) res ↔ res = (some (.inl v), h) := i_iret k_104_8 rfl
theorem e_104_9 {x : Option Nat} {a1 : Option AV} : X xs L d 104 (9, [some (.inr x), a1], sk, h) res ↔ X xs L d 104 (10, [some (.inr x), a1], .inr x :: sk, h) res := i_aload_n k_104_9 rfl
theorem e_104_10 : X xs L d 104 (10, lo, sk, h) res ↔ X xs L d 104 (11, lo, .inl 0 :: sk, h) res := i_iconst k_104_10
theorem e_104_11 {o : Nat} {v : Int32} : X xs L d 104 (11, lo, .inl v :: .inr (some o) :: sk, h) res ↔ hK h o = 9 ∧ X xs L d 104 (14, lo, sk, sI h o 40 v) res := i_putI k_104_11
theorem e_104_14 {x : Option Nat} {a1 : Option AV} : X xs L d 104 (14, [some (.inr x), a1], sk, h) res ↔ X xs L d 104 (15, [some (.inr x), a1], .inr x :: sk, h) res := i_aload_n k_104_14 rfl
theorem e_104_15 : X xs L d 104 (15, lo, sk, h) res ↔ X xs L d 104 (16, lo, .inl 0 :: sk, h) res := i_iconst k_104_15
theorem e_104_16 {o : Nat} {v : Int32} : X xs L d 104 (16, lo, .inl v :: .inr (some o) :: sk, h) res ↔ hK h o = 9 ∧ X xs L d 104 (19, lo, sk, sI h o 42 v) res := i_putI k_104_16
theorem e_104_19 {x : Option Nat} {a1 : Option AV} : X xs L d 104 (19, [some (.inr x), a1], sk, h) res ↔ X xs L d 104 (20, [some (.inr x), a1], .inr x :: sk, h) res := i_aload_n k_104_19 rfl
theorem e_104_20 : X xs L d 104 (20, lo, sk, h) res ↔ X xs L d 104 (21, lo, .inl 0 :: sk, h) res := i_iconst k_104_20
theorem e_104_21 {o : Nat} {v : Int32} : X xs L d 104 (21, lo, .inl v :: .inr (some o) :: sk, h) res ↔ hK h o = 9 ∧ X xs L d 104 (24, lo, sk, sI h o 32 v) res := i_putI k_104_21
theorem e_104_24 : X xs L d 104 (24, lo, sk, h) res ↔ X xs L d 104 (25, lo, .inl 0 :: sk, h) res := i_iconst k_104_24
theorem e_104_25 {x : Int32} {a0 a1 : Option AV} : X xs L d 104 (25, [a0, a1], .inl x :: sk, h) res ↔ X xs L d 104 (26, [a0, some (.inl x)], sk, h) res := i_istore_n k_104_25 (Nat.le_of_ble_eq_true rfl) rfl
theorem e_104_26 {x : Int32} {a0 : Option AV} : X xs L d 104 (26, [a0, some (.inl x)], sk, h) res ↔ X xs L d 104 (27, [a0, some (.inl x)], .inl x :: sk, h) res := i_iload_n k_104_26 rfl
theorem e_104_27 : X xs L d 104 (27, lo, sk, h) res ↔ X xs L d 104 (29, lo, .inl 40 :: sk, h) res := i_bipush k_104_27
theorem e_104_29 {x y : Int32} : X xs L d 104 (29, lo, .inl y :: .inl x :: sk, h) res ↔ (if y ≤ x then X xs L d 104 (45, lo, sk, h) res else X xs L d 104 (32, lo, sk, h) res) := i_icmp_ge k_104_29
theorem e_104_32 {x : Option Nat} {a1 : Option AV} : X xs L d 104 (32, [some (.inr x), a1], sk, h) res ↔ X xs L d 104 (33, [some (.inr x), a1], .inr x :: sk, h) res := i_aload_n k_104_32 rfl
theorem e_104_33 {o : Nat} : X xs L d 104 (33, lo, .inr (some o) :: sk, h) res ↔ hK h o = 9 ∧ X xs L d 104 (36, lo, .inr (hR h o 39) :: sk, h) res := i_getR k_104_33
theorem e_104_36 {x : Int32} {a0 : Option AV} : X xs L d 104 (36, [a0, some (.inl x)], sk, h) res ↔ X xs L d 104 (37, [a0, some (.inl x)], .inl x :: sk, h) res := i_iload_n k_104_36 rfl
theorem e_104_37 : X xs L d 104 (37, lo, sk, h) res ↔ X xs L d 104 (38, lo, .inl 0 :: sk, h) res := i_iconst k_104_37
theorem e_104_38 {o : Nat} {i v : Int32} : X xs L d 104 (38, lo, .inl v :: .inl i :: .inr (some o) :: sk, h) res ↔ (hK h o = 20 ∧ vp_in i (hL h o)) ∧ X xs L d 104 (39, lo, sk, sI h o i.toNatClampNeg (v)) res := i_iastore k_104_38
theorem e_104_39 {x : Int32} {a0 : Option AV} : X xs L d 104 (39, [a0, some (.inl x)], sk, h) res ↔ X xs L d 104 (42, [a0, some (.inl (x + 1))], sk, h) res := i_iinc k_104_39 rfl rfl
theorem e_104_42 : X xs L d 104 (42, lo, sk, h) res ↔ X xs L d 104 (26, lo, sk, h) res := i_goto k_104_42
theorem e_104_45 {x : Option Nat} {a1 : Option AV} : X xs L d 104 (45, [some (.inr x), a1], sk, h) res ↔ X xs L d 104 (46, [some (.inr x), a1], .inr x :: sk, h) res := i_aload_n k_104_45 rfl
theorem e_104_46 {o : Nat} : X xs L d 104 (46, lo, .inr (some o) :: sk, h) res ↔ hK h o = 9 ∧ X xs L d 104 (49, lo, .inr (hR h o 16) :: sk, h) res := i_getR k_104_46
theorem e_104_49 : X xs L d 104 (49, lo, sk, h) res ↔ X xs L d 104 (50, lo, .inl 0 :: sk, h) res := i_iconst k_104_49
theorem e_104_50 : X xs L d 104 (50, lo, sk, h) res ↔ X xs L d 104 (51, lo, .inl 0 :: sk, h) res := i_iconst k_104_50
theorem e_104_51 {o : Nat} {i v : Int32} : X xs L d 104 (51, lo, .inl v :: .inl i :: .inr (some o) :: sk, h) res ↔ (hK h o = 20 ∧ vp_in i (hL h o)) ∧ X xs L d 104 (52, lo, sk, sI h o i.toNatClampNeg (v)) res := i_iastore k_104_51
theorem e_104_52 {x : Option Nat} {a1 : Option AV} : X xs L d 104 (52, [some (.inr x), a1], sk, h) res ↔ X xs L d 104 (53, [some (.inr x), a1], .inr x :: sk, h) res := i_aload_n k_104_52 rfl
theorem e_104_53 : X xs L d 104 (53, lo, sk, h) res ↔ X xs L d 104 (54, lo, .inl 0 :: sk, h) res := i_iconst k_104_53
theorem e_104_54 : X xs L d 104 (54, lo, sk, h) res ↔ X xs L d 104 (55, lo, .inl 0 :: sk, h) res := i_iconst k_104_54
theorem e_104_55 : X xs L d 104 (55, lo, sk, h) res ↔ X xs L d 104 (56, lo, .inl 0 :: sk, h) res := i_iconst k_104_55
theorem e_104_56 {o : Nat} {v0 : Int32} {v1 : Int32} {v2 : Int32} (hs : sk.length ≤ 8) : X xs L d 104 (56, lo, .inl v2 :: .inl v1 :: .inl v0 :: .inr (some o) :: sk, h) res ↔ hK h o = 9 ∧ ∃ q : Res, Rn xs L d 91 [.inr (some o), .inl v0, .inl v1, .inl v2] h q ∧ X xs L d 104 (59, lo, q.1.toList ++ sk, q.2) res := i_callV k_104_56 rfl ⟨Nat.le_add_left 4 sk.length, Nat.le_trans (Nat.add_le_add_right hs 4) (Nat.le_of_eq (Nat.add_comm 8 4))⟩
theorem e_104_59 {x : Option Nat} {a1 : Option AV} : X xs L d 104 (59, [some (.inr x), a1], sk, h) res ↔ X xs L d 104 (60, [some (.inr x), a1], .inr x :: sk, h) res := i_aload_n k_104_59 rfl
theorem e_104_60 {x : Option Nat} {a1 : Option AV} : X xs L d 104 (60, [some (.inr x), a1], sk, h) res ↔ X xs L d 104 (61, [some (.inr x), a1], .inr x :: sk, h) res := i_aload_n k_104_60 rfl
theorem e_104_61 : X xs L d 104 (61, lo, sk, h) res ↔ X xs L d 104 (62, lo, .inl 0 :: sk, h) res := i_iconst k_104_61
theorem e_104_62 {o : Nat} {v0 : Int32} (hs : sk.length ≤ 8) : X xs L d 104 (62, lo, .inl v0 :: .inr (some o) :: sk, h) res ↔ hK h o = 9 ∧ ∃ q : Res, Rn xs L d 101 [.inr (some o), .inl v0] h q ∧ X xs L d 104 (65, lo, q.1.toList ++ sk, q.2) res := i_callV k_104_62 rfl ⟨Nat.le_add_left 2 sk.length, Nat.le_trans (Nat.add_le_add_right hs 2) (Nat.le_of_eq (Nat.add_comm 8 2))⟩
theorem e_104_65 {o : Nat} {v0 : Int32} (hs : sk.length ≤ 8) : X xs L d 104 (65, lo, .inl v0 :: .inr (some o) :: sk, h) res ↔ hK h o = 9 ∧ ∃ q : Res, Rn xs L d 103 [.inr (some o), .inl v0] h q ∧ X xs L d 104 (68, lo, q.1.toList ++ sk, q.2) res := i_callV k_104_65 rfl ⟨Nat.le_add_left 2 sk.length, Nat.le_trans (Nat.add_le_add_right hs 2) (Nat.le_of_eq (Nat.add_comm 8 2))⟩
theorem e_104_68 {x : Option Nat} {a1 : Option AV} : X xs L d 104 (68, [some (.inr x), a1], sk, h) res ↔ X xs L d 104 (69, [some (.inr x), a1], .inr x :: sk, h) res := i_aload_n k_104_68 rfl
theorem e_104_69 {o : Nat} : X xs L d 104 (69, lo, .inr (some o) :: sk, h) res ↔ hK h o = 9 ∧ X xs L d 104 (72, lo, .inl (hI h o 30) :: sk, h) res := i_getI k_104_69
theorem e_104_72 {v : Int32} : X xs L d 104 (72, lo, [.inl v], h) res ↔ res = (some (.inl v), h) := i_iret k_104_72 rfl
theorem k_105_0 : am_cd 105 0 = some (.aload_n 0, 1, [], [])   := rfl
theorem k_105_1 : am_cd 105 1 = some (.getfield 47, 3, [9, 16, 2], [(0, 720)])   := rfl
theorem k_105_4 : am_cd 105 4 = some (.iconst 1, 1, [], [(1, 0)])   := rfl
theorem k_105_5 : am_cd 105 5 = some (.iconst 1, 1, [], [(1, 0)])   := rfl
theorem k_105_6 : am_cd 105 6 = some (.iastore, 1, [], [])   := rfl
theorem k_105_7 : am_cd 105 7 = some (.iconst 0, 1, [], [(0, 0)])   := rfl
theorem k_105_8 : am_cd 105 8 = some (.istore_n 3, 1, [], [])   := rfl
theorem k_105_9 : am_cd 105 9 = some (.iload_n 3, 1, [], [])   := rfl
theorem k_105_10 : am_cd 105 10 = some (.bipush 6, 2, [], [(6, 0)])   := rfl
theorem k_105_12 : am_cd 105 12 = some (.if_icmp .ge 29, 3, [41], [])   := rfl
theorem k_105_15 : am_cd 105 15 = some (.aload_n 0, 1, [], [])   := rfl
theorem k_105_16 : am_cd 105 16 = some (.getfield 59, 3, [9, 20, 2], [(0, 724)])   := rfl
theorem k_105_19 : am_cd 105 19 = some (.bipush 36, 2, [], [(36, 0)])   := rfl
theorem k_105_21 : am_cd 105 21 = some (.iload_n 3, 1, [], [])   := rfl
theorem k_105_22 : am_cd 105 22 = some (.iadd, 1, [], [])   := rfl
theorem k_105_23 : am_cd 105 23 = some (.aload_n 0, 1, [], [])   := rfl
theorem k_105_24 : am_cd 105 24 = some (.getfield 59, 3, [9, 20, 2], [(0, 724)])   := rfl
theorem k_105_27 : am_cd 105 27 = some (.bipush 6, 2, [], [(6, 0)])   := rfl
theorem k_105_29 : am_cd 105 29 = some (.iload_n 2, 1, [], [])   := rfl
theorem k_105_30 : am_cd 105 30 = some (.imul, 1, [], [])   := rfl
theorem k_105_31 : am_cd 105 31 = some (.iload_n 3, 1, [], [])   := rfl
theorem k_105_32 : am_cd 105 32 = some (.iadd, 1, [], [])   := rfl
theorem k_105_33 : am_cd 105 33 = some (.iaload, 1, [], [])   := rfl
theorem k_105_34 : am_cd 105 34 = some (.iastore, 1, [], [])   := rfl
theorem k_105_35 : am_cd 105 35 = some (.iinc 3 1, 3, [], [(1, 0)])   := rfl
theorem k_105_38 : am_cd 105 38 = some (.goto (-29), 3, [9], [])   := rfl
theorem k_105_41 : am_cd 105 41 = some (.aload_n 0, 1, [], [])   := rfl
theorem k_105_42 : am_cd 105 42 = some (.getfield 53, 3, [9, 18, 2], [(0, 722)])   := rfl
theorem k_105_45 : am_cd 105 45 = some (.bipush 6, 2, [], [(6, 0)])   := rfl
theorem k_105_47 : am_cd 105 47 = some (.sipush 152, 3, [], [(152, 0)])   := rfl
theorem k_105_50 : am_cd 105 50 = some (.iload_n 1, 1, [], [])   := rfl
theorem k_105_51 : am_cd 105 51 = some (.imul, 1, [], [])   := rfl
theorem k_105_52 : am_cd 105 52 = some (.iastore, 1, [], [])   := rfl
theorem k_105_53 : am_cd 105 53 = some (.aload_n 0, 1, [], [])   := rfl
theorem k_105_54 : am_cd 105 54 = some (.getfield 62, 3, [9, 21, 2], [(0, 725)])   := rfl
theorem k_105_57 : am_cd 105 57 = some (.bipush 6, 2, [], [(6, 0)])   := rfl
theorem k_105_59 : am_cd 105 59 = some (.iconst (-1), 1, [], [(-1, 0)])   := rfl
theorem k_105_60 : am_cd 105 60 = some (.iastore, 1, [], [])   := rfl
theorem k_105_61 : am_cd 105 61 = some (.aload_n 0, 1, [], [])   := rfl
theorem k_105_62 : am_cd 105 62 = some (.bipush 6, 2, [], [(6, 0)])   := rfl
theorem k_105_64 : am_cd 105 64 = some (.iconst 0, 1, [], [(0, 0)])   := rfl
theorem k_105_65 : am_cd 105 65 = some (.invokevirtual 192, 3, [94, 3, 9], [(0, 914), (0, 916), (0, 42)])   := rfl
theorem k_105_68 : am_cd 105 68 = some (.aload_n 0, 1, [], [])   := rfl
theorem k_105_69 : am_cd 105 69 = some (.iconst 1, 1, [], [(1, 0)])   := rfl
theorem k_105_70 : am_cd 105 70 = some (.putfield 182, 3, [9, 27, 0], [(0, 731)])   := rfl
theorem k_105_73 : am_cd 105 73 = some (.iconst 0, 1, [], [(0, 0)])   := rfl
theorem k_105_74 : am_cd 105 74 = some (.istore_n 3, 1, [], [])   := rfl
theorem k_105_75 : am_cd 105 75 = some (.aload_n 0, 1, [], [])   := rfl
theorem k_105_76 : am_cd 105 76 = some (.iconst 1, 1, [], [(1, 0)])   := rfl
theorem k_105_77 : am_cd 105 77 = some (.invokevirtual 225, 3, [101, 2, 9], [(0, 902), (0, 904), (0, 39)])   := rfl
theorem k_105_80 : am_cd 105 80 = some (.istore 4, 2, [], [])   := rfl
theorem k_105_82 : am_cd 105 82 = some (.iload 4, 2, [], [])   := rfl
theorem k_105_84 : am_cd 105 84 = some (.iconst 1, 1, [], [(1, 0)])   := rfl
theorem k_105_85 : am_cd 105 85 = some (.if_icmp .ne 31, 3, [116], [])   := rfl
theorem k_105_88 : am_cd 105 88 = some (.iload_n 3, 1, [], [])   := rfl
theorem k_105_89 : am_cd 105 89 = some (.bipush 100, 2, [], [(100, 0)])   := rfl
theorem k_105_91 : am_cd 105 91 = some (.if_icmp .ge 25, 3, [116], [])   := rfl
theorem k_105_94 : am_cd 105 94 = some (.iinc 3 1, 3, [], [(1, 0)])   := rfl
theorem k_105_97 : am_cd 105 97 = some (.aload_n 0, 1, [], [])   := rfl
theorem k_105_98 : am_cd 105 98 = some (.aload_n 0, 1, [], [])   := rfl
theorem k_105_99 : am_cd 105 99 = some (.iconst 1, 1, [], [(1, 0)])   := rfl
theorem k_105_100 : am_cd 105 100 = some (.invokevirtual 179, 3, [90, 2, 9], [(0, 898), (0, 900), (0, 38)])   := rfl
theorem k_105_103 : am_cd 105 103 = some (.invokevirtual 231, 3, [102, 2, 9], [(0, 949), (0, 951), (0, 49)])   := rfl
theorem k_105_106 : am_cd 105 106 = some (.aload_n 0, 1, [], [])   := rfl
theorem k_105_107 : am_cd 105 107 = some (.iconst 1, 1, [], [(1, 0)])   := rfl
theorem k_105_108 : am_cd 105 108 = some (.invokevirtual 225, 3, [101, 2, 9], [(0, 902), (0, 904), (0, 39)])   := rfl
theorem k_105_111 : am_cd 105 111 = some (.istore 4, 2, [], [])   := rfl
theorem k_105_113 : am_cd 105 113 = some (.goto (-31), 3, [82], [])   := rfl
theorem k_105_116 : am_cd 105 116 = some (.iload 4, 2, [], [])   := rfl
theorem k_105_118 : am_cd 105 118 = some (.iconst 1, 1, [], [(1, 0)])   := rfl
theorem k_105_119 : am_cd 105 119 = some (.if_icmp .ne 8, 3, [127], [])   := rfl
theorem k_105_122 : am_cd 105 122 = some (.bipush (-3), 2, [], [(-3, 0)])   := rfl
theorem k_105_124 : am_cd 105 124 = some (.goto 15, 3, [139], [])   := rfl
theorem k_105_127 : am_cd 105 127 = some (.iload 4, 2, [], [])   := rfl
theorem k_105_129 : am_cd 105 129 = some (.iconst 3, 1, [], [(3, 0)])   := rfl
theorem k_105_130 : am_cd 105 130 = some (.if_icmp .ne 8, 3, [138], [])   := rfl
theorem k_105_133 : am_cd 105 133 = some (.bipush (-2), 2, [], [(-2, 0)])   := rfl
theorem k_105_135 : am_cd 105 135 = some (.goto 4, 3, [139], [])   := rfl
theorem k_105_138 : am_cd 105 138 = some (.iconst 0, 1, [], [(0, 0)])   := rfl
theorem k_105_139 : am_cd 105 139 = some (.ireturn, 1, [], [])   := rfl
theorem e_105_0 {x : Option Nat} {a1 a2 a3 a4 : Option AV} : X xs L d 105 (0, [some (.inr x), a1, a2, a3, a4], sk, h) res ↔ X xs L d 105 (1, [some (.inr x), a1, a2, a3, a4], .inr x :: sk, h) res := i_aload_n k_105_0 rfl
theorem e_105_1 {o : Nat} : X xs L d 105 (1, lo, .inr (some o) :: sk, h) res ↔ hK h o = 9 ∧ X xs L d 105 (4, lo, .inr (hR h o 16) :: sk, h) res := i_getR k_105_1
theorem e_105_4 : X xs L d 105 (4, lo, sk, h) res ↔ X xs L d 105 (5, lo, .inl 1 :: sk, h) res := i_iconst k_105_4
theorem e_105_5 : X xs L d 105 (5, lo, sk, h) res ↔ X xs L d 105 (6, lo, .inl 1 :: sk, h) res := i_iconst k_105_5
theorem e_105_6 {o : Nat} {i v : Int32} : X xs L d 105 (6, lo, .inl v :: .inl i :: .inr (some o) :: sk, h) res ↔ (hK h o = 20 ∧ vp_in i (hL h o)) ∧ X xs L d 105 (7, lo, sk, sI h o i.toNatClampNeg (v)) res := i_iastore k_105_6
theorem e_105_7 : X xs L d 105 (7, lo, sk, h) res ↔ X xs L d 105 (8, lo, .inl 0 :: sk, h) res := i_iconst k_105_7
theorem e_105_8 {x : Int32} {a0 a1 a2 a3 a4 : Option AV} : X xs L d 105 (8, [a0, a1, a2, a3, a4], .inl x :: sk, h) res ↔ X xs L d 105 (9, [a0, a1, a2, some (.inl x), a4], sk, h) res := i_istore_n k_105_8 (Nat.le_of_ble_eq_true rfl) rfl
theorem e_105_9 {x : Int32} {a0 a1 a2 a4 : Option AV} : X xs L d 105 (9, [a0, a1, a2, some (.inl x), a4], sk, h) res ↔ X xs L d 105 (10, [a0, a1, a2, some (.inl x), a4], .inl x :: sk, h) res := i_iload_n k_105_9 rfl
theorem e_105_10 : X xs L d 105 (10, lo, sk, h) res ↔ X xs L d 105 (12, lo, .inl 6 :: sk, h) res := i_bipush k_105_10
theorem e_105_12 {x y : Int32} : X xs L d 105 (12, lo, .inl y :: .inl x :: sk, h) res ↔ (if y ≤ x then X xs L d 105 (41, lo, sk, h) res else X xs L d 105 (15, lo, sk, h) res) := i_icmp_ge k_105_12
theorem e_105_15 {x : Option Nat} {a1 a2 a3 a4 : Option AV} : X xs L d 105 (15, [some (.inr x), a1, a2, a3, a4], sk, h) res ↔ X xs L d 105 (16, [some (.inr x), a1, a2, a3, a4], .inr x :: sk, h) res := i_aload_n k_105_15 rfl
theorem e_105_16 {o : Nat} : X xs L d 105 (16, lo, .inr (some o) :: sk, h) res ↔ hK h o = 9 ∧ X xs L d 105 (19, lo, .inr (hR h o 20) :: sk, h) res := i_getR k_105_16
theorem e_105_19 : X xs L d 105 (19, lo, sk, h) res ↔ X xs L d 105 (21, lo, .inl 36 :: sk, h) res := i_bipush k_105_19
theorem e_105_21 {x : Int32} {a0 a1 a2 a4 : Option AV} : X xs L d 105 (21, [a0, a1, a2, some (.inl x), a4], sk, h) res ↔ X xs L d 105 (22, [a0, a1, a2, some (.inl x), a4], .inl x :: sk, h) res := i_iload_n k_105_21 rfl
theorem e_105_22 {x y : Int32} : X xs L d 105 (22, lo, .inl y :: .inl x :: sk, h) res ↔ X xs L d 105 (23, lo, .inl (x + y) :: sk, h) res := i_iadd k_105_22
theorem e_105_23 {x : Option Nat} {a1 a2 a3 a4 : Option AV} : X xs L d 105 (23, [some (.inr x), a1, a2, a3, a4], sk, h) res ↔ X xs L d 105 (24, [some (.inr x), a1, a2, a3, a4], .inr x :: sk, h) res := i_aload_n k_105_23 rfl
theorem e_105_24 {o : Nat} : X xs L d 105 (24, lo, .inr (some o) :: sk, h) res ↔ hK h o = 9 ∧ X xs L d 105 (27, lo, .inr (hR h o 20) :: sk, h) res := i_getR k_105_24
theorem e_105_27 : X xs L d 105 (27, lo, sk, h) res ↔ X xs L d 105 (29, lo, .inl 6 :: sk, h) res := i_bipush k_105_27
theorem e_105_29 {x : Int32} {a0 a1 a3 a4 : Option AV} : X xs L d 105 (29, [a0, a1, some (.inl x), a3, a4], sk, h) res ↔ X xs L d 105 (30, [a0, a1, some (.inl x), a3, a4], .inl x :: sk, h) res := i_iload_n k_105_29 rfl
theorem e_105_30 {x y : Int32} : X xs L d 105 (30, lo, .inl y :: .inl x :: sk, h) res ↔ X xs L d 105 (31, lo, .inl (x * y) :: sk, h) res := i_imul k_105_30
theorem e_105_31 {x : Int32} {a0 a1 a2 a4 : Option AV} : X xs L d 105 (31, [a0, a1, a2, some (.inl x), a4], sk, h) res ↔ X xs L d 105 (32, [a0, a1, a2, some (.inl x), a4], .inl x :: sk, h) res := i_iload_n k_105_31 rfl
theorem e_105_32 {x y : Int32} : X xs L d 105 (32, lo, .inl y :: .inl x :: sk, h) res ↔ X xs L d 105 (33, lo, .inl (x + y) :: sk, h) res := i_iadd k_105_32
theorem e_105_33 {o : Nat} {i : Int32} : X xs L d 105 (33, lo, .inl i :: .inr (some o) :: sk, h) res ↔ (hK h o = 20 ∧ vp_in i (hL h o)) ∧ X xs L d 105 (34, lo, .inl (hI h o i.toNatClampNeg) :: sk, h) res := i_iaload k_105_33
theorem e_105_34 {o : Nat} {i v : Int32} : X xs L d 105 (34, lo, .inl v :: .inl i :: .inr (some o) :: sk, h) res ↔ (hK h o = 20 ∧ vp_in i (hL h o)) ∧ X xs L d 105 (35, lo, sk, sI h o i.toNatClampNeg (v)) res := i_iastore k_105_34
theorem e_105_35 {x : Int32} {a0 a1 a2 a4 : Option AV} : X xs L d 105 (35, [a0, a1, a2, some (.inl x), a4], sk, h) res ↔ X xs L d 105 (38, [a0, a1, a2, some (.inl (x + 1)), a4], sk, h) res := i_iinc k_105_35 rfl rfl
theorem e_105_38 : X xs L d 105 (38, lo, sk, h) res ↔ X xs L d 105 (9, lo, sk, h) res := i_goto k_105_38
theorem e_105_41 {x : Option Nat} {a1 a2 a3 a4 : Option AV} : X xs L d 105 (41, [some (.inr x), a1, a2, a3, a4], sk, h) res ↔ X xs L d 105 (42, [some (.inr x), a1, a2, a3, a4], .inr x :: sk, h) res := i_aload_n k_105_41 rfl
theorem e_105_42 {o : Nat} : X xs L d 105 (42, lo, .inr (some o) :: sk, h) res ↔ hK h o = 9 ∧ X xs L d 105 (45, lo, .inr (hR h o 18) :: sk, h) res := i_getR k_105_42
theorem e_105_45 : X xs L d 105 (45, lo, sk, h) res ↔ X xs L d 105 (47, lo, .inl 6 :: sk, h) res := i_bipush k_105_45
theorem e_105_47 : X xs L d 105 (47, lo, sk, h) res ↔ X xs L d 105 (50, lo, .inl 152 :: sk, h) res := i_sipush k_105_47
theorem e_105_50 {x : Int32} {a0 a2 a3 a4 : Option AV} : X xs L d 105 (50, [a0, some (.inl x), a2, a3, a4], sk, h) res ↔ X xs L d 105 (51, [a0, some (.inl x), a2, a3, a4], .inl x :: sk, h) res := i_iload_n k_105_50 rfl
theorem e_105_51 {x y : Int32} : X xs L d 105 (51, lo, .inl y :: .inl x :: sk, h) res ↔ X xs L d 105 (52, lo, .inl (x * y) :: sk, h) res := i_imul k_105_51
theorem e_105_52 {o : Nat} {i v : Int32} : X xs L d 105 (52, lo, .inl v :: .inl i :: .inr (some o) :: sk, h) res ↔ (hK h o = 20 ∧ vp_in i (hL h o)) ∧ X xs L d 105 (53, lo, sk, sI h o i.toNatClampNeg (v)) res := i_iastore k_105_52
theorem e_105_53 {x : Option Nat} {a1 a2 a3 a4 : Option AV} : X xs L d 105 (53, [some (.inr x), a1, a2, a3, a4], sk, h) res ↔ X xs L d 105 (54, [some (.inr x), a1, a2, a3, a4], .inr x :: sk, h) res := i_aload_n k_105_53 rfl
theorem e_105_54 {o : Nat} : X xs L d 105 (54, lo, .inr (some o) :: sk, h) res ↔ hK h o = 9 ∧ X xs L d 105 (57, lo, .inr (hR h o 21) :: sk, h) res := i_getR k_105_54
theorem e_105_57 : X xs L d 105 (57, lo, sk, h) res ↔ X xs L d 105 (59, lo, .inl 6 :: sk, h) res := i_bipush k_105_57
theorem e_105_59 : X xs L d 105 (59, lo, sk, h) res ↔ X xs L d 105 (60, lo, .inl (-1) :: sk, h) res := i_iconst k_105_59
theorem e_105_60 {o : Nat} {i v : Int32} : X xs L d 105 (60, lo, .inl v :: .inl i :: .inr (some o) :: sk, h) res ↔ (hK h o = 20 ∧ vp_in i (hL h o)) ∧ X xs L d 105 (61, lo, sk, sI h o i.toNatClampNeg (v)) res := i_iastore k_105_60
theorem e_105_61 {x : Option Nat} {a1 a2 a3 a4 : Option AV} : X xs L d 105 (61, [some (.inr x), a1, a2, a3, a4], sk, h) res ↔ X xs L d 105 (62, [some (.inr x), a1, a2, a3, a4], .inr x :: sk, h) res := i_aload_n k_105_61 rfl
theorem e_105_62 : X xs L d 105 (62, lo, sk, h) res ↔ X xs L d 105 (64, lo, .inl 6 :: sk, h) res := i_bipush k_105_62
theorem e_105_64 : X xs L d 105 (64, lo, sk, h) res ↔ X xs L d 105 (65, lo, .inl 0 :: sk, h) res := i_iconst k_105_64
theorem e_105_65 {o : Nat} {v0 : Int32} {v1 : Int32} (hs : sk.length ≤ 8) : X xs L d 105 (65, lo, .inl v1 :: .inl v0 :: .inr (some o) :: sk, h) res ↔ hK h o = 9 ∧ ∃ q : Res, Rn xs L d 94 [.inr (some o), .inl v0, .inl v1] h q ∧ X xs L d 105 (68, lo, q.1.toList ++ sk, q.2) res := i_callV k_105_65 rfl ⟨Nat.le_add_left 3 sk.length, Nat.le_trans (Nat.add_le_add_right hs 3) (Nat.le_of_eq (Nat.add_comm 8 3))⟩
theorem e_105_68 {x : Option Nat} {a1 a2 a3 a4 : Option AV} : X xs L d 105 (68, [some (.inr x), a1, a2, a3, a4], sk, h) res ↔ X xs L d 105 (69, [some (.inr x), a1, a2, a3, a4], .inr x :: sk, h) res := i_aload_n k_105_68 rfl
theorem e_105_69 : X xs L d 105 (69, lo, sk, h) res ↔ X xs L d 105 (70, lo, .inl 1 :: sk, h) res := i_iconst k_105_69
theorem e_105_70 {o : Nat} {v : Int32} : X xs L d 105 (70, lo, .inl v :: .inr (some o) :: sk, h) res ↔ hK h o = 9 ∧ X xs L d 105 (73, lo, sk, sI h o 27 v) res := i_putI k_105_70
theorem e_105_73 : X xs L d 105 (73, lo, sk, h) res ↔ X xs L d 105 (74, lo, .inl 0 :: sk, h) res := i_iconst k_105_73
theorem e_105_74 {x : Int32} {a0 a1 a2 a3 a4 : Option AV} : X xs L d 105 (74, [a0, a1, a2, a3, a4], .inl x :: sk, h) res ↔ X xs L d 105 (75, [a0, a1, a2, some (.inl x), a4], sk, h) res := i_istore_n k_105_74 (Nat.le_of_ble_eq_true rfl) rfl
theorem e_105_75 {x : Option Nat} {a1 a2 a3 a4 : Option AV} : X xs L d 105 (75, [some (.inr x), a1, a2, a3, a4], sk, h) res ↔ X xs L d 105 (76, [some (.inr x), a1, a2, a3, a4], .inr x :: sk, h) res := i_aload_n k_105_75 rfl
theorem e_105_76 : X xs L d 105 (76, lo, sk, h) res ↔ X xs L d 105 (77, lo, .inl 1 :: sk, h) res := i_iconst k_105_76
theorem e_105_77 {o : Nat} {v0 : Int32} (hs : sk.length ≤ 8) : X xs L d 105 (77, lo, .inl v0 :: .inr (some o) :: sk, h) res ↔ hK h o = 9 ∧ ∃ q : Res, Rn xs L d 101 [.inr (some o), .inl v0] h q ∧ X xs L d 105 (80, lo, q.1.toList ++ sk, q.2) res := i_callV k_105_77 rfl ⟨Nat.le_add_left 2 sk.length, Nat.le_trans (Nat.add_le_add_right hs 2) (Nat.le_of_eq (Nat.add_comm 8 2))⟩
theorem e_105_80 {x : Int32} {a0 a1 a2 a3 a4 : Option AV} : X xs L d 105 (80, [a0, a1, a2, a3, a4], .inl x :: sk, h) res ↔ X xs L d 105 (82, [a0, a1, a2, a3, some (.inl x)], sk, h) res := i_istore k_105_80 (Nat.le_of_ble_eq_true rfl) rfl
theorem e_105_82 {x : Int32} {a0 a1 a2 a3 : Option AV} : X xs L d 105 (82, [a0, a1, a2, a3, some (.inl x)], sk, h) res ↔ X xs L d 105 (84, [a0, a1, a2, a3, some (.inl x)], .inl x :: sk, h) res := i_iload k_105_82 rfl
theorem e_105_84 : X xs L d 105 (84, lo, sk, h) res ↔ X xs L d 105 (85, lo, .inl 1 :: sk, h) res := i_iconst k_105_84
theorem e_105_85 {x y : Int32} : X xs L d 105 (85, lo, .inl y :: .inl x :: sk, h) res ↔ (if x = y then X xs L d 105 (88, lo, sk, h) res else X xs L d 105 (116, lo, sk, h) res) := i_icmp_ne k_105_85
theorem e_105_88 {x : Int32} {a0 a1 a2 a4 : Option AV} : X xs L d 105 (88, [a0, a1, a2, some (.inl x), a4], sk, h) res ↔ X xs L d 105 (89, [a0, a1, a2, some (.inl x), a4], .inl x :: sk, h) res := i_iload_n k_105_88 rfl
theorem e_105_89 : X xs L d 105 (89, lo, sk, h) res ↔ X xs L d 105 (91, lo, .inl 100 :: sk, h) res := i_bipush k_105_89
theorem e_105_91 {x y : Int32} : X xs L d 105 (91, lo, .inl y :: .inl x :: sk, h) res ↔ (if y ≤ x then X xs L d 105 (116, lo, sk, h) res else X xs L d 105 (94, lo, sk, h) res) := i_icmp_ge k_105_91
theorem e_105_94 {x : Int32} {a0 a1 a2 a4 : Option AV} : X xs L d 105 (94, [a0, a1, a2, some (.inl x), a4], sk, h) res ↔ X xs L d 105 (97, [a0, a1, a2, some (.inl (x + 1)), a4], sk, h) res := i_iinc k_105_94 rfl rfl
theorem e_105_97 {x : Option Nat} {a1 a2 a3 a4 : Option AV} : X xs L d 105 (97, [some (.inr x), a1, a2, a3, a4], sk, h) res ↔ X xs L d 105 (98, [some (.inr x), a1, a2, a3, a4], .inr x :: sk, h) res := i_aload_n k_105_97 rfl
theorem e_105_98 {x : Option Nat} {a1 a2 a3 a4 : Option AV} : X xs L d 105 (98, [some (.inr x), a1, a2, a3, a4], sk, h) res ↔ X xs L d 105 (99, [some (.inr x), a1, a2, a3, a4], .inr x :: sk, h) res := i_aload_n k_105_98 rfl
theorem e_105_99 : X xs L d 105 (99, lo, sk, h) res ↔ X xs L d 105 (100, lo, .inl 1 :: sk, h) res := i_iconst k_105_99
theorem e_105_100 {o : Nat} {v0 : Int32} (hs : sk.length ≤ 8) : X xs L d 105 (100, lo, .inl v0 :: .inr (some o) :: sk, h) res ↔ hK h o = 9 ∧ ∃ q : Res, Rn xs L d 90 [.inr (some o), .inl v0] h q ∧ X xs L d 105 (103, lo, q.1.toList ++ sk, q.2) res := i_callV k_105_100 rfl ⟨Nat.le_add_left 2 sk.length, Nat.le_trans (Nat.add_le_add_right hs 2) (Nat.le_of_eq (Nat.add_comm 8 2))⟩
theorem e_105_103 {o : Nat} {v0 : Int32} (hs : sk.length ≤ 8) : X xs L d 105 (103, lo, .inl v0 :: .inr (some o) :: sk, h) res ↔ hK h o = 9 ∧ ∃ q : Res, Rn xs L d 102 [.inr (some o), .inl v0] h q ∧ X xs L d 105 (106, lo, q.1.toList ++ sk, q.2) res := i_callV k_105_103 rfl ⟨Nat.le_add_left 2 sk.length, Nat.le_trans (Nat.add_le_add_right hs 2) (Nat.le_of_eq (Nat.add_comm 8 2))⟩
theorem e_105_106 {x : Option Nat} {a1 a2 a3 a4 : Option AV} : X xs L d 105 (106, [some (.inr x), a1, a2, a3, a4], sk, h) res ↔ X xs L d 105 (107, [some (.inr x), a1, a2, a3, a4], .inr x :: sk, h) res := i_aload_n k_105_106 rfl
theorem e_105_107 : X xs L d 105 (107, lo, sk, h) res ↔ X xs L d 105 (108, lo, .inl 1 :: sk, h) res := i_iconst k_105_107
theorem e_105_108 {o : Nat} {v0 : Int32} (hs : sk.length ≤ 8) : X xs L d 105 (108, lo, .inl v0 :: .inr (some o) :: sk, h) res ↔ hK h o = 9 ∧ ∃ q : Res, Rn xs L d 101 [.inr (some o), .inl v0] h q ∧ X xs L d 105 (111, lo, q.1.toList ++ sk, q.2) res := i_callV k_105_108 rfl ⟨Nat.le_add_left 2 sk.length, Nat.le_trans (Nat.add_le_add_right hs 2) (Nat.le_of_eq (Nat.add_comm 8 2))⟩
theorem e_105_111 {x : Int32} {a0 a1 a2 a3 a4 : Option AV} : X xs L d 105 (111, [a0, a1, a2, a3, a4], .inl x :: sk, h) res ↔ X xs L d 105 (113, [a0, a1, a2, a3, some (.inl x)], sk, h) res := i_istore k_105_111 (Nat.le_of_ble_eq_true rfl) rfl
theorem e_105_113 : X xs L d 105 (113, lo, sk, h) res ↔ X xs L d 105 (82, lo, sk, h) res := i_goto k_105_113
theorem e_105_116 {x : Int32} {a0 a1 a2 a3 : Option AV} : X xs L d 105 (116, [a0, a1, a2, a3, some (.inl x)], sk, h) res ↔ X xs L d 105 (118, [a0, a1, a2, a3, some (.inl x)], .inl x :: sk, h) res := i_iload k_105_116 rfl
theorem e_105_118 : X xs L d 105 (118, lo, sk, h) res ↔ X xs L d 105 (119, lo, .inl 1 :: sk, h) res := i_iconst k_105_118
theorem e_105_119 {x y : Int32} : X xs L d 105 (119, lo, .inl y :: .inl x :: sk, h) res ↔ (if x = y then X xs L d 105 (122, lo, sk, h) res else X xs L d 105 (127, lo, sk, h) res) := i_icmp_ne k_105_119
theorem e_105_122 : X xs L d 105 (122, lo, sk, h) res ↔ X xs L d 105 (124, lo, .inl (-3) :: sk, h) res := i_bipush k_105_122
theorem e_105_124 : X xs L d 105 (124, lo, sk, h) res ↔ X xs L d 105 (139, lo, sk, h) res := i_goto k_105_124
theorem e_105_127 {x : Int32} {a0 a1 a2 a3 : Option AV} : X xs L d 105 (127, [a0, a1, a2, a3, some (.inl x)], sk, h) res ↔ X xs L d 105 (129, [a0, a1, a2, a3, some (.inl x)], .inl x :: sk, h) res := i_iload k_105_127 rfl
theorem e_105_129 : X xs L d 105 (129, lo, sk, h) res ↔ X xs L d 105 (130, lo, .inl 3 :: sk, h) res := i_iconst k_105_129
theorem e_105_130 {x y : Int32} : X xs L d 105 (130, lo, .inl y :: .inl x :: sk, h) res ↔ (if x = y then X xs L d 105 (133, lo, sk, h) res else X xs L d 105 (138, lo, sk, h) res) := i_icmp_ne k_105_130
theorem e_105_133 : X xs L d 105 (133, lo, sk, h) res ↔ X xs L d 105 (135, lo, .inl (-2) :: sk, h) res := i_bipush k_105_133
theorem e_105_135 : X xs L d 105 (135, lo, sk, h) res ↔ X xs L d 105 (139, lo, sk, h) res := i_goto k_105_135
theorem e_105_138 : X xs L d 105 (138, lo, sk, h) res ↔ X xs L d 105 (139, lo, .inl 0 :: sk, h) res := i_iconst k_105_138
theorem e_105_139 {v : Int32} : X xs L d 105 (139, lo, [.inl v], h) res ↔ res = (some (.inl v), h) := i_iret k_105_139 rfl
theorem k_106_0 : am_cd 106 0 = some (.aload_n 0, 1, [], [])   := rfl
theorem k_106_1 : am_cd 106 1 = some (.getfield 26, 3, [9, 9, 2], [(0, 713)])   := rfl
theorem k_106_4 : am_cd 106 4 = some (.aload_n 0, 1, [], [])   := rfl
theorem k_106_5 : am_cd 106 5 = some (.getfield 56, 3, [9, 19, 2], [(0, 723)])   := rfl
theorem k_106_8 : am_cd 106 8 = some (.aload_n 0, 1, [], [])   := rfl
theorem k_106_9 : am_cd 106 9 = some (.iconst 0, 1, [], [(0, 0)])   := rfl
theorem k_106_10 : am_cd 106 10 = some (.invokevirtual 179, 3, [90, 2, 9], [(0, 898), (0, 900), (0, 38)])   := rfl
theorem k_106_13 : am_cd 106 13 = some (.iaload, 1, [], [])   := rfl
theorem k_106_14 : am_cd 106 14 = some (.iaload, 1, [], [])   := rfl
theorem k_106_15 : am_cd 106 15 = some (.istore_n 1, 1, [], [])   := rfl
theorem k_106_16 : am_cd 106 16 = some (.aload_n 0, 1, [], [])   := rfl
theorem k_106_17 : am_cd 106 17 = some (.getfield 80, 3, [9, 35, 2], [(0, 739)])   := rfl
theorem k_106_20 : am_cd 106 20 = some (.iload_n 1, 1, [], [])   := rfl
theorem k_106_21 : am_cd 106 21 = some (.baload, 1, [], [])   := rfl
theorem k_106_22 : am_cd 106 22 = some (.ifCond .ne 5, 3, [27], [])   := rfl
theorem k_106_25 : am_cd 106 25 = some (.iconst 0, 1, [], [(0, 0)])   := rfl
theorem k_106_26 : am_cd 106 26 = some (.ireturn, 1, [], [])   := rfl
theorem k_106_27 : am_cd 106 27 = some (.iconst 0, 1, [], [(0, 0)])   := rfl
theorem k_106_28 : am_cd 106 28 = some (.istore_n 2, 1, [], [])   := rfl
theorem k_106_29 : am_cd 106 29 = some (.aload_n 0, 1, [], [])   := rfl
theorem k_106_30 : am_cd 106 30 = some (.getfield 84, 3, [9, 36, 2], [(0, 740)])   := rfl
theorem k_106_33 : am_cd 106 33 = some (.iload_n 1, 1, [], [])   := rfl
theorem k_106_34 : am_cd 106 34 = some (.baload, 1, [], [])   := rfl
theorem k_106_35 : am_cd 106 35 = some (.ifCond .eq 35, 3, [70], [])   := rfl
theorem k_106_38 : am_cd 106 38 = some (.aload_n 0, 1, [], [])   := rfl
theorem k_106_39 : am_cd 106 39 = some (.iconst 1, 1, [], [(1, 0)])   := rfl
theorem k_106_40 : am_cd 106 40 = some (.iload_n 1, 1, [], [])   := rfl
theorem k_106_41 : am_cd 106 41 = some (.iadd, 1, [], [])   := rfl
theorem k_106_42 : am_cd 106 42 = some (.aload_n 0, 1, [], [])   := rfl
theorem k_106_43 : am_cd 106 43 = some (.iconst 0, 1, [], [(0, 0)])   := rfl
theorem k_106_44 : am_cd 106 44 = some (.invokevirtual 179, 3, [90, 2, 9], [(0, 898), (0, 900), (0, 38)])   := rfl
theorem k_106_47 : am_cd 106 47 = some (.invokevirtual 234, 3, [105, 3, 9], [(0, 957), (0, 959), (0, 51)])   := rfl
theorem k_106_50 : am_cd 106 50 = some (.istore_n 3, 1, [], [])   := rfl
theorem k_106_51 : am_cd 106 51 = some (.iload_n 3, 1, [], [])   := rfl
theorem k_106_52 : am_cd 106 52 = some (.ifCond .ne 10, 3, [62], [])   := rfl
theorem k_106_55 : am_cd 106 55 = some (.aload_n 0, 1, [], [])   := rfl
theorem k_106_56 : am_cd 106 56 = some (.getfield 185, 3, [9, 28, 0], [(0, 732)])   := rfl
theorem k_106_59 : am_cd 106 59 = some (.goto 4, 3, [63], [])   := rfl
theorem k_106_62 : am_cd 106 62 = some (.iconst 0, 1, [], [(0, 0)])   := rfl
theorem k_106_63 : am_cd 106 63 = some (.istore_n 2, 1, [], [])   := rfl
theorem k_106_64 : am_cd 106 64 = some (.iload_n 2, 1, [], [])   := rfl
theorem k_106_65 : am_cd 106 65 = some (.ifCond .ne 5, 3, [70], [])   := rfl
theorem k_106_68 : am_cd 106 68 = some (.iconst 0, 1, [], [(0, 0)])   := rfl
theorem k_106_69 : am_cd 106 69 = some (.ireturn, 1, [], [])   := rfl
theorem k_106_70 : am_cd 106 70 = some (.aload_n 0, 1, [], [])   := rfl
theorem k_106_71 : am_cd 106 71 = some (.getfield 93, 3, [9, 39, 2], [(0, 743)])   := rfl
theorem k_106_74 : am_cd 106 74 = some (.iload_n 1, 1, [], [])   := rfl
theorem k_106_75 : am_cd 106 75 = some (.dup2, 1, [], [])   := rfl
theorem k_106_76 : am_cd 106 76 = some (.iaload, 1, [], [])   := rfl
theorem k_106_77 : am_cd 106 77 = some (.iconst 1, 1, [], [(1, 0)])   := rfl
theorem k_106_78 : am_cd 106 78 = some (.iadd, 1, [], [])   := rfl
theorem k_106_79 : am_cd 106 79 = some (.iastore, 1, [], [])   := rfl
theorem k_106_80 : am_cd 106 80 = some (.aload_n 0, 1, [], [])   := rfl
theorem k_106_81 : am_cd 106 81 = some (.getfield 93, 3, [9, 39, 2], [(0, 743)])   := rfl
theorem k_106_84 : am_cd 106 84 = some (.iload_n 1, 1, [], [])   := rfl
theorem k_106_85 : am_cd 106 85 = some (.iaload, 1, [], [])   := rfl
theorem k_106_86 : am_cd 106 86 = some (.aload_n 0, 1, [], [])   := rfl
theorem k_106_87 : am_cd 106 87 = some (.getfield 90, 3, [9, 38, 2], [(0, 742)])   := rfl
theorem k_106_90 : am_cd 106 90 = some (.iload_n 1, 1, [], [])   := rfl
theorem k_106_91 : am_cd 106 91 = some (.iaload, 1, [], [])   := rfl
theorem k_106_92 : am_cd 106 92 = some (.if_icmp .gt 5, 3, [97], [])   := rfl
theorem k_106_95 : am_cd 106 95 = some (.iconst 0, 1, [], [(0, 0)])   := rfl
theorem k_106_96 : am_cd 106 96 = some (.ireturn, 1, [], [])   := rfl
theorem k_106_97 : am_cd 106 97 = some (.aload_n 0, 1, [], [])   := rfl
theorem k_106_98 : am_cd 106 98 = some (.getfield 87, 3, [9, 37, 2], [(0, 741)])   := rfl
theorem k_106_101 : am_cd 106 101 = some (.iload_n 1, 1, [], [])   := rfl
theorem k_106_102 : am_cd 106 102 = some (.baload, 1, [], [])   := rfl
theorem k_106_103 : am_cd 106 103 = some (.ifCond .eq 26, 3, [129], [])   := rfl
theorem k_106_106 : am_cd 106 106 = some (.aload_n 0, 1, [], [])   := rfl
theorem k_106_107 : am_cd 106 107 = some (.getfield 99, 3, [9, 43, 2], [(0, 747)])   := rfl
theorem k_106_110 : am_cd 106 110 = some (.aload_n 0, 1, [], [])   := rfl
theorem k_106_111 : am_cd 106 111 = some (.getfield 176, 3, [9, 42, 0], [(0, 746)])   := rfl
theorem k_106_114 : am_cd 106 114 = some (.bipush 16, 2, [], [(16, 0)])   := rfl
theorem k_106_116 : am_cd 106 116 = some (.irem, 1, [], [])   := rfl
theorem k_106_117 : am_cd 106 117 = some (.iload_n 2, 1, [], [])   := rfl
theorem k_106_118 : am_cd 106 118 = some (.iastore, 1, [], [])   := rfl
theorem k_106_119 : am_cd 106 119 = some (.aload_n 0, 1, [], [])   := rfl
theorem k_106_120 : am_cd 106 120 = some (.dup, 1, [], [])   := rfl
theorem k_106_121 : am_cd 106 121 = some (.getfield 176, 3, [9, 42, 0], [(0, 746)])   := rfl
theorem k_106_124 : am_cd 106 124 = some (.iconst 1, 1, [], [(1, 0)])   := rfl
theorem k_106_125 : am_cd 106 125 = some (.iadd, 1, [], [])   := rfl
theorem k_106_126 : am_cd 106 126 = some (.putfield 176, 3, [9, 42, 0], [(0, 746)])   := rfl
theorem k_106_129 : am_cd 106 129 = some (.aload_n 0, 1, [], [])   := rfl
theorem k_106_130 : am_cd 106 130 = some (.getfield 87, 3, [9, 37, 2], [(0, 741)])   := rfl
theorem k_106_133 : am_cd 106 133 = some (.iload_n 1, 1, [], [])   := rfl
theorem k_106_134 : am_cd 106 134 = some (.baload, 1, [], [])   := rfl
theorem k_106_135 : am_cd 106 135 = some (.ifCond .ne 7, 3, [142], [])   := rfl
theorem k_106_138 : am_cd 106 138 = some (.iconst 1, 1, [], [(1, 0)])   := rfl
theorem k_106_139 : am_cd 106 139 = some (.goto 4, 3, [143], [])   := rfl
theorem k_106_142 : am_cd 106 142 = some (.iconst 0, 1, [], [(0, 0)])   := rfl
theorem k_106_143 : am_cd 106 143 = some (.ireturn, 1, [], [])   := rfl
theorem e_106_0 {x : Option Nat} {a1 a2 a3 : Option AV} : X xs L d 106 (0, [some (.inr x), a1, a2, a3], sk, h) res ↔ X xs L d 106 (1, [some (.inr x), a1, a2, a3], .inr x :: sk, h) res := i_aload_n k_106_0 rfl
theorem e_106_1 {o : Nat} : X xs L d 106 (1, lo, .inr (some o) :: sk, h) res ↔ hK h o = 9 ∧ X xs L d 106 (4, lo, .inr (hR h o 9) :: sk, h) res := i_getR k_106_1
theorem e_106_4 {x : Option Nat} {a1 a2 a3 : Option AV} : X xs L d 106 (4, [some (.inr x), a1, a2, a3], sk, h) res ↔ X xs L d 106 (5, [some (.inr x), a1, a2, a3], .inr x :: sk, h) res := i_aload_n k_106_4 rfl
theorem e_106_5 {o : Nat} : X xs L d 106 (5, lo, .inr (some o) :: sk, h) res ↔ hK h o = 9 ∧ X xs L d 106 (8, lo, .inr (hR h o 19) :: sk, h) res := i_getR k_106_5
theorem e_106_8 {x : Option Nat} {a1 a2 a3 : Option AV} : X xs L d 106 (8, [some (.inr x), a1, a2, a3], sk, h) res ↔ X xs L d 106 (9, [some (.inr x), a1, a2, a3], .inr x :: sk, h) res := i_aload_n k_106_8 rfl
theorem e_106_9 : X xs L d 106 (9, lo, sk, h) res ↔ X xs L d 106 (10, lo, .inl 0 :: sk, h) res := i_iconst k_106_9
theorem e_106_10 {o : Nat} {v0 : Int32} (hs : sk.length ≤ 8) : X xs L d 106 (10, lo, .inl v0 :: .inr (some o) :: sk, h) res ↔ hK h o = 9 ∧ ∃ q : Res, Rn xs L d 90 [.inr (some o), .inl v0] h q ∧ X xs L d 106 (13, lo, q.1.toList ++ sk, q.2) res := i_callV k_106_10 rfl ⟨Nat.le_add_left 2 sk.length, Nat.le_trans (Nat.add_le_add_right hs 2) (Nat.le_of_eq (Nat.add_comm 8 2))⟩
theorem e_106_13 {o : Nat} {i : Int32} : X xs L d 106 (13, lo, .inl i :: .inr (some o) :: sk, h) res ↔ (hK h o = 20 ∧ vp_in i (hL h o)) ∧ X xs L d 106 (14, lo, .inl (hI h o i.toNatClampNeg) :: sk, h) res := i_iaload k_106_13
theorem e_106_14 {o : Nat} {i : Int32} : X xs L d 106 (14, lo, .inl i :: .inr (some o) :: sk, h) res ↔ (hK h o = 20 ∧ vp_in i (hL h o)) ∧ X xs L d 106 (15, lo, .inl (hI h o i.toNatClampNeg) :: sk, h) res := i_iaload k_106_14
theorem e_106_15 {x : Int32} {a0 a1 a2 a3 : Option AV} : X xs L d 106 (15, [a0, a1, a2, a3], .inl x :: sk, h) res ↔ X xs L d 106 (16, [a0, some (.inl x), a2, a3], sk, h) res := i_istore_n k_106_15 (Nat.le_of_ble_eq_true rfl) rfl
theorem e_106_16 {x : Option Nat} {a1 a2 a3 : Option AV} : X xs L d 106 (16, [some (.inr x), a1, a2, a3], sk, h) res ↔ X xs L d 106 (17, [some (.inr x), a1, a2, a3], .inr x :: sk, h) res := i_aload_n k_106_16 rfl
theorem e_106_17 {o : Nat} : X xs L d 106 (17, lo, .inr (some o) :: sk, h) res ↔ hK h o = 9 ∧ X xs L d 106 (20, lo, .inr (hR h o 35) :: sk, h) res := i_getR k_106_17
theorem e_106_20 {x : Int32} {a0 a2 a3 : Option AV} : X xs L d 106 (20, [a0, some (.inl x), a2, a3], sk, h) res ↔ X xs L d 106 (21, [a0, some (.inl x), a2, a3], .inl x :: sk, h) res := i_iload_n k_106_20 rfl
theorem e_106_21 {o : Nat} {i : Int32} : X xs L d 106 (21, lo, .inl i :: .inr (some o) :: sk, h) res ↔ (hK h o = 22 ∧ vp_in i (hL h o)) ∧ X xs L d 106 (22, lo, .inl (hI h o i.toNatClampNeg) :: sk, h) res := i_baload k_106_21
theorem e_106_22 {x : Int32} : X xs L d 106 (22, lo, .inl x :: sk, h) res ↔ (if x = 0 then X xs L d 106 (25, lo, sk, h) res else X xs L d 106 (27, lo, sk, h) res) := i_if_ne k_106_22
theorem e_106_25 : X xs L d 106 (25, lo, sk, h) res ↔ X xs L d 106 (26, lo, .inl 0 :: sk, h) res := i_iconst k_106_25
theorem e_106_26 {v : Int32} : X xs L d 106 (26, lo, [.inl v], h) res ↔ (v = 0 ∨ v = 1) ∧ res = (some (.inl v), h) := i_zret k_106_26 rfl
theorem e_106_27 : X xs L d 106 (27, lo, sk, h) res ↔ X xs L d 106 (28, lo, .inl 0 :: sk, h) res := i_iconst k_106_27
theorem e_106_28 {x : Int32} {a0 a1 a2 a3 : Option AV} : X xs L d 106 (28, [a0, a1, a2, a3], .inl x :: sk, h) res ↔ X xs L d 106 (29, [a0, a1, some (.inl x), a3], sk, h) res := i_istore_n k_106_28 (Nat.le_of_ble_eq_true rfl) rfl
theorem e_106_29 {x : Option Nat} {a1 a2 a3 : Option AV} : X xs L d 106 (29, [some (.inr x), a1, a2, a3], sk, h) res ↔ X xs L d 106 (30, [some (.inr x), a1, a2, a3], .inr x :: sk, h) res := i_aload_n k_106_29 rfl
theorem e_106_30 {o : Nat} : X xs L d 106 (30, lo, .inr (some o) :: sk, h) res ↔ hK h o = 9 ∧ X xs L d 106 (33, lo, .inr (hR h o 36) :: sk, h) res := i_getR k_106_30
theorem e_106_33 {x : Int32} {a0 a2 a3 : Option AV} : X xs L d 106 (33, [a0, some (.inl x), a2, a3], sk, h) res ↔ X xs L d 106 (34, [a0, some (.inl x), a2, a3], .inl x :: sk, h) res := i_iload_n k_106_33 rfl
theorem e_106_34 {o : Nat} {i : Int32} : X xs L d 106 (34, lo, .inl i :: .inr (some o) :: sk, h) res ↔ (hK h o = 22 ∧ vp_in i (hL h o)) ∧ X xs L d 106 (35, lo, .inl (hI h o i.toNatClampNeg) :: sk, h) res := i_baload k_106_34
theorem e_106_35 {x : Int32} : X xs L d 106 (35, lo, .inl x :: sk, h) res ↔ (if x = 0 then X xs L d 106 (70, lo, sk, h) res else X xs L d 106 (38, lo, sk, h) res) := i_if_eq k_106_35
theorem e_106_38 {x : Option Nat} {a1 a2 a3 : Option AV} : X xs L d 106 (38, [some (.inr x), a1, a2, a3], sk, h) res ↔ X xs L d 106 (39, [some (.inr x), a1, a2, a3], .inr x :: sk, h) res := i_aload_n k_106_38 rfl
theorem e_106_39 : X xs L d 106 (39, lo, sk, h) res ↔ X xs L d 106 (40, lo, .inl 1 :: sk, h) res := i_iconst k_106_39
theorem e_106_40 {x : Int32} {a0 a2 a3 : Option AV} : X xs L d 106 (40, [a0, some (.inl x), a2, a3], sk, h) res ↔ X xs L d 106 (41, [a0, some (.inl x), a2, a3], .inl x :: sk, h) res := i_iload_n k_106_40 rfl
theorem e_106_41 {x y : Int32} : X xs L d 106 (41, lo, .inl y :: .inl x :: sk, h) res ↔ X xs L d 106 (42, lo, .inl (x + y) :: sk, h) res := i_iadd k_106_41
theorem e_106_42 {x : Option Nat} {a1 a2 a3 : Option AV} : X xs L d 106 (42, [some (.inr x), a1, a2, a3], sk, h) res ↔ X xs L d 106 (43, [some (.inr x), a1, a2, a3], .inr x :: sk, h) res := i_aload_n k_106_42 rfl
theorem e_106_43 : X xs L d 106 (43, lo, sk, h) res ↔ X xs L d 106 (44, lo, .inl 0 :: sk, h) res := i_iconst k_106_43
theorem e_106_44 {o : Nat} {v0 : Int32} (hs : sk.length ≤ 8) : X xs L d 106 (44, lo, .inl v0 :: .inr (some o) :: sk, h) res ↔ hK h o = 9 ∧ ∃ q : Res, Rn xs L d 90 [.inr (some o), .inl v0] h q ∧ X xs L d 106 (47, lo, q.1.toList ++ sk, q.2) res := i_callV k_106_44 rfl ⟨Nat.le_add_left 2 sk.length, Nat.le_trans (Nat.add_le_add_right hs 2) (Nat.le_of_eq (Nat.add_comm 8 2))⟩
theorem e_106_47 {o : Nat} {v0 : Int32} {v1 : Int32} (hs : sk.length ≤ 8) : X xs L d 106 (47, lo, .inl v1 :: .inl v0 :: .inr (some o) :: sk, h) res ↔ hK h o = 9 ∧ ∃ q : Res, Rn xs L d 105 [.inr (some o), .inl v0, .inl v1] h q ∧ X xs L d 106 (50, lo, q.1.toList ++ sk, q.2) res := i_callV k_106_47 rfl ⟨Nat.le_add_left 3 sk.length, Nat.le_trans (Nat.add_le_add_right hs 3) (Nat.le_of_eq (Nat.add_comm 8 3))⟩
theorem e_106_50 {x : Int32} {a0 a1 a2 a3 : Option AV} : X xs L d 106 (50, [a0, a1, a2, a3], .inl x :: sk, h) res ↔ X xs L d 106 (51, [a0, a1, a2, some (.inl x)], sk, h) res := i_istore_n k_106_50 (Nat.le_of_ble_eq_true rfl) rfl
theorem e_106_51 {x : Int32} {a0 a1 a2 : Option AV} : X xs L d 106 (51, [a0, a1, a2, some (.inl x)], sk, h) res ↔ X xs L d 106 (52, [a0, a1, a2, some (.inl x)], .inl x :: sk, h) res := i_iload_n k_106_51 rfl
theorem e_106_52 {x : Int32} : X xs L d 106 (52, lo, .inl x :: sk, h) res ↔ (if x = 0 then X xs L d 106 (55, lo, sk, h) res else X xs L d 106 (62, lo, sk, h) res) := i_if_ne k_106_52
theorem e_106_55 {x : Option Nat} {a1 a2 a3 : Option AV} : X xs L d 106 (55, [some (.inr x), a1, a2, a3], sk, h) res ↔ X xs L d 106 (56, [some (.inr x), a1, a2, a3], .inr x :: sk, h) res := i_aload_n k_106_55 rfl
theorem e_106_56 {o : Nat} : X xs L d 106 (56, lo, .inr (some o) :: sk, h) res ↔ hK h o = 9 ∧ X xs L d 106 (59, lo, .inl (hI h o 28) :: sk, h) res := i_getI k_106_56
theorem e_106_59 : X xs L d 106 (59, lo, sk, h) res ↔ X xs L d 106 (63, lo, sk, h) res := i_goto k_106_59
theorem e_106_62 : X xs L d 106 (62, lo, sk, h) res ↔ X xs L d 106 (63, lo, .inl 0 :: sk, h) res := i_iconst k_106_62
theorem e_106_63 {x : Int32} {a0 a1 a2 a3 : Option AV} : X xs L d 106 (63, [a0, a1, a2, a3], .inl x :: sk, h) res ↔ X xs L d 106 (64, [a0, a1, some (.inl x), a3], sk, h) res := i_istore_n k_106_63 (Nat.le_of_ble_eq_true rfl) rfl
theorem e_106_64 {x : Int32} {a0 a1 a3 : Option AV} : X xs L d 106 (64, [a0, a1, some (.inl x), a3], sk, h) res ↔ X xs L d 106 (65, [a0, a1, some (.inl x), a3], .inl x :: sk, h) res := i_iload_n k_106_64 rfl
theorem e_106_65 {x : Int32} : X xs L d 106 (65, lo, .inl x :: sk, h) res ↔ (if x = 0 then X xs L d 106 (68, lo, sk, h) res else X xs L d 106 (70, lo, sk, h) res) := i_if_ne k_106_65
theorem e_106_68 : X xs L d 106 (68, lo, sk, h) res ↔ X xs L d 106 (69, lo, .inl 0 :: sk, h) res := i_iconst k_106_68
theorem e_106_69 {v : Int32} : X xs L d 106 (69, lo, [.inl v], h) res ↔ (v = 0 ∨ v = 1) ∧ res = (some (.inl v), h) := i_zret k_106_69 rfl
theorem e_106_70 {x : Option Nat} {a1 a2 a3 : Option AV} : X xs L d 106 (70, [some (.inr x), a1, a2, a3], sk, h) res ↔ X xs L d 106 (71, [some (.inr x), a1, a2, a3], .inr x :: sk, h) res := i_aload_n k_106_70 rfl
theorem e_106_71 {o : Nat} : X xs L d 106 (71, lo, .inr (some o) :: sk, h) res ↔ hK h o = 9 ∧ X xs L d 106 (74, lo, .inr (hR h o 39) :: sk, h) res := i_getR k_106_71
theorem e_106_74 {x : Int32} {a0 a2 a3 : Option AV} : X xs L d 106 (74, [a0, some (.inl x), a2, a3], sk, h) res ↔ X xs L d 106 (75, [a0, some (.inl x), a2, a3], .inl x :: sk, h) res := i_iload_n k_106_74 rfl
theorem e_106_75 {v w : AV} : X xs L d 106 (75, lo, v :: w :: sk, h) res ↔ X xs L d 106 (76, lo, v :: w :: v :: w :: sk, h) res := i_dup2 k_106_75
theorem e_106_76 {o : Nat} {i : Int32} : X xs L d 106 (76, lo, .inl i :: .inr (some o) :: sk, h) res ↔ (hK h o = 20 ∧ vp_in i (hL h o)) ∧ X xs L d 106 (77, lo, .inl (hI h o i.toNatClampNeg) :: sk, h) res := i_iaload k_106_76
theorem e_106_77 : X xs L d 106 (77, lo, sk, h) res ↔ X xs L d 106 (78, lo, .inl 1 :: sk, h) res := i_iconst k_106_77
theorem e_106_78 {x y : Int32} : X xs L d 106 (78, lo, .inl y :: .inl x :: sk, h) res ↔ X xs L d 106 (79, lo, .inl (x + y) :: sk, h) res := i_iadd k_106_78
theorem e_106_79 {o : Nat} {i v : Int32} : X xs L d 106 (79, lo, .inl v :: .inl i :: .inr (some o) :: sk, h) res ↔ (hK h o = 20 ∧ vp_in i (hL h o)) ∧ X xs L d 106 (80, lo, sk, sI h o i.toNatClampNeg (v)) res := i_iastore k_106_79
theorem e_106_80 {x : Option Nat} {a1 a2 a3 : Option AV} : X xs L d 106 (80, [some (.inr x), a1, a2, a3], sk, h) res ↔ X xs L d 106 (81, [some (.inr x), a1, a2, a3], .inr x :: sk, h) res := i_aload_n k_106_80 rfl
theorem e_106_81 {o : Nat} : X xs L d 106 (81, lo, .inr (some o) :: sk, h) res ↔ hK h o = 9 ∧ X xs L d 106 (84, lo, .inr (hR h o 39) :: sk, h) res := i_getR k_106_81
theorem e_106_84 {x : Int32} {a0 a2 a3 : Option AV} : X xs L d 106 (84, [a0, some (.inl x), a2, a3], sk, h) res ↔ X xs L d 106 (85, [a0, some (.inl x), a2, a3], .inl x :: sk, h) res := i_iload_n k_106_84 rfl
theorem e_106_85 {o : Nat} {i : Int32} : X xs L d 106 (85, lo, .inl i :: .inr (some o) :: sk, h) res ↔ (hK h o = 20 ∧ vp_in i (hL h o)) ∧ X xs L d 106 (86, lo, .inl (hI h o i.toNatClampNeg) :: sk, h) res := i_iaload k_106_85
theorem e_106_86 {x : Option Nat} {a1 a2 a3 : Option AV} : X xs L d 106 (86, [some (.inr x), a1, a2, a3], sk, h) res ↔ X xs L d 106 (87, [some (.inr x), a1, a2, a3], .inr x :: sk, h) res := i_aload_n k_106_86 rfl
theorem e_106_87 {o : Nat} : X xs L d 106 (87, lo, .inr (some o) :: sk, h) res ↔ hK h o = 9 ∧ X xs L d 106 (90, lo, .inr (hR h o 38) :: sk, h) res := i_getR k_106_87
theorem e_106_90 {x : Int32} {a0 a2 a3 : Option AV} : X xs L d 106 (90, [a0, some (.inl x), a2, a3], sk, h) res ↔ X xs L d 106 (91, [a0, some (.inl x), a2, a3], .inl x :: sk, h) res := i_iload_n k_106_90 rfl
theorem e_106_91 {o : Nat} {i : Int32} : X xs L d 106 (91, lo, .inl i :: .inr (some o) :: sk, h) res ↔ (hK h o = 20 ∧ vp_in i (hL h o)) ∧ X xs L d 106 (92, lo, .inl (hI h o i.toNatClampNeg) :: sk, h) res := i_iaload k_106_91
theorem e_106_92 {x y : Int32} : X xs L d 106 (92, lo, .inl y :: .inl x :: sk, h) res ↔ (if y < x then X xs L d 106 (97, lo, sk, h) res else X xs L d 106 (95, lo, sk, h) res) := i_icmp_gt k_106_92
theorem e_106_95 : X xs L d 106 (95, lo, sk, h) res ↔ X xs L d 106 (96, lo, .inl 0 :: sk, h) res := i_iconst k_106_95
theorem e_106_96 {v : Int32} : X xs L d 106 (96, lo, [.inl v], h) res ↔ (v = 0 ∨ v = 1) ∧ res = (some (.inl v), h) := i_zret k_106_96 rfl
theorem e_106_97 {x : Option Nat} {a1 a2 a3 : Option AV} : X xs L d 106 (97, [some (.inr x), a1, a2, a3], sk, h) res ↔ X xs L d 106 (98, [some (.inr x), a1, a2, a3], .inr x :: sk, h) res := i_aload_n k_106_97 rfl
theorem e_106_98 {o : Nat} : X xs L d 106 (98, lo, .inr (some o) :: sk, h) res ↔ hK h o = 9 ∧ X xs L d 106 (101, lo, .inr (hR h o 37) :: sk, h) res := i_getR k_106_98
theorem e_106_101 {x : Int32} {a0 a2 a3 : Option AV} : X xs L d 106 (101, [a0, some (.inl x), a2, a3], sk, h) res ↔ X xs L d 106 (102, [a0, some (.inl x), a2, a3], .inl x :: sk, h) res := i_iload_n k_106_101 rfl
theorem e_106_102 {o : Nat} {i : Int32} : X xs L d 106 (102, lo, .inl i :: .inr (some o) :: sk, h) res ↔ (hK h o = 22 ∧ vp_in i (hL h o)) ∧ X xs L d 106 (103, lo, .inl (hI h o i.toNatClampNeg) :: sk, h) res := i_baload k_106_102
theorem e_106_103 {x : Int32} : X xs L d 106 (103, lo, .inl x :: sk, h) res ↔ (if x = 0 then X xs L d 106 (129, lo, sk, h) res else X xs L d 106 (106, lo, sk, h) res) := i_if_eq k_106_103
theorem e_106_106 {x : Option Nat} {a1 a2 a3 : Option AV} : X xs L d 106 (106, [some (.inr x), a1, a2, a3], sk, h) res ↔ X xs L d 106 (107, [some (.inr x), a1, a2, a3], .inr x :: sk, h) res := i_aload_n k_106_106 rfl
theorem e_106_107 {o : Nat} : X xs L d 106 (107, lo, .inr (some o) :: sk, h) res ↔ hK h o = 9 ∧ X xs L d 106 (110, lo, .inr (hR h o 43) :: sk, h) res := i_getR k_106_107
theorem e_106_110 {x : Option Nat} {a1 a2 a3 : Option AV} : X xs L d 106 (110, [some (.inr x), a1, a2, a3], sk, h) res ↔ X xs L d 106 (111, [some (.inr x), a1, a2, a3], .inr x :: sk, h) res := i_aload_n k_106_110 rfl
theorem e_106_111 {o : Nat} : X xs L d 106 (111, lo, .inr (some o) :: sk, h) res ↔ hK h o = 9 ∧ X xs L d 106 (114, lo, .inl (hI h o 42) :: sk, h) res := i_getI k_106_111
theorem e_106_114 : X xs L d 106 (114, lo, sk, h) res ↔ X xs L d 106 (116, lo, .inl 16 :: sk, h) res := i_bipush k_106_114
theorem e_106_116 {x y : Int32} : X xs L d 106 (116, lo, .inl y :: .inl x :: sk, h) res ↔ (¬ y = 0) ∧ X xs L d 106 (117, lo, .inl (x - x / y * y) :: sk, h) res := i_irem k_106_116
theorem e_106_117 {x : Int32} {a0 a1 a3 : Option AV} : X xs L d 106 (117, [a0, a1, some (.inl x), a3], sk, h) res ↔ X xs L d 106 (118, [a0, a1, some (.inl x), a3], .inl x :: sk, h) res := i_iload_n k_106_117 rfl
theorem e_106_118 {o : Nat} {i v : Int32} : X xs L d 106 (118, lo, .inl v :: .inl i :: .inr (some o) :: sk, h) res ↔ (hK h o = 20 ∧ vp_in i (hL h o)) ∧ X xs L d 106 (119, lo, sk, sI h o i.toNatClampNeg (v)) res := i_iastore k_106_118
theorem e_106_119 {x : Option Nat} {a1 a2 a3 : Option AV} : X xs L d 106 (119, [some (.inr x), a1, a2, a3], sk, h) res ↔ X xs L d 106 (120, [some (.inr x), a1, a2, a3], .inr x :: sk, h) res := i_aload_n k_106_119 rfl
theorem e_106_120 {v : AV} : X xs L d 106 (120, lo, v :: sk, h) res ↔ X xs L d 106 (121, lo, v :: v :: sk, h) res := i_dup k_106_120
theorem e_106_121 {o : Nat} : X xs L d 106 (121, lo, .inr (some o) :: sk, h) res ↔ hK h o = 9 ∧ X xs L d 106 (124, lo, .inl (hI h o 42) :: sk, h) res := i_getI k_106_121
theorem e_106_124 : X xs L d 106 (124, lo, sk, h) res ↔ X xs L d 106 (125, lo, .inl 1 :: sk, h) res := i_iconst k_106_124
theorem e_106_125 {x y : Int32} : X xs L d 106 (125, lo, .inl y :: .inl x :: sk, h) res ↔ X xs L d 106 (126, lo, .inl (x + y) :: sk, h) res := i_iadd k_106_125
theorem e_106_126 {o : Nat} {v : Int32} : X xs L d 106 (126, lo, .inl v :: .inr (some o) :: sk, h) res ↔ hK h o = 9 ∧ X xs L d 106 (129, lo, sk, sI h o 42 v) res := i_putI k_106_126
theorem e_106_129 {x : Option Nat} {a1 a2 a3 : Option AV} : X xs L d 106 (129, [some (.inr x), a1, a2, a3], sk, h) res ↔ X xs L d 106 (130, [some (.inr x), a1, a2, a3], .inr x :: sk, h) res := i_aload_n k_106_129 rfl
theorem e_106_130 {o : Nat} : X xs L d 106 (130, lo, .inr (some o) :: sk, h) res ↔ hK h o = 9 ∧ X xs L d 106 (133, lo, .inr (hR h o 37) :: sk, h) res := i_getR k_106_130
theorem e_106_133 {x : Int32} {a0 a2 a3 : Option AV} : X xs L d 106 (133, [a0, some (.inl x), a2, a3], sk, h) res ↔ X xs L d 106 (134, [a0, some (.inl x), a2, a3], .inl x :: sk, h) res := i_iload_n k_106_133 rfl
theorem e_106_134 {o : Nat} {i : Int32} : X xs L d 106 (134, lo, .inl i :: .inr (some o) :: sk, h) res ↔ (hK h o = 22 ∧ vp_in i (hL h o)) ∧ X xs L d 106 (135, lo, .inl (hI h o i.toNatClampNeg) :: sk, h) res := i_baload k_106_134
theorem e_106_135 {x : Int32} : X xs L d 106 (135, lo, .inl x :: sk, h) res ↔ (if x = 0 then X xs L d 106 (138, lo, sk, h) res else X xs L d 106 (142, lo, sk, h) res) := i_if_ne k_106_135
theorem e_106_138 : X xs L d 106 (138, lo, sk, h) res ↔ X xs L d 106 (139, lo, .inl 1 :: sk, h) res := i_iconst k_106_138
theorem e_106_139 : X xs L d 106 (139, lo, sk, h) res ↔ X xs L d 106 (143, lo, sk, h) res := i_goto k_106_139
theorem e_106_142 : X xs L d 106 (142, lo, sk, h) res ↔ X xs L d 106 (143, lo, .inl 0 :: sk, h) res := i_iconst k_106_142
theorem e_106_143 {v : Int32} : X xs L d 106 (143, lo, [.inl v], h) res ↔ (v = 0 ∨ v = 1) ∧ res = (some (.inl v), h) := i_zret k_106_143 rfl
theorem k_107_0 : am_cd 107 0 = some (.iload_n 1, 1, [], [])   := rfl
theorem k_107_1 : am_cd 107 1 = some (.ifCond .lt 27, 3, [28], [])   := rfl
theorem k_107_4 : am_cd 107 4 = some (.iload_n 1, 1, [], [])   := rfl
theorem k_107_5 : am_cd 107 5 = some (.iconst 3, 1, [], [(3, 0)])   := rfl
theorem k_107_6 : am_cd 107 6 = some (.if_icmp .gt 22, 3, [28], [])   := rfl
theorem k_107_9 : am_cd 107 9 = some (.iload_n 2, 1, [], [])   := rfl
theorem k_107_10 : am_cd 107 10 = some (.iconst 1, 1, [], [(1, 0)])   := rfl
theorem k_107_11 : am_cd 107 11 = some (.if_icmp .lt 17, 3, [28], [])   := rfl
theorem k_107_14 : am_cd 107 14 = some (.iload_n 2, 1, [], [])   := rfl
theorem k_107_15 : am_cd 107 15 = some (.bipush 50, 2, [], [(50, 0)])   := rfl
theorem k_107_17 : am_cd 107 17 = some (.if_icmp .gt 11, 3, [28], [])   := rfl
theorem k_107_20 : am_cd 107 20 = some (.aload_n 0, 1, [], [])   := rfl
theorem k_107_21 : am_cd 107 21 = some (.getfield 158, 3, [9, 30, 0], [(0, 734)])   := rfl
theorem k_107_24 : am_cd 107 24 = some (.iconst 1, 1, [], [(1, 0)])   := rfl
theorem k_107_25 : am_cd 107 25 = some (.if_icmp .eq 5, 3, [30], [])   := rfl
theorem k_107_28 : am_cd 107 28 = some (.iconst (-1), 1, [], [(-1, 0)])   := rfl
theorem k_107_29 : am_cd 107 29 = some (.ireturn, 1, [], [])   := rfl
theorem k_107_30 : am_cd 107 30 = some (.aload_n 0, 1, [], [])   := rfl
theorem k_107_31 : am_cd 107 31 = some (.getfield 47, 3, [9, 16, 2], [(0, 720)])   := rfl
theorem k_107_34 : am_cd 107 34 = some (.iconst 0, 1, [], [(0, 0)])   := rfl
theorem k_107_35 : am_cd 107 35 = some (.iaload, 1, [], [])   := rfl
theorem k_107_36 : am_cd 107 36 = some (.istore_n 3, 1, [], [])   := rfl
theorem k_107_37 : am_cd 107 37 = some (.iconst 0, 1, [], [(0, 0)])   := rfl
theorem k_107_38 : am_cd 107 38 = some (.istore 4, 2, [], [])   := rfl
theorem k_107_40 : am_cd 107 40 = some (.iload 4, 2, [], [])   := rfl
theorem k_107_42 : am_cd 107 42 = some (.iload_n 2, 1, [], [])   := rfl
theorem k_107_43 : am_cd 107 43 = some (.if_icmp .ge 149, 3, [192], [])   := rfl
theorem k_107_46 : am_cd 107 46 = some (.aload_n 0, 1, [], [])   := rfl
theorem k_107_47 : am_cd 107 47 = some (.iconst 0, 1, [], [(0, 0)])   := rfl
theorem k_107_48 : am_cd 107 48 = some (.putfield 203, 3, [9, 29, 1], [(0, 733)])   := rfl
theorem k_107_51 : am_cd 107 51 = some (.aload_n 0, 1, [], [])   := rfl
theorem k_107_52 : am_cd 107 52 = some (.dup, 1, [], [])   := rfl
theorem k_107_53 : am_cd 107 53 = some (.getfield 164, 3, [9, 32, 0], [(0, 736)])   := rfl
theorem k_107_56 : am_cd 107 56 = some (.iconst 1, 1, [], [(1, 0)])   := rfl
theorem k_107_57 : am_cd 107 57 = some (.iadd, 1, [], [])   := rfl
theorem k_107_58 : am_cd 107 58 = some (.putfield 164, 3, [9, 32, 0], [(0, 736)])   := rfl
theorem k_107_61 : am_cd 107 61 = some (.aload_n 0, 1, [], [])   := rfl
theorem k_107_62 : am_cd 107 62 = some (.aload_n 0, 1, [], [])   := rfl
theorem k_107_63 : am_cd 107 63 = some (.iconst 0, 1, [], [(0, 0)])   := rfl
theorem k_107_64 : am_cd 107 64 = some (.invokevirtual 179, 3, [90, 2, 9], [(0, 898), (0, 900), (0, 38)])   := rfl
theorem k_107_67 : am_cd 107 67 = some (.invokevirtual 231, 3, [102, 2, 9], [(0, 949), (0, 951), (0, 49)])   := rfl
theorem k_107_70 : am_cd 107 70 = some (.aload_n 0, 1, [], [])   := rfl
theorem k_107_71 : am_cd 107 71 = some (.aload_n 0, 1, [], [])   := rfl
theorem k_107_72 : am_cd 107 72 = some (.iconst 0, 1, [], [(0, 0)])   := rfl
theorem k_107_73 : am_cd 107 73 = some (.invokevirtual 225, 3, [101, 2, 9], [(0, 902), (0, 904), (0, 39)])   := rfl
theorem k_107_76 : am_cd 107 76 = some (.invokevirtual 228, 3, [103, 2, 9], [(0, 941), (0, 943), (0, 48)])   := rfl
theorem k_107_79 : am_cd 107 79 = some (.aload_n 0, 1, [], [])   := rfl
theorem k_107_80 : am_cd 107 80 = some (.getfield 158, 3, [9, 30, 0], [(0, 734)])   := rfl
theorem k_107_83 : am_cd 107 83 = some (.iconst 1, 1, [], [(1, 0)])   := rfl
theorem k_107_84 : am_cd 107 84 = some (.if_icmp .eq 17, 3, [101], [])   := rfl
theorem k_107_87 : am_cd 107 87 = some (.aload_n 0, 1, [], [])   := rfl
theorem k_107_88 : am_cd 107 88 = some (.getfield 158, 3, [9, 30, 0], [(0, 734)])   := rfl
theorem k_107_91 : am_cd 107 91 = some (.iconst 3, 1, [], [(3, 0)])   := rfl
theorem k_107_92 : am_cd 107 92 = some (.if_icmp .ne 7, 3, [99], [])   := rfl
theorem k_107_95 : am_cd 107 95 = some (.iconst 5, 1, [], [(5, 0)])   := rfl
theorem k_107_96 : am_cd 107 96 = some (.goto 4, 3, [100], [])   := rfl
theorem k_107_99 : am_cd 107 99 = some (.iconst 4, 1, [], [(4, 0)])   := rfl
theorem k_107_100 : am_cd 107 100 = some (.ireturn, 1, [], [])   := rfl
theorem k_107_101 : am_cd 107 101 = some (.aload_n 0, 1, [], [])   := rfl
theorem k_107_102 : am_cd 107 102 = some (.invokevirtual 237, 3, [106, 1, 9], [(0, 953), (0, 955), (0, 50)])   := rfl
theorem k_107_105 : am_cd 107 105 = some (.istore 5, 2, [], [])   := rfl
theorem k_107_107 : am_cd 107 107 = some (.iload_n 1, 1, [], [])   := rfl
theorem k_107_108 : am_cd 107 108 = some (.iconst 1, 1, [], [(1, 0)])   := rfl
theorem k_107_109 : am_cd 107 109 = some (.if_icmp .eq 33, 3, [142], [])   := rfl
theorem k_107_112 : am_cd 107 112 = some (.iload_n 1, 1, [], [])   := rfl
theorem k_107_113 : am_cd 107 113 = some (.iconst 2, 1, [], [(2, 0)])   := rfl
theorem k_107_114 : am_cd 107 114 = some (.if_icmp .ne 13, 3, [127], [])   := rfl
theorem k_107_117 : am_cd 107 117 = some (.aload_n 0, 1, [], [])   := rfl
theorem k_107_118 : am_cd 107 118 = some (.getfield 47, 3, [9, 16, 2], [(0, 720)])   := rfl
theorem k_107_121 : am_cd 107 121 = some (.iconst 0, 1, [], [(0, 0)])   := rfl
theorem k_107_122 : am_cd 107 122 = some (.iaload, 1, [], [])   := rfl
theorem k_107_123 : am_cd 107 123 = some (.iload_n 3, 1, [], [])   := rfl
theorem k_107_124 : am_cd 107 124 = some (.if_icmp .le 18, 3, [142], [])   := rfl
theorem k_107_127 : am_cd 107 127 = some (.iload_n 1, 1, [], [])   := rfl
theorem k_107_128 : am_cd 107 128 = some (.iconst 3, 1, [], [(3, 0)])   := rfl
theorem k_107_129 : am_cd 107 129 = some (.if_icmp .ne 17, 3, [146], [])   := rfl
theorem k_107_132 : am_cd 107 132 = some (.aload_n 0, 1, [], [])   := rfl
theorem k_107_133 : am_cd 107 133 = some (.getfield 47, 3, [9, 16, 2], [(0, 720)])   := rfl
theorem k_107_136 : am_cd 107 136 = some (.iconst 0, 1, [], [(0, 0)])   := rfl
theorem k_107_137 : am_cd 107 137 = some (.iaload, 1, [], [])   := rfl
theorem k_107_138 : am_cd 107 138 = some (.iload_n 3, 1, [], [])   := rfl
theorem k_107_139 : am_cd 107 139 = some (.if_icmp .ge 7, 3, [146], [])   := rfl
theorem k_107_142 : am_cd 107 142 = some (.iconst 1, 1, [], [(1, 0)])   := rfl
theorem k_107_143 : am_cd 107 143 = some (.goto 4, 3, [147], [])   := rfl
theorem k_107_146 : am_cd 107 146 = some (.iconst 0, 1, [], [(0, 0)])   := rfl
theorem k_107_147 : am_cd 107 147 = some (.istore 6, 2, [], [])   := rfl
theorem k_107_149 : am_cd 107 149 = some (.aload_n 0, 1, [], [])   := rfl
theorem k_107_150 : am_cd 107 150 = some (.getfield 167, 3, [9, 33, 1], [(0, 737)])   := rfl
theorem k_107_153 : am_cd 107 153 = some (.ifCond .eq 12, 3, [165], [])   := rfl
theorem k_107_156 : am_cd 107 156 = some (.aload_n 0, 1, [], [])   := rfl
theorem k_107_157 : am_cd 107 157 = some (.getfield 203, 3, [9, 29, 1], [(0, 733)])   := rfl
theorem k_107_160 : am_cd 107 160 = some (.ifCond .eq 5, 3, [165], [])   := rfl
theorem k_107_163 : am_cd 107 163 = some (.iconst 3, 1, [], [(3, 0)])   := rfl
theorem k_107_164 : am_cd 107 164 = some (.ireturn, 1, [], [])   := rfl
theorem k_107_165 : am_cd 107 165 = some (.iload 5, 2, [], [])   := rfl
theorem k_107_167 : am_cd 107 167 = some (.ifCond .ne 8, 3, [175], [])   := rfl
theorem k_107_170 : am_cd 107 170 = some (.iload 6, 2, [], [])   := rfl
theorem k_107_172 : am_cd 107 172 = some (.ifCond .eq 14, 3, [186], [])   := rfl
theorem k_107_175 : am_cd 107 175 = some (.iload 5, 2, [], [])   := rfl
theorem k_107_177 : am_cd 107 177 = some (.ifCond .eq 7, 3, [184], [])   := rfl
theorem k_107_180 : am_cd 107 180 = some (.iconst 1, 1, [], [(1, 0)])   := rfl
theorem k_107_181 : am_cd 107 181 = some (.goto 4, 3, [185], [])   := rfl
theorem k_107_184 : am_cd 107 184 = some (.iconst 2, 1, [], [(2, 0)])   := rfl
theorem k_107_185 : am_cd 107 185 = some (.ireturn, 1, [], [])   := rfl
theorem k_107_186 : am_cd 107 186 = some (.iinc 4 1, 3, [], [(1, 0)])   := rfl
theorem k_107_189 : am_cd 107 189 = some (.goto (-149), 3, [40], [])   := rfl
theorem k_107_192 : am_cd 107 192 = some (.iconst 0, 1, [], [(0, 0)])   := rfl
theorem k_107_193 : am_cd 107 193 = some (.ireturn, 1, [], [])   := rfl
theorem e_107_0 {x : Int32} {a0 a2 a3 a4 a5 a6 : Option AV} : X xs L d 107 (0, [a0, some (.inl x), a2, a3, a4, a5, a6], sk, h) res ↔ X xs L d 107 (1, [a0, some (.inl x), a2, a3, a4, a5, a6], .inl x :: sk, h) res := i_iload_n k_107_0 rfl
theorem e_107_1 {x : Int32} : X xs L d 107 (1, lo, .inl x :: sk, h) res ↔ (if x < 0 then X xs L d 107 (28, lo, sk, h) res else X xs L d 107 (4, lo, sk, h) res) := i_if_lt k_107_1
theorem e_107_4 {x : Int32} {a0 a2 a3 a4 a5 a6 : Option AV} : X xs L d 107 (4, [a0, some (.inl x), a2, a3, a4, a5, a6], sk, h) res ↔ X xs L d 107 (5, [a0, some (.inl x), a2, a3, a4, a5, a6], .inl x :: sk, h) res := i_iload_n k_107_4 rfl
theorem e_107_5 : X xs L d 107 (5, lo, sk, h) res ↔ X xs L d 107 (6, lo, .inl 3 :: sk, h) res := i_iconst k_107_5
theorem e_107_6 {x y : Int32} : X xs L d 107 (6, lo, .inl y :: .inl x :: sk, h) res ↔ (if y < x then X xs L d 107 (28, lo, sk, h) res else X xs L d 107 (9, lo, sk, h) res) := i_icmp_gt k_107_6
theorem e_107_9 {x : Int32} {a0 a1 a3 a4 a5 a6 : Option AV} : X xs L d 107 (9, [a0, a1, some (.inl x), a3, a4, a5, a6], sk, h) res ↔ X xs L d 107 (10, [a0, a1, some (.inl x), a3, a4, a5, a6], .inl x :: sk, h) res := i_iload_n k_107_9 rfl
theorem e_107_10 : X xs L d 107 (10, lo, sk, h) res ↔ X xs L d 107 (11, lo, .inl 1 :: sk, h) res := i_iconst k_107_10
theorem e_107_11 {x y : Int32} : X xs L d 107 (11, lo, .inl y :: .inl x :: sk, h) res ↔ (if x < y then X xs L d 107 (28, lo, sk, h) res else X xs L d 107 (14, lo, sk, h) res) := i_icmp_lt k_107_11
theorem e_107_14 {x : Int32} {a0 a1 a3 a4 a5 a6 : Option AV} : X xs L d 107 (14, [a0, a1, some (.inl x), a3, a4, a5, a6], sk, h) res ↔ X xs L d 107 (15, [a0, a1, some (.inl x), a3, a4, a5, a6], .inl x :: sk, h) res := i_iload_n k_107_14 rfl
theorem e_107_15 : X xs L d 107 (15, lo, sk, h) res ↔ X xs L d 107 (17, lo, .inl 50 :: sk, h) res := i_bipush k_107_15
theorem e_107_17 {x y : Int32} : X xs L d 107 (17, lo, .inl y :: .inl x :: sk, h) res ↔ (if y < x then X xs L d 107 (28, lo, sk, h) res else X xs L d 107 (20, lo, sk, h) res) := i_icmp_gt k_107_17
theorem e_107_20 {x : Option Nat} {a1 a2 a3 a4 a5 a6 : Option AV} : X xs L d 107 (20, [some (.inr x), a1, a2, a3, a4, a5, a6], sk, h) res ↔ X xs L d 107 (21, [some (.inr x), a1, a2, a3, a4, a5, a6], .inr x :: sk, h) res := i_aload_n k_107_20 rfl
theorem e_107_21 {o : Nat} : X xs L d 107 (21, lo, .inr (some o) :: sk, h) res ↔ hK h o = 9 ∧ X xs L d 107 (24, lo, .inl (hI h o 30) :: sk, h) res := i_getI k_107_21
theorem e_107_24 : X xs L d 107 (24, lo, sk, h) res ↔ X xs L d 107 (25, lo, .inl 1 :: sk, h) res := i_iconst k_107_24
theorem e_107_25 {x y : Int32} : X xs L d 107 (25, lo, .inl y :: .inl x :: sk, h) res ↔ (if x = y then X xs L d 107 (30, lo, sk, h) res else X xs L d 107 (28, lo, sk, h) res) := i_icmp_eq k_107_25
theorem e_107_28 : X xs L d 107 (28, lo, sk, h) res ↔ X xs L d 107 (29, lo, .inl (-1) :: sk, h) res := i_iconst k_107_28
theorem e_107_29 {v : Int32} : X xs L d 107 (29, lo, [.inl v], h) res ↔ res = (some (.inl v), h) := i_iret k_107_29 rfl
theorem e_107_30 {x : Option Nat} {a1 a2 a3 a4 a5 a6 : Option AV} : X xs L d 107 (30, [some (.inr x), a1, a2, a3, a4, a5, a6], sk, h) res ↔ X xs L d 107 (31, [some (.inr x), a1, a2, a3, a4, a5, a6], .inr x :: sk, h) res := i_aload_n k_107_30 rfl
theorem e_107_31 {o : Nat} : X xs L d 107 (31, lo, .inr (some o) :: sk, h) res ↔ hK h o = 9 ∧ X xs L d 107 (34, lo, .inr (hR h o 16) :: sk, h) res := i_getR k_107_31
theorem e_107_34 : X xs L d 107 (34, lo, sk, h) res ↔ X xs L d 107 (35, lo, .inl 0 :: sk, h) res := i_iconst k_107_34
theorem e_107_35 {o : Nat} {i : Int32} : X xs L d 107 (35, lo, .inl i :: .inr (some o) :: sk, h) res ↔ (hK h o = 20 ∧ vp_in i (hL h o)) ∧ X xs L d 107 (36, lo, .inl (hI h o i.toNatClampNeg) :: sk, h) res := i_iaload k_107_35
theorem e_107_36 {x : Int32} {a0 a1 a2 a3 a4 a5 a6 : Option AV} : X xs L d 107 (36, [a0, a1, a2, a3, a4, a5, a6], .inl x :: sk, h) res ↔ X xs L d 107 (37, [a0, a1, a2, some (.inl x), a4, a5, a6], sk, h) res := i_istore_n k_107_36 (Nat.le_of_ble_eq_true rfl) rfl
theorem e_107_37 : X xs L d 107 (37, lo, sk, h) res ↔ X xs L d 107 (38, lo, .inl 0 :: sk, h) res := i_iconst k_107_37
theorem e_107_38 {x : Int32} {a0 a1 a2 a3 a4 a5 a6 : Option AV} : X xs L d 107 (38, [a0, a1, a2, a3, a4, a5, a6], .inl x :: sk, h) res ↔ X xs L d 107 (40, [a0, a1, a2, a3, some (.inl x), a5, a6], sk, h) res := i_istore k_107_38 (Nat.le_of_ble_eq_true rfl) rfl
theorem e_107_40 {x : Int32} {a0 a1 a2 a3 a5 a6 : Option AV} : X xs L d 107 (40, [a0, a1, a2, a3, some (.inl x), a5, a6], sk, h) res ↔ X xs L d 107 (42, [a0, a1, a2, a3, some (.inl x), a5, a6], .inl x :: sk, h) res := i_iload k_107_40 rfl
theorem e_107_42 {x : Int32} {a0 a1 a3 a4 a5 a6 : Option AV} : X xs L d 107 (42, [a0, a1, some (.inl x), a3, a4, a5, a6], sk, h) res ↔ X xs L d 107 (43, [a0, a1, some (.inl x), a3, a4, a5, a6], .inl x :: sk, h) res := i_iload_n k_107_42 rfl
theorem e_107_43 {x y : Int32} : X xs L d 107 (43, lo, .inl y :: .inl x :: sk, h) res ↔ (if y ≤ x then X xs L d 107 (192, lo, sk, h) res else X xs L d 107 (46, lo, sk, h) res) := i_icmp_ge k_107_43
theorem e_107_46 {x : Option Nat} {a1 a2 a3 a4 a5 a6 : Option AV} : X xs L d 107 (46, [some (.inr x), a1, a2, a3, a4, a5, a6], sk, h) res ↔ X xs L d 107 (47, [some (.inr x), a1, a2, a3, a4, a5, a6], .inr x :: sk, h) res := i_aload_n k_107_46 rfl
theorem e_107_47 : X xs L d 107 (47, lo, sk, h) res ↔ X xs L d 107 (48, lo, .inl 0 :: sk, h) res := i_iconst k_107_47
theorem e_107_48 {o : Nat} {v : Int32} : X xs L d 107 (48, lo, .inl v :: .inr (some o) :: sk, h) res ↔ (hK h o = 9 ∧ (v = 0 ∨ v = 1)) ∧ X xs L d 107 (51, lo, sk, sI h o 29 v) res := i_putZ k_107_48
theorem e_107_51 {x : Option Nat} {a1 a2 a3 a4 a5 a6 : Option AV} : X xs L d 107 (51, [some (.inr x), a1, a2, a3, a4, a5, a6], sk, h) res ↔ X xs L d 107 (52, [some (.inr x), a1, a2, a3, a4, a5, a6], .inr x :: sk, h) res := i_aload_n k_107_51 rfl
theorem e_107_52 {v : AV} : X xs L d 107 (52, lo, v :: sk, h) res ↔ X xs L d 107 (53, lo, v :: v :: sk, h) res := i_dup k_107_52
theorem e_107_53 {o : Nat} : X xs L d 107 (53, lo, .inr (some o) :: sk, h) res ↔ hK h o = 9 ∧ X xs L d 107 (56, lo, .inl (hI h o 32) :: sk, h) res := i_getI k_107_53
theorem e_107_56 : X xs L d 107 (56, lo, sk, h) res ↔ X xs L d 107 (57, lo, .inl 1 :: sk, h) res := i_iconst k_107_56
theorem e_107_57 {x y : Int32} : X xs L d 107 (57, lo, .inl y :: .inl x :: sk, h) res ↔ X xs L d 107 (58, lo, .inl (x + y) :: sk, h) res := i_iadd k_107_57
theorem e_107_58 {o : Nat} {v : Int32} : X xs L d 107 (58, lo, .inl v :: .inr (some o) :: sk, h) res ↔ hK h o = 9 ∧ X xs L d 107 (61, lo, sk, sI h o 32 v) res := i_putI k_107_58
theorem e_107_61 {x : Option Nat} {a1 a2 a3 a4 a5 a6 : Option AV} : X xs L d 107 (61, [some (.inr x), a1, a2, a3, a4, a5, a6], sk, h) res ↔ X xs L d 107 (62, [some (.inr x), a1, a2, a3, a4, a5, a6], .inr x :: sk, h) res := i_aload_n k_107_61 rfl
theorem e_107_62 {x : Option Nat} {a1 a2 a3 a4 a5 a6 : Option AV} : X xs L d 107 (62, [some (.inr x), a1, a2, a3, a4, a5, a6], sk, h) res ↔ X xs L d 107 (63, [some (.inr x), a1, a2, a3, a4, a5, a6], .inr x :: sk, h) res := i_aload_n k_107_62 rfl
theorem e_107_63 : X xs L d 107 (63, lo, sk, h) res ↔ X xs L d 107 (64, lo, .inl 0 :: sk, h) res := i_iconst k_107_63
theorem e_107_64 {o : Nat} {v0 : Int32} (hs : sk.length ≤ 8) : X xs L d 107 (64, lo, .inl v0 :: .inr (some o) :: sk, h) res ↔ hK h o = 9 ∧ ∃ q : Res, Rn xs L d 90 [.inr (some o), .inl v0] h q ∧ X xs L d 107 (67, lo, q.1.toList ++ sk, q.2) res := i_callV k_107_64 rfl ⟨Nat.le_add_left 2 sk.length, Nat.le_trans (Nat.add_le_add_right hs 2) (Nat.le_of_eq (Nat.add_comm 8 2))⟩
theorem e_107_67 {o : Nat} {v0 : Int32} (hs : sk.length ≤ 8) : X xs L d 107 (67, lo, .inl v0 :: .inr (some o) :: sk, h) res ↔ hK h o = 9 ∧ ∃ q : Res, Rn xs L d 102 [.inr (some o), .inl v0] h q ∧ X xs L d 107 (70, lo, q.1.toList ++ sk, q.2) res := i_callV k_107_67 rfl ⟨Nat.le_add_left 2 sk.length, Nat.le_trans (Nat.add_le_add_right hs 2) (Nat.le_of_eq (Nat.add_comm 8 2))⟩
theorem e_107_70 {x : Option Nat} {a1 a2 a3 a4 a5 a6 : Option AV} : X xs L d 107 (70, [some (.inr x), a1, a2, a3, a4, a5, a6], sk, h) res ↔ X xs L d 107 (71, [some (.inr x), a1, a2, a3, a4, a5, a6], .inr x :: sk, h) res := i_aload_n k_107_70 rfl
theorem e_107_71 {x : Option Nat} {a1 a2 a3 a4 a5 a6 : Option AV} : X xs L d 107 (71, [some (.inr x), a1, a2, a3, a4, a5, a6], sk, h) res ↔ X xs L d 107 (72, [some (.inr x), a1, a2, a3, a4, a5, a6], .inr x :: sk, h) res := i_aload_n k_107_71 rfl
theorem e_107_72 : X xs L d 107 (72, lo, sk, h) res ↔ X xs L d 107 (73, lo, .inl 0 :: sk, h) res := i_iconst k_107_72
theorem e_107_73 {o : Nat} {v0 : Int32} (hs : sk.length ≤ 8) : X xs L d 107 (73, lo, .inl v0 :: .inr (some o) :: sk, h) res ↔ hK h o = 9 ∧ ∃ q : Res, Rn xs L d 101 [.inr (some o), .inl v0] h q ∧ X xs L d 107 (76, lo, q.1.toList ++ sk, q.2) res := i_callV k_107_73 rfl ⟨Nat.le_add_left 2 sk.length, Nat.le_trans (Nat.add_le_add_right hs 2) (Nat.le_of_eq (Nat.add_comm 8 2))⟩
theorem e_107_76 {o : Nat} {v0 : Int32} (hs : sk.length ≤ 8) : X xs L d 107 (76, lo, .inl v0 :: .inr (some o) :: sk, h) res ↔ hK h o = 9 ∧ ∃ q : Res, Rn xs L d 103 [.inr (some o), .inl v0] h q ∧ X xs L d 107 (79, lo, q.1.toList ++ sk, q.2) res := i_callV k_107_76 rfl ⟨Nat.le_add_left 2 sk.length, Nat.le_trans (Nat.add_le_add_right hs 2) (Nat.le_of_eq (Nat.add_comm 8 2))⟩
theorem e_107_79 {x : Option Nat} {a1 a2 a3 a4 a5 a6 : Option AV} : X xs L d 107 (79, [some (.inr x), a1, a2, a3, a4, a5, a6], sk, h) res ↔ X xs L d 107 (80, [some (.inr x), a1, a2, a3, a4, a5, a6], .inr x :: sk, h) res := i_aload_n k_107_79 rfl
theorem e_107_80 {o : Nat} : X xs L d 107 (80, lo, .inr (some o) :: sk, h) res ↔ hK h o = 9 ∧ X xs L d 107 (83, lo, .inl (hI h o 30) :: sk, h) res := i_getI k_107_80
theorem e_107_83 : X xs L d 107 (83, lo, sk, h) res ↔ X xs L d 107 (84, lo, .inl 1 :: sk, h) res := i_iconst k_107_83
theorem e_107_84 {x y : Int32} : X xs L d 107 (84, lo, .inl y :: .inl x :: sk, h) res ↔ (if x = y then X xs L d 107 (101, lo, sk, h) res else X xs L d 107 (87, lo, sk, h) res) := i_icmp_eq k_107_84
theorem e_107_87 {x : Option Nat} {a1 a2 a3 a4 a5 a6 : Option AV} : X xs L d 107 (87, [some (.inr x), a1, a2, a3, a4, a5, a6], sk, h) res ↔ X xs L d 107 (88, [some (.inr x), a1, a2, a3, a4, a5, a6], .inr x :: sk, h) res := i_aload_n k_107_87 rfl
theorem e_107_88 {o : Nat} : X xs L d 107 (88, lo, .inr (some o) :: sk, h) res ↔ hK h o = 9 ∧ X xs L d 107 (91, lo, .inl (hI h o 30) :: sk, h) res := i_getI k_107_88
theorem e_107_91 : X xs L d 107 (91, lo, sk, h) res ↔ X xs L d 107 (92, lo, .inl 3 :: sk, h) res := i_iconst k_107_91
theorem e_107_92 {x y : Int32} : X xs L d 107 (92, lo, .inl y :: .inl x :: sk, h) res ↔ (if x = y then X xs L d 107 (95, lo, sk, h) res else X xs L d 107 (99, lo, sk, h) res) := i_icmp_ne k_107_92
theorem e_107_95 : X xs L d 107 (95, lo, sk, h) res ↔ X xs L d 107 (96, lo, .inl 5 :: sk, h) res := i_iconst k_107_95
theorem e_107_96 : X xs L d 107 (96, lo, sk, h) res ↔ X xs L d 107 (100, lo, sk, h) res := i_goto k_107_96
theorem e_107_99 : X xs L d 107 (99, lo, sk, h) res ↔ X xs L d 107 (100, lo, .inl 4 :: sk, h) res := i_iconst k_107_99
theorem e_107_100 {v : Int32} : X xs L d 107 (100, lo, [.inl v], h) res ↔ res = (some (.inl v), h) := i_iret k_107_100 rfl
theorem e_107_101 {x : Option Nat} {a1 a2 a3 a4 a5 a6 : Option AV} : X xs L d 107 (101, [some (.inr x), a1, a2, a3, a4, a5, a6], sk, h) res ↔ X xs L d 107 (102, [some (.inr x), a1, a2, a3, a4, a5, a6], .inr x :: sk, h) res := i_aload_n k_107_101 rfl
theorem e_107_102 {o : Nat} (hs : sk.length ≤ 8) : X xs L d 107 (102, lo, .inr (some o) :: sk, h) res ↔ hK h o = 9 ∧ ∃ q : Res, Rn xs L d 106 [.inr (some o)] h q ∧ X xs L d 107 (105, lo, q.1.toList ++ sk, q.2) res := i_callV k_107_102 rfl ⟨Nat.le_add_left 1 sk.length, Nat.le_trans (Nat.add_le_add_right hs 1) (Nat.le_of_eq (Nat.add_comm 8 1))⟩
theorem e_107_105 {x : Int32} {a0 a1 a2 a3 a4 a5 a6 : Option AV} : X xs L d 107 (105, [a0, a1, a2, a3, a4, a5, a6], .inl x :: sk, h) res ↔ X xs L d 107 (107, [a0, a1, a2, a3, a4, some (.inl x), a6], sk, h) res := i_istore k_107_105 (Nat.le_of_ble_eq_true rfl) rfl
theorem e_107_107 {x : Int32} {a0 a2 a3 a4 a5 a6 : Option AV} : X xs L d 107 (107, [a0, some (.inl x), a2, a3, a4, a5, a6], sk, h) res ↔ X xs L d 107 (108, [a0, some (.inl x), a2, a3, a4, a5, a6], .inl x :: sk, h) res := i_iload_n k_107_107 rfl
theorem e_107_108 : X xs L d 107 (108, lo, sk, h) res ↔ X xs L d 107 (109, lo, .inl 1 :: sk, h) res := i_iconst k_107_108
theorem e_107_109 {x y : Int32} : X xs L d 107 (109, lo, .inl y :: .inl x :: sk, h) res ↔ (if x = y then X xs L d 107 (142, lo, sk, h) res else X xs L d 107 (112, lo, sk, h) res) := i_icmp_eq k_107_109
theorem e_107_112 {x : Int32} {a0 a2 a3 a4 a5 a6 : Option AV} : X xs L d 107 (112, [a0, some (.inl x), a2, a3, a4, a5, a6], sk, h) res ↔ X xs L d 107 (113, [a0, some (.inl x), a2, a3, a4, a5, a6], .inl x :: sk, h) res := i_iload_n k_107_112 rfl
theorem e_107_113 : X xs L d 107 (113, lo, sk, h) res ↔ X xs L d 107 (114, lo, .inl 2 :: sk, h) res := i_iconst k_107_113
theorem e_107_114 {x y : Int32} : X xs L d 107 (114, lo, .inl y :: .inl x :: sk, h) res ↔ (if x = y then X xs L d 107 (117, lo, sk, h) res else X xs L d 107 (127, lo, sk, h) res) := i_icmp_ne k_107_114
theorem e_107_117 {x : Option Nat} {a1 a2 a3 a4 a5 a6 : Option AV} : X xs L d 107 (117, [some (.inr x), a1, a2, a3, a4, a5, a6], sk, h) res ↔ X xs L d 107 (118, [some (.inr x), a1, a2, a3, a4, a5, a6], .inr x :: sk, h) res := i_aload_n k_107_117 rfl
theorem e_107_118 {o : Nat} : X xs L d 107 (118, lo, .inr (some o) :: sk, h) res ↔ hK h o = 9 ∧ X xs L d 107 (121, lo, .inr (hR h o 16) :: sk, h) res := i_getR k_107_118
theorem e_107_121 : X xs L d 107 (121, lo, sk, h) res ↔ X xs L d 107 (122, lo, .inl 0 :: sk, h) res := i_iconst k_107_121
theorem e_107_122 {o : Nat} {i : Int32} : X xs L d 107 (122, lo, .inl i :: .inr (some o) :: sk, h) res ↔ (hK h o = 20 ∧ vp_in i (hL h o)) ∧ X xs L d 107 (123, lo, .inl (hI h o i.toNatClampNeg) :: sk, h) res := i_iaload k_107_122
theorem e_107_123 {x : Int32} {a0 a1 a2 a4 a5 a6 : Option AV} : X xs L d 107 (123, [a0, a1, a2, some (.inl x), a4, a5, a6], sk, h) res ↔ X xs L d 107 (124, [a0, a1, a2, some (.inl x), a4, a5, a6], .inl x :: sk, h) res := i_iload_n k_107_123 rfl
theorem e_107_124 {x y : Int32} : X xs L d 107 (124, lo, .inl y :: .inl x :: sk, h) res ↔ (if x ≤ y then X xs L d 107 (142, lo, sk, h) res else X xs L d 107 (127, lo, sk, h) res) := i_icmp_le k_107_124
theorem e_107_127 {x : Int32} {a0 a2 a3 a4 a5 a6 : Option AV} : X xs L d 107 (127, [a0, some (.inl x), a2, a3, a4, a5, a6], sk, h) res ↔ X xs L d 107 (128, [a0, some (.inl x), a2, a3, a4, a5, a6], .inl x :: sk, h) res := i_iload_n k_107_127 rfl
theorem e_107_128 : X xs L d 107 (128, lo, sk, h) res ↔ X xs L d 107 (129, lo, .inl 3 :: sk, h) res := i_iconst k_107_128
theorem e_107_129 {x y : Int32} : X xs L d 107 (129, lo, .inl y :: .inl x :: sk, h) res ↔ (if x = y then X xs L d 107 (132, lo, sk, h) res else X xs L d 107 (146, lo, sk, h) res) := i_icmp_ne k_107_129
theorem e_107_132 {x : Option Nat} {a1 a2 a3 a4 a5 a6 : Option AV} : X xs L d 107 (132, [some (.inr x), a1, a2, a3, a4, a5, a6], sk, h) res ↔ X xs L d 107 (133, [some (.inr x), a1, a2, a3, a4, a5, a6], .inr x :: sk, h) res := i_aload_n k_107_132 rfl
theorem e_107_133 {o : Nat} : X xs L d 107 (133, lo, .inr (some o) :: sk, h) res ↔ hK h o = 9 ∧ X xs L d 107 (136, lo, .inr (hR h o 16) :: sk, h) res := i_getR k_107_133
theorem e_107_136 : X xs L d 107 (136, lo, sk, h) res ↔ X xs L d 107 (137, lo, .inl 0 :: sk, h) res := i_iconst k_107_136
theorem e_107_137 {o : Nat} {i : Int32} : X xs L d 107 (137, lo, .inl i :: .inr (some o) :: sk, h) res ↔ (hK h o = 20 ∧ vp_in i (hL h o)) ∧ X xs L d 107 (138, lo, .inl (hI h o i.toNatClampNeg) :: sk, h) res := i_iaload k_107_137
theorem e_107_138 {x : Int32} {a0 a1 a2 a4 a5 a6 : Option AV} : X xs L d 107 (138, [a0, a1, a2, some (.inl x), a4, a5, a6], sk, h) res ↔ X xs L d 107 (139, [a0, a1, a2, some (.inl x), a4, a5, a6], .inl x :: sk, h) res := i_iload_n k_107_138 rfl
theorem e_107_139 {x y : Int32} : X xs L d 107 (139, lo, .inl y :: .inl x :: sk, h) res ↔ (if y ≤ x then X xs L d 107 (146, lo, sk, h) res else X xs L d 107 (142, lo, sk, h) res) := i_icmp_ge k_107_139
theorem e_107_142 : X xs L d 107 (142, lo, sk, h) res ↔ X xs L d 107 (143, lo, .inl 1 :: sk, h) res := i_iconst k_107_142
theorem e_107_143 : X xs L d 107 (143, lo, sk, h) res ↔ X xs L d 107 (147, lo, sk, h) res := i_goto k_107_143
theorem e_107_146 : X xs L d 107 (146, lo, sk, h) res ↔ X xs L d 107 (147, lo, .inl 0 :: sk, h) res := i_iconst k_107_146
theorem e_107_147 {x : Int32} {a0 a1 a2 a3 a4 a5 a6 : Option AV} : X xs L d 107 (147, [a0, a1, a2, a3, a4, a5, a6], .inl x :: sk, h) res ↔ X xs L d 107 (149, [a0, a1, a2, a3, a4, a5, some (.inl x)], sk, h) res := i_istore k_107_147 (Nat.le_of_ble_eq_true rfl) rfl
theorem e_107_149 {x : Option Nat} {a1 a2 a3 a4 a5 a6 : Option AV} : X xs L d 107 (149, [some (.inr x), a1, a2, a3, a4, a5, a6], sk, h) res ↔ X xs L d 107 (150, [some (.inr x), a1, a2, a3, a4, a5, a6], .inr x :: sk, h) res := i_aload_n k_107_149 rfl
theorem e_107_150 {o : Nat} : X xs L d 107 (150, lo, .inr (some o) :: sk, h) res ↔ hK h o = 9 ∧ X xs L d 107 (153, lo, .inl (hI h o 33) :: sk, h) res := i_getZ k_107_150
theorem e_107_153 {x : Int32} : X xs L d 107 (153, lo, .inl x :: sk, h) res ↔ (if x = 0 then X xs L d 107 (165, lo, sk, h) res else X xs L d 107 (156, lo, sk, h) res) := i_if_eq k_107_153
theorem e_107_156 {x : Option Nat} {a1 a2 a3 a4 a5 a6 : Option AV} : X xs L d 107 (156, [some (.inr x), a1, a2, a3, a4, a5, a6], sk, h) res ↔ X xs L d 107 (157, [some (.inr x), a1, a2, a3, a4, a5, a6], .inr x :: sk, h) res := i_aload_n k_107_156 rfl
theorem e_107_157 {o : Nat} : X xs L d 107 (157, lo, .inr (some o) :: sk, h) res ↔ hK h o = 9 ∧ X xs L d 107 (160, lo, .inl (hI h o 29) :: sk, h) res := i_getZ k_107_157
theorem e_107_160 {x : Int32} : X xs L d 107 (160, lo, .inl x :: sk, h) res ↔ (if x = 0 then X xs L d 107 (165, lo, sk, h) res else X xs L d 107 (163, lo, sk, h) res) := i_if_eq k_107_160
theorem e_107_163 : X xs L d 107 (163, lo, sk, h) res ↔ X xs L d 107 (164, lo, .inl 3 :: sk, h) res := i_iconst k_107_163
theorem e_107_164 {v : Int32} : X xs L d 107 (164, lo, [.inl v], h) res ↔ res = (some (.inl v), h) := i_iret k_107_164 rfl
theorem e_107_165 {x : Int32} {a0 a1 a2 a3 a4 a6 : Option AV} : X xs L d 107 (165, [a0, a1, a2, a3, a4, some (.inl x), a6], sk, h) res ↔ X xs L d 107 (167, [a0, a1, a2, a3, a4, some (.inl x), a6], .inl x :: sk, h) res := i_iload k_107_165 rfl
theorem e_107_167 {x : Int32} : X xs L d 107 (167, lo, .inl x :: sk, h) res ↔ (if x = 0 then X xs L d 107 (170, lo, sk, h) res else X xs L d 107 (175, lo, sk, h) res) := i_if_ne k_107_167
theorem e_107_170 {x : Int32} {a0 a1 a2 a3 a4 a5 : Option AV} : X xs L d 107 (170, [a0, a1, a2, a3, a4, a5, some (.inl x)], sk, h) res ↔ X xs L d 107 (172, [a0, a1, a2, a3, a4, a5, some (.inl x)], .inl x :: sk, h) res := i_iload k_107_170 rfl
theorem e_107_172 {x : Int32} : X xs L d 107 (172, lo, .inl x :: sk, h) res ↔ (if x = 0 then X xs L d 107 (186, lo, sk, h) res else X xs L d 107 (175, lo, sk, h) res) := i_if_eq k_107_172
theorem e_107_175 {x : Int32} {a0 a1 a2 a3 a4 a6 : Option AV} : X xs L d 107 (175, [a0, a1, a2, a3, a4, some (.inl x), a6], sk, h) res ↔ X xs L d 107 (177, [a0, a1, a2, a3, a4, some (.inl x), a6], .inl x :: sk, h) res := i_iload k_107_175 rfl
theorem e_107_177 {x : Int32} : X xs L d 107 (177, lo, .inl x :: sk, h) res ↔ (if x = 0 then X xs L d 107 (184, lo, sk, h) res else X xs L d 107 (180, lo, sk, h) res) := i_if_eq k_107_177
theorem e_107_180 : X xs L d 107 (180, lo, sk, h) res ↔ X xs L d 107 (181, lo, .inl 1 :: sk, h) res := i_iconst k_107_180
theorem e_107_181 : X xs L d 107 (181, lo, sk, h) res ↔ X xs L d 107 (185, lo, sk, h) res := i_goto k_107_181
theorem e_107_184 : X xs L d 107 (184, lo, sk, h) res ↔ X xs L d 107 (185, lo, .inl 2 :: sk, h) res := i_iconst k_107_184
theorem e_107_185 {v : Int32} : X xs L d 107 (185, lo, [.inl v], h) res ↔ res = (some (.inl v), h) := i_iret k_107_185 rfl
theorem e_107_186 {x : Int32} {a0 a1 a2 a3 a5 a6 : Option AV} : X xs L d 107 (186, [a0, a1, a2, a3, some (.inl x), a5, a6], sk, h) res ↔ X xs L d 107 (189, [a0, a1, a2, a3, some (.inl (x + 1)), a5, a6], sk, h) res := i_iinc k_107_186 rfl rfl
theorem e_107_189 : X xs L d 107 (189, lo, sk, h) res ↔ X xs L d 107 (40, lo, sk, h) res := i_goto k_107_189
theorem e_107_192 : X xs L d 107 (192, lo, sk, h) res ↔ X xs L d 107 (193, lo, .inl 0 :: sk, h) res := i_iconst k_107_192
theorem e_107_193 {v : Int32} : X xs L d 107 (193, lo, [.inl v], h) res ↔ res = (some (.inl v), h) := i_iret k_107_193 rfl
theorem k_108_0 : am_cd 108 0 = some (.aload_n 0, 1, [], [])   := rfl
theorem k_108_1 : am_cd 108 1 = some (.getfield 151, 3, [9, 4, 1], [(0, 708)])   := rfl
theorem k_108_4 : am_cd 108 4 = some (.ifCond .eq 19, 3, [23], [])   := rfl
theorem k_108_7 : am_cd 108 7 = some (.iload_n 1, 1, [], [])   := rfl
theorem k_108_8 : am_cd 108 8 = some (.ifCond .lt 15, 3, [23], [])   := rfl
theorem k_108_11 : am_cd 108 11 = some (.iload_n 1, 1, [], [])   := rfl
theorem k_108_12 : am_cd 108 12 = some (.aload_n 0, 1, [], [])   := rfl
theorem k_108_13 : am_cd 108 13 = some (.getfield 126, 3, [9, 5, 0], [(0, 709)])   := rfl
theorem k_108_16 : am_cd 108 16 = some (.if_icmp .ge 7, 3, [23], [])   := rfl
theorem k_108_19 : am_cd 108 19 = some (.iconst 1, 1, [], [(1, 0)])   := rfl
theorem k_108_20 : am_cd 108 20 = some (.goto 4, 3, [24], [])   := rfl
theorem k_108_23 : am_cd 108 23 = some (.iconst 0, 1, [], [(0, 0)])   := rfl
theorem k_108_24 : am_cd 108 24 = some (.ireturn, 1, [], [])   := rfl
theorem e_108_0 {x : Option Nat} {a1 : Option AV} : X xs L d 108 (0, [some (.inr x), a1], sk, h) res ↔ X xs L d 108 (1, [some (.inr x), a1], .inr x :: sk, h) res := i_aload_n k_108_0 rfl
theorem e_108_1 {o : Nat} : X xs L d 108 (1, lo, .inr (some o) :: sk, h) res ↔ hK h o = 9 ∧ X xs L d 108 (4, lo, .inl (hI h o 4) :: sk, h) res := i_getZ k_108_1
theorem e_108_4 {x : Int32} : X xs L d 108 (4, lo, .inl x :: sk, h) res ↔ (if x = 0 then X xs L d 108 (23, lo, sk, h) res else X xs L d 108 (7, lo, sk, h) res) := i_if_eq k_108_4
theorem e_108_7 {x : Int32} {a0 : Option AV} : X xs L d 108 (7, [a0, some (.inl x)], sk, h) res ↔ X xs L d 108 (8, [a0, some (.inl x)], .inl x :: sk, h) res := i_iload_n k_108_7 rfl
theorem e_108_8 {x : Int32} : X xs L d 108 (8, lo, .inl x :: sk, h) res ↔ (if x < 0 then X xs L d 108 (23, lo, sk, h) res else X xs L d 108 (11, lo, sk, h) res) := i_if_lt k_108_8
theorem e_108_11 {x : Int32} {a0 : Option AV} : X xs L d 108 (11, [a0, some (.inl x)], sk, h) res ↔ X xs L d 108 (12, [a0, some (.inl x)], .inl x :: sk, h) res := i_iload_n k_108_11 rfl
theorem e_108_12 {x : Option Nat} {a1 : Option AV} : X xs L d 108 (12, [some (.inr x), a1], sk, h) res ↔ X xs L d 108 (13, [some (.inr x), a1], .inr x :: sk, h) res := i_aload_n k_108_12 rfl
theorem e_108_13 {o : Nat} : X xs L d 108 (13, lo, .inr (some o) :: sk, h) res ↔ hK h o = 9 ∧ X xs L d 108 (16, lo, .inl (hI h o 5) :: sk, h) res := i_getI k_108_13
theorem e_108_16 {x y : Int32} : X xs L d 108 (16, lo, .inl y :: .inl x :: sk, h) res ↔ (if y ≤ x then X xs L d 108 (23, lo, sk, h) res else X xs L d 108 (19, lo, sk, h) res) := i_icmp_ge k_108_16
theorem e_108_19 : X xs L d 108 (19, lo, sk, h) res ↔ X xs L d 108 (20, lo, .inl 1 :: sk, h) res := i_iconst k_108_19
theorem e_108_20 : X xs L d 108 (20, lo, sk, h) res ↔ X xs L d 108 (24, lo, sk, h) res := i_goto k_108_20
theorem e_108_23 : X xs L d 108 (23, lo, sk, h) res ↔ X xs L d 108 (24, lo, .inl 0 :: sk, h) res := i_iconst k_108_23
theorem e_108_24 {v : Int32} : X xs L d 108 (24, lo, [.inl v], h) res ↔ (v = 0 ∨ v = 1) ∧ res = (some (.inl v), h) := i_zret k_108_24 rfl
theorem k_109_0 : am_cd 109 0 = some (.aload_n 0, 1, [], [])   := rfl
theorem k_109_1 : am_cd 109 1 = some (.iload_n 1, 1, [], [])   := rfl
theorem k_109_2 : am_cd 109 2 = some (.invokevirtual 147, 3, [81, 2, 9], [(0, 846), (0, 848), (0, 29)])   := rfl
theorem k_109_5 : am_cd 109 5 = some (.aload_n 0, 1, [], [])   := rfl
theorem k_109_6 : am_cd 109 6 = some (.getfield 102, 3, [9, 0, 0], [(0, 704)])   := rfl
theorem k_109_9 : am_cd 109 9 = some (.ifCond .le 29, 3, [38], [])   := rfl
theorem k_109_12 : am_cd 109 12 = some (.aload_n 0, 1, [], [])   := rfl
theorem k_109_13 : am_cd 109 13 = some (.sipush 152, 3, [], [(152, 0)])   := rfl
theorem k_109_16 : am_cd 109 16 = some (.iload_n 1, 1, [], [])   := rfl
theorem k_109_17 : am_cd 109 17 = some (.imul, 1, [], [])   := rfl
theorem k_109_18 : am_cd 109 18 = some (.invokevirtual 129, 3, [83, 2, 9], [(0, 872), (0, 874), (0, 34)])   := rfl
theorem k_109_21 : am_cd 109 21 = some (.sipush 152, 3, [], [(152, 0)])   := rfl
theorem k_109_24 : am_cd 109 24 = some (.iload_n 1, 1, [], [])   := rfl
theorem k_109_25 : am_cd 109 25 = some (.imul, 1, [], [])   := rfl
theorem k_109_26 : am_cd 109 26 = some (.aload_n 0, 1, [], [])   := rfl
theorem k_109_27 : am_cd 109 27 = some (.getfield 102, 3, [9, 0, 0], [(0, 704)])   := rfl
theorem k_109_30 : am_cd 109 30 = some (.iadd, 1, [], [])   := rfl
theorem k_109_31 : am_cd 109 31 = some (.if_icmp .ne 7, 3, [38], [])   := rfl
theorem k_109_34 : am_cd 109 34 = some (.iconst 1, 1, [], [(1, 0)])   := rfl
theorem k_109_35 : am_cd 109 35 = some (.goto 4, 3, [39], [])   := rfl
theorem k_109_38 : am_cd 109 38 = some (.iconst 0, 1, [], [(0, 0)])   := rfl
theorem k_109_39 : am_cd 109 39 = some (.istore_n 2, 1, [], [])   := rfl
theorem k_109_40 : am_cd 109 40 = some (.aload_n 0, 1, [], [])   := rfl
theorem k_109_41 : am_cd 109 41 = some (.iconst 0, 1, [], [(0, 0)])   := rfl
theorem k_109_42 : am_cd 109 42 = some (.putfield 102, 3, [9, 0, 0], [(0, 704)])   := rfl
theorem k_109_45 : am_cd 109 45 = some (.iload_n 2, 1, [], [])   := rfl
theorem k_109_46 : am_cd 109 46 = some (.ireturn, 1, [], [])   := rfl
theorem e_109_0 {x : Option Nat} {a1 a2 : Option AV} : X xs L d 109 (0, [some (.inr x), a1, a2], sk, h) res ↔ X xs L d 109 (1, [some (.inr x), a1, a2], .inr x :: sk, h) res := i_aload_n k_109_0 rfl
theorem e_109_1 {x : Int32} {a0 a2 : Option AV} : X xs L d 109 (1, [a0, some (.inl x), a2], sk, h) res ↔ X xs L d 109 (2, [a0, some (.inl x), a2], .inl x :: sk, h) res := i_iload_n k_109_1 rfl
theorem e_109_2 {o : Nat} {v0 : Int32} (hs : sk.length ≤ 8) : X xs L d 109 (2, lo, .inl v0 :: .inr (some o) :: sk, h) res ↔ hK h o = 9 ∧ ∃ q : Res, Rn xs L d 81 [.inr (some o), .inl v0] h q ∧ X xs L d 109 (5, lo, q.1.toList ++ sk, q.2) res := i_callV k_109_2 rfl ⟨Nat.le_add_left 2 sk.length, Nat.le_trans (Nat.add_le_add_right hs 2) (Nat.le_of_eq (Nat.add_comm 8 2))⟩
theorem e_109_5 {x : Option Nat} {a1 a2 : Option AV} : X xs L d 109 (5, [some (.inr x), a1, a2], sk, h) res ↔ X xs L d 109 (6, [some (.inr x), a1, a2], .inr x :: sk, h) res := i_aload_n k_109_5 rfl
theorem e_109_6 {o : Nat} : X xs L d 109 (6, lo, .inr (some o) :: sk, h) res ↔ hK h o = 9 ∧ X xs L d 109 (9, lo, .inl (hI h o 0) :: sk, h) res := i_getI k_109_6
theorem e_109_9 {x : Int32} : X xs L d 109 (9, lo, .inl x :: sk, h) res ↔ (if x ≤ 0 then X xs L d 109 (38, lo, sk, h) res else X xs L d 109 (12, lo, sk, h) res) := i_if_le k_109_9
theorem e_109_12 {x : Option Nat} {a1 a2 : Option AV} : X xs L d 109 (12, [some (.inr x), a1, a2], sk, h) res ↔ X xs L d 109 (13, [some (.inr x), a1, a2], .inr x :: sk, h) res := i_aload_n k_109_12 rfl
theorem e_109_13 : X xs L d 109 (13, lo, sk, h) res ↔ X xs L d 109 (16, lo, .inl 152 :: sk, h) res := i_sipush k_109_13
theorem e_109_16 {x : Int32} {a0 a2 : Option AV} : X xs L d 109 (16, [a0, some (.inl x), a2], sk, h) res ↔ X xs L d 109 (17, [a0, some (.inl x), a2], .inl x :: sk, h) res := i_iload_n k_109_16 rfl
theorem e_109_17 {x y : Int32} : X xs L d 109 (17, lo, .inl y :: .inl x :: sk, h) res ↔ X xs L d 109 (18, lo, .inl (x * y) :: sk, h) res := i_imul k_109_17
theorem e_109_18 {o : Nat} {v0 : Int32} (hs : sk.length ≤ 8) : X xs L d 109 (18, lo, .inl v0 :: .inr (some o) :: sk, h) res ↔ hK h o = 9 ∧ ∃ q : Res, Rn xs L d 83 [.inr (some o), .inl v0] h q ∧ X xs L d 109 (21, lo, q.1.toList ++ sk, q.2) res := i_callV k_109_18 rfl ⟨Nat.le_add_left 2 sk.length, Nat.le_trans (Nat.add_le_add_right hs 2) (Nat.le_of_eq (Nat.add_comm 8 2))⟩
theorem e_109_21 : X xs L d 109 (21, lo, sk, h) res ↔ X xs L d 109 (24, lo, .inl 152 :: sk, h) res := i_sipush k_109_21
theorem e_109_24 {x : Int32} {a0 a2 : Option AV} : X xs L d 109 (24, [a0, some (.inl x), a2], sk, h) res ↔ X xs L d 109 (25, [a0, some (.inl x), a2], .inl x :: sk, h) res := i_iload_n k_109_24 rfl
theorem e_109_25 {x y : Int32} : X xs L d 109 (25, lo, .inl y :: .inl x :: sk, h) res ↔ X xs L d 109 (26, lo, .inl (x * y) :: sk, h) res := i_imul k_109_25
theorem e_109_26 {x : Option Nat} {a1 a2 : Option AV} : X xs L d 109 (26, [some (.inr x), a1, a2], sk, h) res ↔ X xs L d 109 (27, [some (.inr x), a1, a2], .inr x :: sk, h) res := i_aload_n k_109_26 rfl
theorem e_109_27 {o : Nat} : X xs L d 109 (27, lo, .inr (some o) :: sk, h) res ↔ hK h o = 9 ∧ X xs L d 109 (30, lo, .inl (hI h o 0) :: sk, h) res := i_getI k_109_27
theorem e_109_30 {x y : Int32} : X xs L d 109 (30, lo, .inl y :: .inl x :: sk, h) res ↔ X xs L d 109 (31, lo, .inl (x + y) :: sk, h) res := i_iadd k_109_30
theorem e_109_31 {x y : Int32} : X xs L d 109 (31, lo, .inl y :: .inl x :: sk, h) res ↔ (if x = y then X xs L d 109 (34, lo, sk, h) res else X xs L d 109 (38, lo, sk, h) res) := i_icmp_ne k_109_31
theorem e_109_34 : X xs L d 109 (34, lo, sk, h) res ↔ X xs L d 109 (35, lo, .inl 1 :: sk, h) res := i_iconst k_109_34
theorem e_109_35 : X xs L d 109 (35, lo, sk, h) res ↔ X xs L d 109 (39, lo, sk, h) res := i_goto k_109_35
theorem e_109_38 : X xs L d 109 (38, lo, sk, h) res ↔ X xs L d 109 (39, lo, .inl 0 :: sk, h) res := i_iconst k_109_38
theorem e_109_39 {x : Int32} {a0 a1 a2 : Option AV} : X xs L d 109 (39, [a0, a1, a2], .inl x :: sk, h) res ↔ X xs L d 109 (40, [a0, a1, some (.inl x)], sk, h) res := i_istore_n k_109_39 (Nat.le_of_ble_eq_true rfl) rfl
theorem e_109_40 {x : Option Nat} {a1 a2 : Option AV} : X xs L d 109 (40, [some (.inr x), a1, a2], sk, h) res ↔ X xs L d 109 (41, [some (.inr x), a1, a2], .inr x :: sk, h) res := i_aload_n k_109_40 rfl
theorem e_109_41 : X xs L d 109 (41, lo, sk, h) res ↔ X xs L d 109 (42, lo, .inl 0 :: sk, h) res := i_iconst k_109_41
theorem e_109_42 {o : Nat} {v : Int32} : X xs L d 109 (42, lo, .inl v :: .inr (some o) :: sk, h) res ↔ hK h o = 9 ∧ X xs L d 109 (45, lo, sk, sI h o 0 v) res := i_putI k_109_42
theorem e_109_45 {x : Int32} {a0 a1 : Option AV} : X xs L d 109 (45, [a0, a1, some (.inl x)], sk, h) res ↔ X xs L d 109 (46, [a0, a1, some (.inl x)], .inl x :: sk, h) res := i_iload_n k_109_45 rfl
theorem e_109_46 {v : Int32} : X xs L d 109 (46, lo, [.inl v], h) res ↔ (v = 0 ∨ v = 1) ∧ res = (some (.inl v), h) := i_zret k_109_46 rfl
theorem k_110_0 : am_cd 110 0 = some (.aload_n 0, 1, [], [])   := rfl
theorem k_110_1 : am_cd 110 1 = some (.getfield 102, 3, [9, 0, 0], [(0, 704)])   := rfl
theorem k_110_4 : am_cd 110 4 = some (.ifCond .ne 7, 3, [11], [])   := rfl
theorem k_110_7 : am_cd 110 7 = some (.iconst 1, 1, [], [(1, 0)])   := rfl
theorem k_110_8 : am_cd 110 8 = some (.goto 4, 3, [12], [])   := rfl
theorem k_110_11 : am_cd 110 11 = some (.iconst 0, 1, [], [(0, 0)])   := rfl
theorem k_110_12 : am_cd 110 12 = some (.istore 4, 2, [], [])   := rfl
theorem k_110_14 : am_cd 110 14 = some (.aload_n 0, 1, [], [])   := rfl
theorem k_110_15 : am_cd 110 15 = some (.getfield 151, 3, [9, 4, 1], [(0, 708)])   := rfl
theorem k_110_18 : am_cd 110 18 = some (.ifCond .eq 16, 3, [34], [])   := rfl
theorem k_110_21 : am_cd 110 21 = some (.aload_n 0, 1, [], [])   := rfl
theorem k_110_22 : am_cd 110 22 = some (.bipush 41, 2, [], [(41, 0)])   := rfl
theorem k_110_24 : am_cd 110 24 = some (.invokevirtual 240, 3, [109, 2, 9], [(0, 965), (0, 967), (0, 52)])   := rfl
theorem k_110_27 : am_cd 110 27 = some (.ifCond .eq 7, 3, [34], [])   := rfl
theorem k_110_30 : am_cd 110 30 = some (.iconst 1, 1, [], [(1, 0)])   := rfl
theorem k_110_31 : am_cd 110 31 = some (.goto 4, 3, [35], [])   := rfl
theorem k_110_34 : am_cd 110 34 = some (.iconst 0, 1, [], [(0, 0)])   := rfl
theorem k_110_35 : am_cd 110 35 = some (.istore 5, 2, [], [])   := rfl
theorem k_110_37 : am_cd 110 37 = some (.aload_n 0, 1, [], [])   := rfl
theorem k_110_38 : am_cd 110 38 = some (.iconst 0, 1, [], [(0, 0)])   := rfl
theorem k_110_39 : am_cd 110 39 = some (.putfield 102, 3, [9, 0, 0], [(0, 704)])   := rfl
theorem k_110_42 : am_cd 110 42 = some (.aload_n 0, 1, [], [])   := rfl
theorem k_110_43 : am_cd 110 43 = some (.iload_n 1, 1, [], [])   := rfl
theorem k_110_44 : am_cd 110 44 = some (.invokevirtual 243, 3, [108, 2, 9], [(0, 969), (0, 971), (0, 53)])   := rfl
theorem k_110_47 : am_cd 110 47 = some (.ifCond .eq 17, 3, [64], [])   := rfl
theorem k_110_50 : am_cd 110 50 = some (.iload_n 2, 1, [], [])   := rfl
theorem k_110_51 : am_cd 110 51 = some (.ifCond .lt 13, 3, [64], [])   := rfl
theorem k_110_54 : am_cd 110 54 = some (.iload 4, 2, [], [])   := rfl
theorem k_110_56 : am_cd 110 56 = some (.ifCond .ne 10, 3, [66], [])   := rfl
theorem k_110_59 : am_cd 110 59 = some (.iload 5, 2, [], [])   := rfl
theorem k_110_61 : am_cd 110 61 = some (.ifCond .ne 5, 3, [66], [])   := rfl
theorem k_110_64 : am_cd 110 64 = some (.iconst 0, 1, [], [(0, 0)])   := rfl
theorem k_110_65 : am_cd 110 65 = some (.ireturn, 1, [], [])   := rfl
theorem k_110_66 : am_cd 110 66 = some (.aload_n 0, 1, [], [])   := rfl
theorem k_110_67 : am_cd 110 67 = some (.getfield 80, 3, [9, 35, 2], [(0, 739)])   := rfl
theorem k_110_70 : am_cd 110 70 = some (.iload_n 1, 1, [], [])   := rfl
theorem k_110_71 : am_cd 110 71 = some (.iconst 1, 1, [], [(1, 0)])   := rfl
theorem k_110_72 : am_cd 110 72 = some (.bastore, 1, [], [])   := rfl
theorem k_110_73 : am_cd 110 73 = some (.aload_n 0, 1, [], [])   := rfl
theorem k_110_74 : am_cd 110 74 = some (.getfield 84, 3, [9, 36, 2], [(0, 740)])   := rfl
theorem k_110_77 : am_cd 110 77 = some (.iload_n 1, 1, [], [])   := rfl
theorem k_110_78 : am_cd 110 78 = some (.iload 4, 2, [], [])   := rfl
theorem k_110_80 : am_cd 110 80 = some (.ifCond .ne 7, 3, [87], [])   := rfl
theorem k_110_83 : am_cd 110 83 = some (.iconst 1, 1, [], [(1, 0)])   := rfl
theorem k_110_84 : am_cd 110 84 = some (.goto 4, 3, [88], [])   := rfl
theorem k_110_87 : am_cd 110 87 = some (.iconst 0, 1, [], [(0, 0)])   := rfl
theorem k_110_88 : am_cd 110 88 = some (.bastore, 1, [], [])   := rfl
theorem k_110_89 : am_cd 110 89 = some (.aload_n 0, 1, [], [])   := rfl
theorem k_110_90 : am_cd 110 90 = some (.getfield 87, 3, [9, 37, 2], [(0, 741)])   := rfl
theorem k_110_93 : am_cd 110 93 = some (.iload_n 1, 1, [], [])   := rfl
theorem k_110_94 : am_cd 110 94 = some (.iload_n 3, 1, [], [])   := rfl
theorem k_110_95 : am_cd 110 95 = some (.bastore, 1, [], [])   := rfl
theorem k_110_96 : am_cd 110 96 = some (.aload_n 0, 1, [], [])   := rfl
theorem k_110_97 : am_cd 110 97 = some (.getfield 90, 3, [9, 38, 2], [(0, 742)])   := rfl
theorem k_110_100 : am_cd 110 100 = some (.iload_n 1, 1, [], [])   := rfl
theorem k_110_101 : am_cd 110 101 = some (.iload_n 2, 1, [], [])   := rfl
theorem k_110_102 : am_cd 110 102 = some (.iastore, 1, [], [])   := rfl
theorem k_110_103 : am_cd 110 103 = some (.aload_n 0, 1, [], [])   := rfl
theorem k_110_104 : am_cd 110 104 = some (.getfield 93, 3, [9, 39, 2], [(0, 743)])   := rfl
theorem k_110_107 : am_cd 110 107 = some (.iload_n 1, 1, [], [])   := rfl
theorem k_110_108 : am_cd 110 108 = some (.iconst 0, 1, [], [(0, 0)])   := rfl
theorem k_110_109 : am_cd 110 109 = some (.iastore, 1, [], [])   := rfl
theorem k_110_110 : am_cd 110 110 = some (.iconst 0, 1, [], [(0, 0)])   := rfl
theorem k_110_111 : am_cd 110 111 = some (.istore 6, 2, [], [])   := rfl
theorem k_110_113 : am_cd 110 113 = some (.iload 6, 2, [], [])   := rfl
theorem k_110_115 : am_cd 110 115 = some (.sipush 152, 3, [], [(152, 0)])   := rfl
theorem k_110_118 : am_cd 110 118 = some (.if_icmp .ge 35, 3, [153], [])   := rfl
theorem k_110_121 : am_cd 110 121 = some (.aload_n 0, 1, [], [])   := rfl
theorem k_110_122 : am_cd 110 122 = some (.getfield 13, 3, [9, 2, 2], [(0, 706)])   := rfl
theorem k_110_125 : am_cd 110 125 = some (.sipush 152, 3, [], [(152, 0)])   := rfl
theorem k_110_128 : am_cd 110 128 = some (.iconst 1, 1, [], [(1, 0)])   := rfl
theorem k_110_129 : am_cd 110 129 = some (.iload_n 1, 1, [], [])   := rfl
theorem k_110_130 : am_cd 110 130 = some (.iadd, 1, [], [])   := rfl
theorem k_110_131 : am_cd 110 131 = some (.imul, 1, [], [])   := rfl
theorem k_110_132 : am_cd 110 132 = some (.iload 6, 2, [], [])   := rfl
theorem k_110_134 : am_cd 110 134 = some (.iadd, 1, [], [])   := rfl
theorem k_110_135 : am_cd 110 135 = some (.aload_n 0, 1, [], [])   := rfl
theorem k_110_136 : am_cd 110 136 = some (.getfield 13, 3, [9, 2, 2], [(0, 706)])   := rfl
theorem k_110_139 : am_cd 110 139 = some (.sipush 6232, 3, [], [(6232, 0)])   := rfl
theorem k_110_142 : am_cd 110 142 = some (.iload 6, 2, [], [])   := rfl
theorem k_110_144 : am_cd 110 144 = some (.iadd, 1, [], [])   := rfl
theorem k_110_145 : am_cd 110 145 = some (.caload, 1, [], [])   := rfl
theorem k_110_146 : am_cd 110 146 = some (.castore, 1, [], [])   := rfl
theorem k_110_147 : am_cd 110 147 = some (.iinc 6 1, 3, [], [(1, 0)])   := rfl
theorem k_110_150 : am_cd 110 150 = some (.goto (-37), 3, [113], [])   := rfl
theorem k_110_153 : am_cd 110 153 = some (.iconst 1, 1, [], [(1, 0)])   := rfl
theorem k_110_154 : am_cd 110 154 = some (.ireturn, 1, [], [])   := rfl
theorem e_110_0 {x : Option Nat} {a1 a2 a3 a4 a5 a6 : Option AV} : X xs L d 110 (0, [some (.inr x), a1, a2, a3, a4, a5, a6], sk, h) res ↔ X xs L d 110 (1, [some (.inr x), a1, a2, a3, a4, a5, a6], .inr x :: sk, h) res := i_aload_n k_110_0 rfl
theorem e_110_1 {o : Nat} : X xs L d 110 (1, lo, .inr (some o) :: sk, h) res ↔ hK h o = 9 ∧ X xs L d 110 (4, lo, .inl (hI h o 0) :: sk, h) res := i_getI k_110_1
theorem e_110_4 {x : Int32} : X xs L d 110 (4, lo, .inl x :: sk, h) res ↔ (if x = 0 then X xs L d 110 (7, lo, sk, h) res else X xs L d 110 (11, lo, sk, h) res) := i_if_ne k_110_4
theorem e_110_7 : X xs L d 110 (7, lo, sk, h) res ↔ X xs L d 110 (8, lo, .inl 1 :: sk, h) res := i_iconst k_110_7
theorem e_110_8 : X xs L d 110 (8, lo, sk, h) res ↔ X xs L d 110 (12, lo, sk, h) res := i_goto k_110_8
theorem e_110_11 : X xs L d 110 (11, lo, sk, h) res ↔ X xs L d 110 (12, lo, .inl 0 :: sk, h) res := i_iconst k_110_11
theorem e_110_12 {x : Int32} {a0 a1 a2 a3 a4 a5 a6 : Option AV} : X xs L d 110 (12, [a0, a1, a2, a3, a4, a5, a6], .inl x :: sk, h) res ↔ X xs L d 110 (14, [a0, a1, a2, a3, some (.inl x), a5, a6], sk, h) res := i_istore k_110_12 (Nat.le_of_ble_eq_true rfl) rfl
theorem e_110_14 {x : Option Nat} {a1 a2 a3 a4 a5 a6 : Option AV} : X xs L d 110 (14, [some (.inr x), a1, a2, a3, a4, a5, a6], sk, h) res ↔ X xs L d 110 (15, [some (.inr x), a1, a2, a3, a4, a5, a6], .inr x :: sk, h) res := i_aload_n k_110_14 rfl
theorem e_110_15 {o : Nat} : X xs L d 110 (15, lo, .inr (some o) :: sk, h) res ↔ hK h o = 9 ∧ X xs L d 110 (18, lo, .inl (hI h o 4) :: sk, h) res := i_getZ k_110_15
theorem e_110_18 {x : Int32} : X xs L d 110 (18, lo, .inl x :: sk, h) res ↔ (if x = 0 then X xs L d 110 (34, lo, sk, h) res else X xs L d 110 (21, lo, sk, h) res) := i_if_eq k_110_18
theorem e_110_21 {x : Option Nat} {a1 a2 a3 a4 a5 a6 : Option AV} : X xs L d 110 (21, [some (.inr x), a1, a2, a3, a4, a5, a6], sk, h) res ↔ X xs L d 110 (22, [some (.inr x), a1, a2, a3, a4, a5, a6], .inr x :: sk, h) res := i_aload_n k_110_21 rfl
theorem e_110_22 : X xs L d 110 (22, lo, sk, h) res ↔ X xs L d 110 (24, lo, .inl 41 :: sk, h) res := i_bipush k_110_22
theorem e_110_24 {o : Nat} {v0 : Int32} (hs : sk.length ≤ 8) : X xs L d 110 (24, lo, .inl v0 :: .inr (some o) :: sk, h) res ↔ hK h o = 9 ∧ ∃ q : Res, Rn xs L d 109 [.inr (some o), .inl v0] h q ∧ X xs L d 110 (27, lo, q.1.toList ++ sk, q.2) res := i_callV k_110_24 rfl ⟨Nat.le_add_left 2 sk.length, Nat.le_trans (Nat.add_le_add_right hs 2) (Nat.le_of_eq (Nat.add_comm 8 2))⟩
theorem e_110_27 {x : Int32} : X xs L d 110 (27, lo, .inl x :: sk, h) res ↔ (if x = 0 then X xs L d 110 (34, lo, sk, h) res else X xs L d 110 (30, lo, sk, h) res) := i_if_eq k_110_27
theorem e_110_30 : X xs L d 110 (30, lo, sk, h) res ↔ X xs L d 110 (31, lo, .inl 1 :: sk, h) res := i_iconst k_110_30
theorem e_110_31 : X xs L d 110 (31, lo, sk, h) res ↔ X xs L d 110 (35, lo, sk, h) res := i_goto k_110_31
theorem e_110_34 : X xs L d 110 (34, lo, sk, h) res ↔ X xs L d 110 (35, lo, .inl 0 :: sk, h) res := i_iconst k_110_34
theorem e_110_35 {x : Int32} {a0 a1 a2 a3 a4 a5 a6 : Option AV} : X xs L d 110 (35, [a0, a1, a2, a3, a4, a5, a6], .inl x :: sk, h) res ↔ X xs L d 110 (37, [a0, a1, a2, a3, a4, some (.inl x), a6], sk, h) res := i_istore k_110_35 (Nat.le_of_ble_eq_true rfl) rfl
theorem e_110_37 {x : Option Nat} {a1 a2 a3 a4 a5 a6 : Option AV} : X xs L d 110 (37, [some (.inr x), a1, a2, a3, a4, a5, a6], sk, h) res ↔ X xs L d 110 (38, [some (.inr x), a1, a2, a3, a4, a5, a6], .inr x :: sk, h) res := i_aload_n k_110_37 rfl
theorem e_110_38 : X xs L d 110 (38, lo, sk, h) res ↔ X xs L d 110 (39, lo, .inl 0 :: sk, h) res := i_iconst k_110_38
theorem e_110_39 {o : Nat} {v : Int32} : X xs L d 110 (39, lo, .inl v :: .inr (some o) :: sk, h) res ↔ hK h o = 9 ∧ X xs L d 110 (42, lo, sk, sI h o 0 v) res := i_putI k_110_39
theorem e_110_42 {x : Option Nat} {a1 a2 a3 a4 a5 a6 : Option AV} : X xs L d 110 (42, [some (.inr x), a1, a2, a3, a4, a5, a6], sk, h) res ↔ X xs L d 110 (43, [some (.inr x), a1, a2, a3, a4, a5, a6], .inr x :: sk, h) res := i_aload_n k_110_42 rfl
theorem e_110_43 {x : Int32} {a0 a2 a3 a4 a5 a6 : Option AV} : X xs L d 110 (43, [a0, some (.inl x), a2, a3, a4, a5, a6], sk, h) res ↔ X xs L d 110 (44, [a0, some (.inl x), a2, a3, a4, a5, a6], .inl x :: sk, h) res := i_iload_n k_110_43 rfl
theorem e_110_44 {o : Nat} {v0 : Int32} (hs : sk.length ≤ 8) : X xs L d 110 (44, lo, .inl v0 :: .inr (some o) :: sk, h) res ↔ hK h o = 9 ∧ ∃ q : Res, Rn xs L d 108 [.inr (some o), .inl v0] h q ∧ X xs L d 110 (47, lo, q.1.toList ++ sk, q.2) res := i_callV k_110_44 rfl ⟨Nat.le_add_left 2 sk.length, Nat.le_trans (Nat.add_le_add_right hs 2) (Nat.le_of_eq (Nat.add_comm 8 2))⟩
theorem e_110_47 {x : Int32} : X xs L d 110 (47, lo, .inl x :: sk, h) res ↔ (if x = 0 then X xs L d 110 (64, lo, sk, h) res else X xs L d 110 (50, lo, sk, h) res) := i_if_eq k_110_47
theorem e_110_50 {x : Int32} {a0 a1 a3 a4 a5 a6 : Option AV} : X xs L d 110 (50, [a0, a1, some (.inl x), a3, a4, a5, a6], sk, h) res ↔ X xs L d 110 (51, [a0, a1, some (.inl x), a3, a4, a5, a6], .inl x :: sk, h) res := i_iload_n k_110_50 rfl
theorem e_110_51 {x : Int32} : X xs L d 110 (51, lo, .inl x :: sk, h) res ↔ (if x < 0 then X xs L d 110 (64, lo, sk, h) res else X xs L d 110 (54, lo, sk, h) res) := i_if_lt k_110_51
theorem e_110_54 {x : Int32} {a0 a1 a2 a3 a5 a6 : Option AV} : X xs L d 110 (54, [a0, a1, a2, a3, some (.inl x), a5, a6], sk, h) res ↔ X xs L d 110 (56, [a0, a1, a2, a3, some (.inl x), a5, a6], .inl x :: sk, h) res := i_iload k_110_54 rfl
theorem e_110_56 {x : Int32} : X xs L d 110 (56, lo, .inl x :: sk, h) res ↔ (if x = 0 then X xs L d 110 (59, lo, sk, h) res else X xs L d 110 (66, lo, sk, h) res) := i_if_ne k_110_56
theorem e_110_59 {x : Int32} {a0 a1 a2 a3 a4 a6 : Option AV} : X xs L d 110 (59, [a0, a1, a2, a3, a4, some (.inl x), a6], sk, h) res ↔ X xs L d 110 (61, [a0, a1, a2, a3, a4, some (.inl x), a6], .inl x :: sk, h) res := i_iload k_110_59 rfl
theorem e_110_61 {x : Int32} : X xs L d 110 (61, lo, .inl x :: sk, h) res ↔ (if x = 0 then X xs L d 110 (64, lo, sk, h) res else X xs L d 110 (66, lo, sk, h) res) := i_if_ne k_110_61
theorem e_110_64 : X xs L d 110 (64, lo, sk, h) res ↔ X xs L d 110 (65, lo, .inl 0 :: sk, h) res := i_iconst k_110_64
theorem e_110_65 {v : Int32} : X xs L d 110 (65, lo, [.inl v], h) res ↔ (v = 0 ∨ v = 1) ∧ res = (some (.inl v), h) := i_zret k_110_65 rfl
theorem e_110_66 {x : Option Nat} {a1 a2 a3 a4 a5 a6 : Option AV} : X xs L d 110 (66, [some (.inr x), a1, a2, a3, a4, a5, a6], sk, h) res ↔ X xs L d 110 (67, [some (.inr x), a1, a2, a3, a4, a5, a6], .inr x :: sk, h) res := i_aload_n k_110_66 rfl
theorem e_110_67 {o : Nat} : X xs L d 110 (67, lo, .inr (some o) :: sk, h) res ↔ hK h o = 9 ∧ X xs L d 110 (70, lo, .inr (hR h o 35) :: sk, h) res := i_getR k_110_67
theorem e_110_70 {x : Int32} {a0 a2 a3 a4 a5 a6 : Option AV} : X xs L d 110 (70, [a0, some (.inl x), a2, a3, a4, a5, a6], sk, h) res ↔ X xs L d 110 (71, [a0, some (.inl x), a2, a3, a4, a5, a6], .inl x :: sk, h) res := i_iload_n k_110_70 rfl
theorem e_110_71 : X xs L d 110 (71, lo, sk, h) res ↔ X xs L d 110 (72, lo, .inl 1 :: sk, h) res := i_iconst k_110_71
theorem e_110_72 {o : Nat} {i v : Int32} : X xs L d 110 (72, lo, .inl v :: .inl i :: .inr (some o) :: sk, h) res ↔ (hK h o = 22 ∧ vp_in i (hL h o)) ∧ X xs L d 110 (73, lo, sk, sI h o i.toNatClampNeg (vp_nar .boolean v)) res := i_bastore k_110_72
theorem e_110_73 {x : Option Nat} {a1 a2 a3 a4 a5 a6 : Option AV} : X xs L d 110 (73, [some (.inr x), a1, a2, a3, a4, a5, a6], sk, h) res ↔ X xs L d 110 (74, [some (.inr x), a1, a2, a3, a4, a5, a6], .inr x :: sk, h) res := i_aload_n k_110_73 rfl
theorem e_110_74 {o : Nat} : X xs L d 110 (74, lo, .inr (some o) :: sk, h) res ↔ hK h o = 9 ∧ X xs L d 110 (77, lo, .inr (hR h o 36) :: sk, h) res := i_getR k_110_74
theorem e_110_77 {x : Int32} {a0 a2 a3 a4 a5 a6 : Option AV} : X xs L d 110 (77, [a0, some (.inl x), a2, a3, a4, a5, a6], sk, h) res ↔ X xs L d 110 (78, [a0, some (.inl x), a2, a3, a4, a5, a6], .inl x :: sk, h) res := i_iload_n k_110_77 rfl
theorem e_110_78 {x : Int32} {a0 a1 a2 a3 a5 a6 : Option AV} : X xs L d 110 (78, [a0, a1, a2, a3, some (.inl x), a5, a6], sk, h) res ↔ X xs L d 110 (80, [a0, a1, a2, a3, some (.inl x), a5, a6], .inl x :: sk, h) res := i_iload k_110_78 rfl
theorem e_110_80 {x : Int32} : X xs L d 110 (80, lo, .inl x :: sk, h) res ↔ (if x = 0 then X xs L d 110 (83, lo, sk, h) res else X xs L d 110 (87, lo, sk, h) res) := i_if_ne k_110_80
theorem e_110_83 : X xs L d 110 (83, lo, sk, h) res ↔ X xs L d 110 (84, lo, .inl 1 :: sk, h) res := i_iconst k_110_83
theorem e_110_84 : X xs L d 110 (84, lo, sk, h) res ↔ X xs L d 110 (88, lo, sk, h) res := i_goto k_110_84
theorem e_110_87 : X xs L d 110 (87, lo, sk, h) res ↔ X xs L d 110 (88, lo, .inl 0 :: sk, h) res := i_iconst k_110_87
theorem e_110_88 {o : Nat} {i v : Int32} : X xs L d 110 (88, lo, .inl v :: .inl i :: .inr (some o) :: sk, h) res ↔ (hK h o = 22 ∧ vp_in i (hL h o)) ∧ X xs L d 110 (89, lo, sk, sI h o i.toNatClampNeg (vp_nar .boolean v)) res := i_bastore k_110_88
theorem e_110_89 {x : Option Nat} {a1 a2 a3 a4 a5 a6 : Option AV} : X xs L d 110 (89, [some (.inr x), a1, a2, a3, a4, a5, a6], sk, h) res ↔ X xs L d 110 (90, [some (.inr x), a1, a2, a3, a4, a5, a6], .inr x :: sk, h) res := i_aload_n k_110_89 rfl
theorem e_110_90 {o : Nat} : X xs L d 110 (90, lo, .inr (some o) :: sk, h) res ↔ hK h o = 9 ∧ X xs L d 110 (93, lo, .inr (hR h o 37) :: sk, h) res := i_getR k_110_90
theorem e_110_93 {x : Int32} {a0 a2 a3 a4 a5 a6 : Option AV} : X xs L d 110 (93, [a0, some (.inl x), a2, a3, a4, a5, a6], sk, h) res ↔ X xs L d 110 (94, [a0, some (.inl x), a2, a3, a4, a5, a6], .inl x :: sk, h) res := i_iload_n k_110_93 rfl
theorem e_110_94 {x : Int32} {a0 a1 a2 a4 a5 a6 : Option AV} : X xs L d 110 (94, [a0, a1, a2, some (.inl x), a4, a5, a6], sk, h) res ↔ X xs L d 110 (95, [a0, a1, a2, some (.inl x), a4, a5, a6], .inl x :: sk, h) res := i_iload_n k_110_94 rfl
theorem e_110_95 {o : Nat} {i v : Int32} : X xs L d 110 (95, lo, .inl v :: .inl i :: .inr (some o) :: sk, h) res ↔ (hK h o = 22 ∧ vp_in i (hL h o)) ∧ X xs L d 110 (96, lo, sk, sI h o i.toNatClampNeg (vp_nar .boolean v)) res := i_bastore k_110_95
theorem e_110_96 {x : Option Nat} {a1 a2 a3 a4 a5 a6 : Option AV} : X xs L d 110 (96, [some (.inr x), a1, a2, a3, a4, a5, a6], sk, h) res ↔ X xs L d 110 (97, [some (.inr x), a1, a2, a3, a4, a5, a6], .inr x :: sk, h) res := i_aload_n k_110_96 rfl
theorem e_110_97 {o : Nat} : X xs L d 110 (97, lo, .inr (some o) :: sk, h) res ↔ hK h o = 9 ∧ X xs L d 110 (100, lo, .inr (hR h o 38) :: sk, h) res := i_getR k_110_97
theorem e_110_100 {x : Int32} {a0 a2 a3 a4 a5 a6 : Option AV} : X xs L d 110 (100, [a0, some (.inl x), a2, a3, a4, a5, a6], sk, h) res ↔ X xs L d 110 (101, [a0, some (.inl x), a2, a3, a4, a5, a6], .inl x :: sk, h) res := i_iload_n k_110_100 rfl
theorem e_110_101 {x : Int32} {a0 a1 a3 a4 a5 a6 : Option AV} : X xs L d 110 (101, [a0, a1, some (.inl x), a3, a4, a5, a6], sk, h) res ↔ X xs L d 110 (102, [a0, a1, some (.inl x), a3, a4, a5, a6], .inl x :: sk, h) res := i_iload_n k_110_101 rfl
theorem e_110_102 {o : Nat} {i v : Int32} : X xs L d 110 (102, lo, .inl v :: .inl i :: .inr (some o) :: sk, h) res ↔ (hK h o = 20 ∧ vp_in i (hL h o)) ∧ X xs L d 110 (103, lo, sk, sI h o i.toNatClampNeg (v)) res := i_iastore k_110_102
theorem e_110_103 {x : Option Nat} {a1 a2 a3 a4 a5 a6 : Option AV} : X xs L d 110 (103, [some (.inr x), a1, a2, a3, a4, a5, a6], sk, h) res ↔ X xs L d 110 (104, [some (.inr x), a1, a2, a3, a4, a5, a6], .inr x :: sk, h) res := i_aload_n k_110_103 rfl
theorem e_110_104 {o : Nat} : X xs L d 110 (104, lo, .inr (some o) :: sk, h) res ↔ hK h o = 9 ∧ X xs L d 110 (107, lo, .inr (hR h o 39) :: sk, h) res := i_getR k_110_104
theorem e_110_107 {x : Int32} {a0 a2 a3 a4 a5 a6 : Option AV} : X xs L d 110 (107, [a0, some (.inl x), a2, a3, a4, a5, a6], sk, h) res ↔ X xs L d 110 (108, [a0, some (.inl x), a2, a3, a4, a5, a6], .inl x :: sk, h) res := i_iload_n k_110_107 rfl
theorem e_110_108 : X xs L d 110 (108, lo, sk, h) res ↔ X xs L d 110 (109, lo, .inl 0 :: sk, h) res := i_iconst k_110_108
theorem e_110_109 {o : Nat} {i v : Int32} : X xs L d 110 (109, lo, .inl v :: .inl i :: .inr (some o) :: sk, h) res ↔ (hK h o = 20 ∧ vp_in i (hL h o)) ∧ X xs L d 110 (110, lo, sk, sI h o i.toNatClampNeg (v)) res := i_iastore k_110_109
theorem e_110_110 : X xs L d 110 (110, lo, sk, h) res ↔ X xs L d 110 (111, lo, .inl 0 :: sk, h) res := i_iconst k_110_110
theorem e_110_111 {x : Int32} {a0 a1 a2 a3 a4 a5 a6 : Option AV} : X xs L d 110 (111, [a0, a1, a2, a3, a4, a5, a6], .inl x :: sk, h) res ↔ X xs L d 110 (113, [a0, a1, a2, a3, a4, a5, some (.inl x)], sk, h) res := i_istore k_110_111 (Nat.le_of_ble_eq_true rfl) rfl
theorem e_110_113 {x : Int32} {a0 a1 a2 a3 a4 a5 : Option AV} : X xs L d 110 (113, [a0, a1, a2, a3, a4, a5, some (.inl x)], sk, h) res ↔ X xs L d 110 (115, [a0, a1, a2, a3, a4, a5, some (.inl x)], .inl x :: sk, h) res := i_iload k_110_113 rfl
theorem e_110_115 : X xs L d 110 (115, lo, sk, h) res ↔ X xs L d 110 (118, lo, .inl 152 :: sk, h) res := i_sipush k_110_115
theorem e_110_118 {x y : Int32} : X xs L d 110 (118, lo, .inl y :: .inl x :: sk, h) res ↔ (if y ≤ x then X xs L d 110 (153, lo, sk, h) res else X xs L d 110 (121, lo, sk, h) res) := i_icmp_ge k_110_118
theorem e_110_121 {x : Option Nat} {a1 a2 a3 a4 a5 a6 : Option AV} : X xs L d 110 (121, [some (.inr x), a1, a2, a3, a4, a5, a6], sk, h) res ↔ X xs L d 110 (122, [some (.inr x), a1, a2, a3, a4, a5, a6], .inr x :: sk, h) res := i_aload_n k_110_121 rfl
theorem e_110_122 {o : Nat} : X xs L d 110 (122, lo, .inr (some o) :: sk, h) res ↔ hK h o = 9 ∧ X xs L d 110 (125, lo, .inr (hR h o 2) :: sk, h) res := i_getR k_110_122
theorem e_110_125 : X xs L d 110 (125, lo, sk, h) res ↔ X xs L d 110 (128, lo, .inl 152 :: sk, h) res := i_sipush k_110_125
theorem e_110_128 : X xs L d 110 (128, lo, sk, h) res ↔ X xs L d 110 (129, lo, .inl 1 :: sk, h) res := i_iconst k_110_128
theorem e_110_129 {x : Int32} {a0 a2 a3 a4 a5 a6 : Option AV} : X xs L d 110 (129, [a0, some (.inl x), a2, a3, a4, a5, a6], sk, h) res ↔ X xs L d 110 (130, [a0, some (.inl x), a2, a3, a4, a5, a6], .inl x :: sk, h) res := i_iload_n k_110_129 rfl
theorem e_110_130 {x y : Int32} : X xs L d 110 (130, lo, .inl y :: .inl x :: sk, h) res ↔ X xs L d 110 (131, lo, .inl (x + y) :: sk, h) res := i_iadd k_110_130
theorem e_110_131 {x y : Int32} : X xs L d 110 (131, lo, .inl y :: .inl x :: sk, h) res ↔ X xs L d 110 (132, lo, .inl (x * y) :: sk, h) res := i_imul k_110_131
theorem e_110_132 {x : Int32} {a0 a1 a2 a3 a4 a5 : Option AV} : X xs L d 110 (132, [a0, a1, a2, a3, a4, a5, some (.inl x)], sk, h) res ↔ X xs L d 110 (134, [a0, a1, a2, a3, a4, a5, some (.inl x)], .inl x :: sk, h) res := i_iload k_110_132 rfl
theorem e_110_134 {x y : Int32} : X xs L d 110 (134, lo, .inl y :: .inl x :: sk, h) res ↔ X xs L d 110 (135, lo, .inl (x + y) :: sk, h) res := i_iadd k_110_134
theorem e_110_135 {x : Option Nat} {a1 a2 a3 a4 a5 a6 : Option AV} : X xs L d 110 (135, [some (.inr x), a1, a2, a3, a4, a5, a6], sk, h) res ↔ X xs L d 110 (136, [some (.inr x), a1, a2, a3, a4, a5, a6], .inr x :: sk, h) res := i_aload_n k_110_135 rfl
theorem e_110_136 {o : Nat} : X xs L d 110 (136, lo, .inr (some o) :: sk, h) res ↔ hK h o = 9 ∧ X xs L d 110 (139, lo, .inr (hR h o 2) :: sk, h) res := i_getR k_110_136
theorem e_110_139 : X xs L d 110 (139, lo, sk, h) res ↔ X xs L d 110 (142, lo, .inl 6232 :: sk, h) res := i_sipush k_110_139
theorem e_110_142 {x : Int32} {a0 a1 a2 a3 a4 a5 : Option AV} : X xs L d 110 (142, [a0, a1, a2, a3, a4, a5, some (.inl x)], sk, h) res ↔ X xs L d 110 (144, [a0, a1, a2, a3, a4, a5, some (.inl x)], .inl x :: sk, h) res := i_iload k_110_142 rfl
theorem e_110_144 {x y : Int32} : X xs L d 110 (144, lo, .inl y :: .inl x :: sk, h) res ↔ X xs L d 110 (145, lo, .inl (x + y) :: sk, h) res := i_iadd k_110_144
theorem e_110_145 {o : Nat} {i : Int32} : X xs L d 110 (145, lo, .inl i :: .inr (some o) :: sk, h) res ↔ (hK h o = 21 ∧ vp_in i (hL h o)) ∧ X xs L d 110 (146, lo, .inl (hI h o i.toNatClampNeg) :: sk, h) res := i_caload k_110_145
theorem e_110_146 {o : Nat} {i v : Int32} : X xs L d 110 (146, lo, .inl v :: .inl i :: .inr (some o) :: sk, h) res ↔ (hK h o = 21 ∧ vp_in i (hL h o)) ∧ X xs L d 110 (147, lo, sk, sI h o i.toNatClampNeg (vp_nar .char v)) res := i_castore k_110_146
theorem e_110_147 {x : Int32} {a0 a1 a2 a3 a4 a5 : Option AV} : X xs L d 110 (147, [a0, a1, a2, a3, a4, a5, some (.inl x)], sk, h) res ↔ X xs L d 110 (150, [a0, a1, a2, a3, a4, a5, some (.inl (x + 1))], sk, h) res := i_iinc k_110_147 rfl rfl
theorem e_110_150 : X xs L d 110 (150, lo, sk, h) res ↔ X xs L d 110 (113, lo, sk, h) res := i_goto k_110_150
theorem e_110_153 : X xs L d 110 (153, lo, sk, h) res ↔ X xs L d 110 (154, lo, .inl 1 :: sk, h) res := i_iconst k_110_153
theorem e_110_154 {v : Int32} : X xs L d 110 (154, lo, [.inl v], h) res ↔ (v = 0 ∨ v = 1) ∧ res = (some (.inl v), h) := i_zret k_110_154 rfl
theorem k_111_0 : am_cd 111 0 = some (.aload_n 0, 1, [], [])   := rfl
theorem k_111_1 : am_cd 111 1 = some (.iload_n 1, 1, [], [])   := rfl
theorem k_111_2 : am_cd 111 2 = some (.invokevirtual 246, 3, [112, 2, 9], [(0, 977), (0, 978), (0, 979)])   := rfl
theorem k_111_5 : am_cd 111 5 = some (.istore_n 2, 1, [], [])   := rfl
theorem k_111_6 : am_cd 111 6 = some (.iload_n 2, 1, [], [])   := rfl
theorem k_111_7 : am_cd 111 7 = some (.ifCond .lt 10, 3, [17], [])   := rfl
theorem k_111_10 : am_cd 111 10 = some (.aload_n 0, 1, [], [])   := rfl
theorem k_111_11 : am_cd 111 11 = some (.getfield 80, 3, [9, 35, 2], [(0, 739)])   := rfl
theorem k_111_14 : am_cd 111 14 = some (.iload_n 1, 1, [], [])   := rfl
theorem k_111_15 : am_cd 111 15 = some (.iconst 0, 1, [], [(0, 0)])   := rfl
theorem k_111_16 : am_cd 111 16 = some (.bastore, 1, [], [])   := rfl
theorem k_111_17 : am_cd 111 17 = some (.iload_n 2, 1, [], [])   := rfl
theorem k_111_18 : am_cd 111 18 = some (.ireturn, 1, [], [])   := rfl
theorem e_111_0 {x : Option Nat} {a1 a2 : Option AV} : X xs L d 111 (0, [some (.inr x), a1, a2], sk, h) res ↔ X xs L d 111 (1, [some (.inr x), a1, a2], .inr x :: sk, h) res := i_aload_n k_111_0 rfl
theorem e_111_1 {x : Int32} {a0 a2 : Option AV} : X xs L d 111 (1, [a0, some (.inl x), a2], sk, h) res ↔ X xs L d 111 (2, [a0, some (.inl x), a2], .inl x :: sk, h) res := i_iload_n k_111_1 rfl
theorem e_111_2 {o : Nat} {v0 : Int32} (hs : sk.length ≤ 8) : X xs L d 111 (2, lo, .inl v0 :: .inr (some o) :: sk, h) res ↔ hK h o = 9 ∧ ∃ q : Res, Rn xs L d 112 [.inr (some o), .inl v0] h q ∧ X xs L d 111 (5, lo, q.1.toList ++ sk, q.2) res := i_callV k_111_2 rfl ⟨Nat.le_add_left 2 sk.length, Nat.le_trans (Nat.add_le_add_right hs 2) (Nat.le_of_eq (Nat.add_comm 8 2))⟩
theorem e_111_5 {x : Int32} {a0 a1 a2 : Option AV} : X xs L d 111 (5, [a0, a1, a2], .inl x :: sk, h) res ↔ X xs L d 111 (6, [a0, a1, some (.inl x)], sk, h) res := i_istore_n k_111_5 (Nat.le_of_ble_eq_true rfl) rfl
theorem e_111_6 {x : Int32} {a0 a1 : Option AV} : X xs L d 111 (6, [a0, a1, some (.inl x)], sk, h) res ↔ X xs L d 111 (7, [a0, a1, some (.inl x)], .inl x :: sk, h) res := i_iload_n k_111_6 rfl
theorem e_111_7 {x : Int32} : X xs L d 111 (7, lo, .inl x :: sk, h) res ↔ (if x < 0 then X xs L d 111 (17, lo, sk, h) res else X xs L d 111 (10, lo, sk, h) res) := i_if_lt k_111_7
theorem e_111_10 {x : Option Nat} {a1 a2 : Option AV} : X xs L d 111 (10, [some (.inr x), a1, a2], sk, h) res ↔ X xs L d 111 (11, [some (.inr x), a1, a2], .inr x :: sk, h) res := i_aload_n k_111_10 rfl
theorem e_111_11 {o : Nat} : X xs L d 111 (11, lo, .inr (some o) :: sk, h) res ↔ hK h o = 9 ∧ X xs L d 111 (14, lo, .inr (hR h o 35) :: sk, h) res := i_getR k_111_11
theorem e_111_14 {x : Int32} {a0 a2 : Option AV} : X xs L d 111 (14, [a0, some (.inl x), a2], sk, h) res ↔ X xs L d 111 (15, [a0, some (.inl x), a2], .inl x :: sk, h) res := i_iload_n k_111_14 rfl
theorem e_111_15 : X xs L d 111 (15, lo, sk, h) res ↔ X xs L d 111 (16, lo, .inl 0 :: sk, h) res := i_iconst k_111_15
theorem e_111_16 {o : Nat} {i v : Int32} : X xs L d 111 (16, lo, .inl v :: .inl i :: .inr (some o) :: sk, h) res ↔ (hK h o = 22 ∧ vp_in i (hL h o)) ∧ X xs L d 111 (17, lo, sk, sI h o i.toNatClampNeg (vp_nar .boolean v)) res := i_bastore k_111_16
theorem e_111_17 {x : Int32} {a0 a1 : Option AV} : X xs L d 111 (17, [a0, a1, some (.inl x)], sk, h) res ↔ X xs L d 111 (18, [a0, a1, some (.inl x)], .inl x :: sk, h) res := i_iload_n k_111_17 rfl
theorem e_111_18 {v : Int32} : X xs L d 111 (18, lo, [.inl v], h) res ↔ res = (some (.inl v), h) := i_iret k_111_18 rfl
theorem k_112_0 : am_cd 112 0 = some (.aload_n 0, 1, [], [])   := rfl
theorem k_112_1 : am_cd 112 1 = some (.iload_n 1, 1, [], [])   := rfl
theorem k_112_2 : am_cd 112 2 = some (.invokevirtual 243, 3, [108, 2, 9], [(0, 969), (0, 971), (0, 53)])   := rfl
theorem k_112_5 : am_cd 112 5 = some (.ifCond .eq 21, 3, [26], [])   := rfl
theorem k_112_8 : am_cd 112 8 = some (.aload_n 0, 1, [], [])   := rfl
theorem k_112_9 : am_cd 112 9 = some (.getfield 80, 3, [9, 35, 2], [(0, 739)])   := rfl
theorem k_112_12 : am_cd 112 12 = some (.iload_n 1, 1, [], [])   := rfl
theorem k_112_13 : am_cd 112 13 = some (.baload, 1, [], [])   := rfl
theorem k_112_14 : am_cd 112 14 = some (.ifCond .eq 12, 3, [26], [])   := rfl
theorem k_112_17 : am_cd 112 17 = some (.aload_n 0, 1, [], [])   := rfl
theorem k_112_18 : am_cd 112 18 = some (.getfield 93, 3, [9, 39, 2], [(0, 743)])   := rfl
theorem k_112_21 : am_cd 112 21 = some (.iload_n 1, 1, [], [])   := rfl
theorem k_112_22 : am_cd 112 22 = some (.iaload, 1, [], [])   := rfl
theorem k_112_23 : am_cd 112 23 = some (.goto 4, 3, [27], [])   := rfl
theorem k_112_26 : am_cd 112 26 = some (.iconst (-1), 1, [], [(-1, 0)])   := rfl
theorem k_112_27 : am_cd 112 27 = some (.ireturn, 1, [], [])   := rfl
theorem e_112_0 {x : Option Nat} {a1 : Option AV} : X xs L d 112 (0, [some (.inr x), a1], sk, h) res ↔ X xs L d 112 (1, [some (.inr x), a1], .inr x :: sk, h) res := i_aload_n k_112_0 rfl
theorem e_112_1 {x : Int32} {a0 : Option AV} : X xs L d 112 (1, [a0, some (.inl x)], sk, h) res ↔ X xs L d 112 (2, [a0, some (.inl x)], .inl x :: sk, h) res := i_iload_n k_112_1 rfl
theorem e_112_2 {o : Nat} {v0 : Int32} (hs : sk.length ≤ 8) : X xs L d 112 (2, lo, .inl v0 :: .inr (some o) :: sk, h) res ↔ hK h o = 9 ∧ ∃ q : Res, Rn xs L d 108 [.inr (some o), .inl v0] h q ∧ X xs L d 112 (5, lo, q.1.toList ++ sk, q.2) res := i_callV k_112_2 rfl ⟨Nat.le_add_left 2 sk.length, Nat.le_trans (Nat.add_le_add_right hs 2) (Nat.le_of_eq (Nat.add_comm 8 2))⟩
theorem e_112_5 {x : Int32} : X xs L d 112 (5, lo, .inl x :: sk, h) res ↔ (if x = 0 then X xs L d 112 (26, lo, sk, h) res else X xs L d 112 (8, lo, sk, h) res) := i_if_eq k_112_5
theorem e_112_8 {x : Option Nat} {a1 : Option AV} : X xs L d 112 (8, [some (.inr x), a1], sk, h) res ↔ X xs L d 112 (9, [some (.inr x), a1], .inr x :: sk, h) res := i_aload_n k_112_8 rfl
theorem e_112_9 {o : Nat} : X xs L d 112 (9, lo, .inr (some o) :: sk, h) res ↔ hK h o = 9 ∧ X xs L d 112 (12, lo, .inr (hR h o 35) :: sk, h) res := i_getR k_112_9
theorem e_112_12 {x : Int32} {a0 : Option AV} : X xs L d 112 (12, [a0, some (.inl x)], sk, h) res ↔ X xs L d 112 (13, [a0, some (.inl x)], .inl x :: sk, h) res := i_iload_n k_112_12 rfl
theorem e_112_13 {o : Nat} {i : Int32} : X xs L d 112 (13, lo, .inl i :: .inr (some o) :: sk, h) res ↔ (hK h o = 22 ∧ vp_in i (hL h o)) ∧ X xs L d 112 (14, lo, .inl (hI h o i.toNatClampNeg) :: sk, h) res := i_baload k_112_13
theorem e_112_14 {x : Int32} : X xs L d 112 (14, lo, .inl x :: sk, h) res ↔ (if x = 0 then X xs L d 112 (26, lo, sk, h) res else X xs L d 112 (17, lo, sk, h) res) := i_if_eq k_112_14
theorem e_112_17 {x : Option Nat} {a1 : Option AV} : X xs L d 112 (17, [some (.inr x), a1], sk, h) res ↔ X xs L d 112 (18, [some (.inr x), a1], .inr x :: sk, h) res := i_aload_n k_112_17 rfl
theorem e_112_18 {o : Nat} : X xs L d 112 (18, lo, .inr (some o) :: sk, h) res ↔ hK h o = 9 ∧ X xs L d 112 (21, lo, .inr (hR h o 39) :: sk, h) res := i_getR k_112_18
theorem e_112_21 {x : Int32} {a0 : Option AV} : X xs L d 112 (21, [a0, some (.inl x)], sk, h) res ↔ X xs L d 112 (22, [a0, some (.inl x)], .inl x :: sk, h) res := i_iload_n k_112_21 rfl
theorem e_112_22 {o : Nat} {i : Int32} : X xs L d 112 (22, lo, .inl i :: .inr (some o) :: sk, h) res ↔ (hK h o = 20 ∧ vp_in i (hL h o)) ∧ X xs L d 112 (23, lo, .inl (hI h o i.toNatClampNeg) :: sk, h) res := i_iaload k_112_22
theorem e_112_23 : X xs L d 112 (23, lo, sk, h) res ↔ X xs L d 112 (27, lo, sk, h) res := i_goto k_112_23
theorem e_112_26 : X xs L d 112 (26, lo, sk, h) res ↔ X xs L d 112 (27, lo, .inl (-1) :: sk, h) res := i_iconst k_112_26
theorem e_112_27 {v : Int32} : X xs L d 112 (27, lo, [.inl v], h) res ↔ res = (some (.inl v), h) := i_iret k_112_27 rfl
theorem k_113_0 : am_cd 113 0 = some (.aload_n 0, 1, [], [])   := rfl
theorem k_113_1 : am_cd 113 1 = some (.iload_n 1, 1, [], [])   := rfl
theorem k_113_2 : am_cd 113 2 = some (.putfield 167, 3, [9, 33, 1], [(0, 737)])   := rfl
theorem k_113_5 : am_cd 113 5 = some (.return_, 1, [], [])   := rfl
theorem e_113_0 {x : Option Nat} {a1 : Option AV} : X xs L d 113 (0, [some (.inr x), a1], sk, h) res ↔ X xs L d 113 (1, [some (.inr x), a1], .inr x :: sk, h) res := i_aload_n k_113_0 rfl
theorem e_113_1 {x : Int32} {a0 : Option AV} : X xs L d 113 (1, [a0, some (.inl x)], sk, h) res ↔ X xs L d 113 (2, [a0, some (.inl x)], .inl x :: sk, h) res := i_iload_n k_113_1 rfl
theorem e_113_2 {o : Nat} {v : Int32} : X xs L d 113 (2, lo, .inl v :: .inr (some o) :: sk, h) res ↔ (hK h o = 9 ∧ (v = 0 ∨ v = 1)) ∧ X xs L d 113 (5, lo, sk, sI h o 33 v) res := i_putZ k_113_2
theorem e_113_5 : X xs L d 113 (5, lo, [], h) res ↔ res = (none, h) := i_vret k_113_5 rfl
theorem k_114_0 : am_cd 114 0 = some (.aload_n 0, 1, [], [])   := rfl
theorem k_114_1 : am_cd 114 1 = some (.getfield 158, 3, [9, 30, 0], [(0, 734)])   := rfl
theorem k_114_4 : am_cd 114 4 = some (.ireturn, 1, [], [])   := rfl
theorem e_114_0 {x : Option Nat} : X xs L d 114 (0, [some (.inr x)], sk, h) res ↔ X xs L d 114 (1, [some (.inr x)], .inr x :: sk, h) res := i_aload_n k_114_0 rfl
theorem e_114_1 {o : Nat} : X xs L d 114 (1, lo, .inr (some o) :: sk, h) res ↔ hK h o = 9 ∧ X xs L d 114 (4, lo, .inl (hI h o 30) :: sk, h) res := i_getI k_114_1
theorem e_114_4 {v : Int32} : X xs L d 114 (4, lo, [.inl v], h) res ↔ res = (some (.inl v), h) := i_iret k_114_4 rfl
theorem k_115_0 : am_cd 115 0 = some (.aload_n 0, 1, [], [])   := rfl
theorem k_115_1 : am_cd 115 1 = some (.getfield 161, 3, [9, 31, 0], [(0, 735)])   := rfl
theorem k_115_4 : am_cd 115 4 = some (.ireturn, 1, [], [])   := rfl
theorem e_115_0 {x : Option Nat} : X xs L d 115 (0, [some (.inr x)], sk, h) res ↔ X xs L d 115 (1, [some (.inr x)], .inr x :: sk, h) res := i_aload_n k_115_0 rfl
theorem e_115_1 {o : Nat} : X xs L d 115 (1, lo, .inr (some o) :: sk, h) res ↔ hK h o = 9 ∧ X xs L d 115 (4, lo, .inl (hI h o 31) :: sk, h) res := i_getI k_115_1
theorem e_115_4 {v : Int32} : X xs L d 115 (4, lo, [.inl v], h) res ↔ res = (some (.inl v), h) := i_iret k_115_4 rfl
theorem k_116_0 : am_cd 116 0 = some (.aload_n 0, 1, [], [])   := rfl
theorem k_116_1 : am_cd 116 1 = some (.getfield 164, 3, [9, 32, 0], [(0, 736)])   := rfl
theorem k_116_4 : am_cd 116 4 = some (.ireturn, 1, [], [])   := rfl
theorem e_116_0 {x : Option Nat} : X xs L d 116 (0, [some (.inr x)], sk, h) res ↔ X xs L d 116 (1, [some (.inr x)], .inr x :: sk, h) res := i_aload_n k_116_0 rfl
theorem e_116_1 {o : Nat} : X xs L d 116 (1, lo, .inr (some o) :: sk, h) res ↔ hK h o = 9 ∧ X xs L d 116 (4, lo, .inl (hI h o 32) :: sk, h) res := i_getI k_116_1
theorem e_116_4 {v : Int32} : X xs L d 116 (4, lo, [.inl v], h) res ↔ res = (some (.inl v), h) := i_iret k_116_4 rfl
theorem k_117_0 : am_cd 117 0 = some (.aload_n 0, 1, [], [])   := rfl
theorem k_117_1 : am_cd 117 1 = some (.getfield 158, 3, [9, 30, 0], [(0, 734)])   := rfl
theorem k_117_4 : am_cd 117 4 = some (.iconst 1, 1, [], [(1, 0)])   := rfl
theorem k_117_5 : am_cd 117 5 = some (.if_icmp .ne 12, 3, [17], [])   := rfl
theorem k_117_8 : am_cd 117 8 = some (.aload_n 0, 1, [], [])   := rfl
theorem k_117_9 : am_cd 117 9 = some (.getfield 47, 3, [9, 16, 2], [(0, 720)])   := rfl
theorem k_117_12 : am_cd 117 12 = some (.iconst 0, 1, [], [(0, 0)])   := rfl
theorem k_117_13 : am_cd 117 13 = some (.iaload, 1, [], [])   := rfl
theorem k_117_14 : am_cd 117 14 = some (.goto 4, 3, [18], [])   := rfl
theorem k_117_17 : am_cd 117 17 = some (.iconst 0, 1, [], [(0, 0)])   := rfl
theorem k_117_18 : am_cd 117 18 = some (.ireturn, 1, [], [])   := rfl
theorem e_117_0 {x : Option Nat} : X xs L d 117 (0, [some (.inr x)], sk, h) res ↔ X xs L d 117 (1, [some (.inr x)], .inr x :: sk, h) res := i_aload_n k_117_0 rfl
theorem e_117_1 {o : Nat} : X xs L d 117 (1, lo, .inr (some o) :: sk, h) res ↔ hK h o = 9 ∧ X xs L d 117 (4, lo, .inl (hI h o 30) :: sk, h) res := i_getI k_117_1
theorem e_117_4 : X xs L d 117 (4, lo, sk, h) res ↔ X xs L d 117 (5, lo, .inl 1 :: sk, h) res := i_iconst k_117_4
theorem e_117_5 {x y : Int32} : X xs L d 117 (5, lo, .inl y :: .inl x :: sk, h) res ↔ (if x = y then X xs L d 117 (8, lo, sk, h) res else X xs L d 117 (17, lo, sk, h) res) := i_icmp_ne k_117_5
theorem e_117_8 {x : Option Nat} : X xs L d 117 (8, [some (.inr x)], sk, h) res ↔ X xs L d 117 (9, [some (.inr x)], .inr x :: sk, h) res := i_aload_n k_117_8 rfl
theorem e_117_9 {o : Nat} : X xs L d 117 (9, lo, .inr (some o) :: sk, h) res ↔ hK h o = 9 ∧ X xs L d 117 (12, lo, .inr (hR h o 16) :: sk, h) res := i_getR k_117_9
theorem e_117_12 : X xs L d 117 (12, lo, sk, h) res ↔ X xs L d 117 (13, lo, .inl 0 :: sk, h) res := i_iconst k_117_12
theorem e_117_13 {o : Nat} {i : Int32} : X xs L d 117 (13, lo, .inl i :: .inr (some o) :: sk, h) res ↔ (hK h o = 20 ∧ vp_in i (hL h o)) ∧ X xs L d 117 (14, lo, .inl (hI h o i.toNatClampNeg) :: sk, h) res := i_iaload k_117_13
theorem e_117_14 : X xs L d 117 (14, lo, sk, h) res ↔ X xs L d 117 (18, lo, sk, h) res := i_goto k_117_14
theorem e_117_17 : X xs L d 117 (17, lo, sk, h) res ↔ X xs L d 117 (18, lo, .inl 0 :: sk, h) res := i_iconst k_117_17
theorem e_117_18 {v : Int32} : X xs L d 117 (18, lo, [.inl v], h) res ↔ res = (some (.inl v), h) := i_iret k_117_18 rfl
theorem k_118_0 : am_cd 118 0 = some (.aload_n 0, 1, [], [])   := rfl
theorem k_118_1 : am_cd 118 1 = some (.getfield 158, 3, [9, 30, 0], [(0, 734)])   := rfl
theorem k_118_4 : am_cd 118 4 = some (.iconst 1, 1, [], [(1, 0)])   := rfl
theorem k_118_5 : am_cd 118 5 = some (.if_icmp .ne 30, 3, [35], [])   := rfl
theorem k_118_8 : am_cd 118 8 = some (.iload_n 1, 1, [], [])   := rfl
theorem k_118_9 : am_cd 118 9 = some (.ifCond .lt 26, 3, [35], [])   := rfl
theorem k_118_12 : am_cd 118 12 = some (.iload_n 1, 1, [], [])   := rfl
theorem k_118_13 : am_cd 118 13 = some (.aload_n 0, 1, [], [])   := rfl
theorem k_118_14 : am_cd 118 14 = some (.getfield 47, 3, [9, 16, 2], [(0, 720)])   := rfl
theorem k_118_17 : am_cd 118 17 = some (.iconst 0, 1, [], [(0, 0)])   := rfl
theorem k_118_18 : am_cd 118 18 = some (.iaload, 1, [], [])   := rfl
theorem k_118_19 : am_cd 118 19 = some (.if_icmp .ge 16, 3, [35], [])   := rfl
theorem k_118_22 : am_cd 118 22 = some (.aload_n 0, 1, [], [])   := rfl
theorem k_118_23 : am_cd 118 23 = some (.getfield 47, 3, [9, 16, 2], [(0, 720)])   := rfl
theorem k_118_26 : am_cd 118 26 = some (.iconst 0, 1, [], [(0, 0)])   := rfl
theorem k_118_27 : am_cd 118 27 = some (.iaload, 1, [], [])   := rfl
theorem k_118_28 : am_cd 118 28 = some (.iconst 1, 1, [], [(1, 0)])   := rfl
theorem k_118_29 : am_cd 118 29 = some (.isub, 1, [], [])   := rfl
theorem k_118_30 : am_cd 118 30 = some (.iload_n 1, 1, [], [])   := rfl
theorem k_118_31 : am_cd 118 31 = some (.isub, 1, [], [])   := rfl
theorem k_118_32 : am_cd 118 32 = some (.goto 4, 3, [36], [])   := rfl
theorem k_118_35 : am_cd 118 35 = some (.iconst (-1), 1, [], [(-1, 0)])   := rfl
theorem k_118_36 : am_cd 118 36 = some (.ireturn, 1, [], [])   := rfl
theorem e_118_0 {x : Option Nat} {a1 : Option AV} : X xs L d 118 (0, [some (.inr x), a1], sk, h) res ↔ X xs L d 118 (1, [some (.inr x), a1], .inr x :: sk, h) res := i_aload_n k_118_0 rfl
theorem e_118_1 {o : Nat} : X xs L d 118 (1, lo, .inr (some o) :: sk, h) res ↔ hK h o = 9 ∧ X xs L d 118 (4, lo, .inl (hI h o 30) :: sk, h) res := i_getI k_118_1
theorem e_118_4 : X xs L d 118 (4, lo, sk, h) res ↔ X xs L d 118 (5, lo, .inl 1 :: sk, h) res := i_iconst k_118_4
theorem e_118_5 {x y : Int32} : X xs L d 118 (5, lo, .inl y :: .inl x :: sk, h) res ↔ (if x = y then X xs L d 118 (8, lo, sk, h) res else X xs L d 118 (35, lo, sk, h) res) := i_icmp_ne k_118_5
theorem e_118_8 {x : Int32} {a0 : Option AV} : X xs L d 118 (8, [a0, some (.inl x)], sk, h) res ↔ X xs L d 118 (9, [a0, some (.inl x)], .inl x :: sk, h) res := i_iload_n k_118_8 rfl
theorem e_118_9 {x : Int32} : X xs L d 118 (9, lo, .inl x :: sk, h) res ↔ (if x < 0 then X xs L d 118 (35, lo, sk, h) res else X xs L d 118 (12, lo, sk, h) res) := i_if_lt k_118_9
theorem e_118_12 {x : Int32} {a0 : Option AV} : X xs L d 118 (12, [a0, some (.inl x)], sk, h) res ↔ X xs L d 118 (13, [a0, some (.inl x)], .inl x :: sk, h) res := i_iload_n k_118_12 rfl
theorem e_118_13 {x : Option Nat} {a1 : Option AV} : X xs L d 118 (13, [some (.inr x), a1], sk, h) res ↔ X xs L d 118 (14, [some (.inr x), a1], .inr x :: sk, h) res := i_aload_n k_118_13 rfl
theorem e_118_14 {o : Nat} : X xs L d 118 (14, lo, .inr (some o) :: sk, h) res ↔ hK h o = 9 ∧ X xs L d 118 (17, lo, .inr (hR h o 16) :: sk, h) res := i_getR k_118_14
theorem e_118_17 : X xs L d 118 (17, lo, sk, h) res ↔ X xs L d 118 (18, lo, .inl 0 :: sk, h) res := i_iconst k_118_17
theorem e_118_18 {o : Nat} {i : Int32} : X xs L d 118 (18, lo, .inl i :: .inr (some o) :: sk, h) res ↔ (hK h o = 20 ∧ vp_in i (hL h o)) ∧ X xs L d 118 (19, lo, .inl (hI h o i.toNatClampNeg) :: sk, h) res := i_iaload k_118_18
theorem e_118_19 {x y : Int32} : X xs L d 118 (19, lo, .inl y :: .inl x :: sk, h) res ↔ (if y ≤ x then X xs L d 118 (35, lo, sk, h) res else X xs L d 118 (22, lo, sk, h) res) := i_icmp_ge k_118_19
theorem e_118_22 {x : Option Nat} {a1 : Option AV} : X xs L d 118 (22, [some (.inr x), a1], sk, h) res ↔ X xs L d 118 (23, [some (.inr x), a1], .inr x :: sk, h) res := i_aload_n k_118_22 rfl
theorem e_118_23 {o : Nat} : X xs L d 118 (23, lo, .inr (some o) :: sk, h) res ↔ hK h o = 9 ∧ X xs L d 118 (26, lo, .inr (hR h o 16) :: sk, h) res := i_getR k_118_23
theorem e_118_26 : X xs L d 118 (26, lo, sk, h) res ↔ X xs L d 118 (27, lo, .inl 0 :: sk, h) res := i_iconst k_118_26
theorem e_118_27 {o : Nat} {i : Int32} : X xs L d 118 (27, lo, .inl i :: .inr (some o) :: sk, h) res ↔ (hK h o = 20 ∧ vp_in i (hL h o)) ∧ X xs L d 118 (28, lo, .inl (hI h o i.toNatClampNeg) :: sk, h) res := i_iaload k_118_27
theorem e_118_28 : X xs L d 118 (28, lo, sk, h) res ↔ X xs L d 118 (29, lo, .inl 1 :: sk, h) res := i_iconst k_118_28
theorem e_118_29 {x y : Int32} : X xs L d 118 (29, lo, .inl y :: .inl x :: sk, h) res ↔ X xs L d 118 (30, lo, .inl (x - y) :: sk, h) res := i_isub k_118_29
theorem e_118_30 {x : Int32} {a0 : Option AV} : X xs L d 118 (30, [a0, some (.inl x)], sk, h) res ↔ X xs L d 118 (31, [a0, some (.inl x)], .inl x :: sk, h) res := i_iload_n k_118_30 rfl
theorem e_118_31 {x y : Int32} : X xs L d 118 (31, lo, .inl y :: .inl x :: sk, h) res ↔ X xs L d 118 (32, lo, .inl (x - y) :: sk, h) res := i_isub k_118_31
theorem e_118_32 : X xs L d 118 (32, lo, sk, h) res ↔ X xs L d 118 (36, lo, sk, h) res := i_goto k_118_32
theorem e_118_35 : X xs L d 118 (35, lo, sk, h) res ↔ X xs L d 118 (36, lo, .inl (-1) :: sk, h) res := i_iconst k_118_35
theorem e_118_36 {v : Int32} : X xs L d 118 (36, lo, [.inl v], h) res ↔ res = (some (.inl v), h) := i_iret k_118_36 rfl
theorem k_119_0 : am_cd 119 0 = some (.aload_n 0, 1, [], [])   := rfl
theorem k_119_1 : am_cd 119 1 = some (.iload_n 1, 1, [], [])   := rfl
theorem k_119_2 : am_cd 119 2 = some (.invokevirtual 249, 3, [118, 2, 9], [(0, 1006), (0, 1008), (0, 54)])   := rfl
theorem k_119_5 : am_cd 119 5 = some (.istore_n 2, 1, [], [])   := rfl
theorem k_119_6 : am_cd 119 6 = some (.iload_n 2, 1, [], [])   := rfl
theorem k_119_7 : am_cd 119 7 = some (.ifCond .ge 7, 3, [14], [])   := rfl
theorem k_119_10 : am_cd 119 10 = some (.iconst (-1), 1, [], [(-1, 0)])   := rfl
theorem k_119_11 : am_cd 119 11 = some (.goto 14, 3, [25], [])   := rfl
theorem k_119_14 : am_cd 119 14 = some (.aload_n 0, 1, [], [])   := rfl
theorem k_119_15 : am_cd 119 15 = some (.getfield 26, 3, [9, 9, 2], [(0, 713)])   := rfl
theorem k_119_18 : am_cd 119 18 = some (.aload_n 0, 1, [], [])   := rfl
theorem k_119_19 : am_cd 119 19 = some (.getfield 56, 3, [9, 19, 2], [(0, 723)])   := rfl
theorem k_119_22 : am_cd 119 22 = some (.iload_n 2, 1, [], [])   := rfl
theorem k_119_23 : am_cd 119 23 = some (.iaload, 1, [], [])   := rfl
theorem k_119_24 : am_cd 119 24 = some (.iaload, 1, [], [])   := rfl
theorem k_119_25 : am_cd 119 25 = some (.ireturn, 1, [], [])   := rfl
theorem e_119_0 {x : Option Nat} {a1 a2 : Option AV} : X xs L d 119 (0, [some (.inr x), a1, a2], sk, h) res ↔ X xs L d 119 (1, [some (.inr x), a1, a2], .inr x :: sk, h) res := i_aload_n k_119_0 rfl
theorem e_119_1 {x : Int32} {a0 a2 : Option AV} : X xs L d 119 (1, [a0, some (.inl x), a2], sk, h) res ↔ X xs L d 119 (2, [a0, some (.inl x), a2], .inl x :: sk, h) res := i_iload_n k_119_1 rfl
theorem e_119_2 {o : Nat} {v0 : Int32} (hs : sk.length ≤ 8) : X xs L d 119 (2, lo, .inl v0 :: .inr (some o) :: sk, h) res ↔ hK h o = 9 ∧ ∃ q : Res, Rn xs L d 118 [.inr (some o), .inl v0] h q ∧ X xs L d 119 (5, lo, q.1.toList ++ sk, q.2) res := i_callV k_119_2 rfl ⟨Nat.le_add_left 2 sk.length, Nat.le_trans (Nat.add_le_add_right hs 2) (Nat.le_of_eq (Nat.add_comm 8 2))⟩
theorem e_119_5 {x : Int32} {a0 a1 a2 : Option AV} : X xs L d 119 (5, [a0, a1, a2], .inl x :: sk, h) res ↔ X xs L d 119 (6, [a0, a1, some (.inl x)], sk, h) res := i_istore_n k_119_5 (Nat.le_of_ble_eq_true rfl) rfl
theorem e_119_6 {x : Int32} {a0 a1 : Option AV} : X xs L d 119 (6, [a0, a1, some (.inl x)], sk, h) res ↔ X xs L d 119 (7, [a0, a1, some (.inl x)], .inl x :: sk, h) res := i_iload_n k_119_6 rfl
theorem e_119_7 {x : Int32} : X xs L d 119 (7, lo, .inl x :: sk, h) res ↔ (if 0 ≤ x then X xs L d 119 (14, lo, sk, h) res else X xs L d 119 (10, lo, sk, h) res) := i_if_ge k_119_7
theorem e_119_10 : X xs L d 119 (10, lo, sk, h) res ↔ X xs L d 119 (11, lo, .inl (-1) :: sk, h) res := i_iconst k_119_10
theorem e_119_11 : X xs L d 119 (11, lo, sk, h) res ↔ X xs L d 119 (25, lo, sk, h) res := i_goto k_119_11
theorem e_119_14 {x : Option Nat} {a1 a2 : Option AV} : X xs L d 119 (14, [some (.inr x), a1, a2], sk, h) res ↔ X xs L d 119 (15, [some (.inr x), a1, a2], .inr x :: sk, h) res := i_aload_n k_119_14 rfl
theorem e_119_15 {o : Nat} : X xs L d 119 (15, lo, .inr (some o) :: sk, h) res ↔ hK h o = 9 ∧ X xs L d 119 (18, lo, .inr (hR h o 9) :: sk, h) res := i_getR k_119_15
theorem e_119_18 {x : Option Nat} {a1 a2 : Option AV} : X xs L d 119 (18, [some (.inr x), a1, a2], sk, h) res ↔ X xs L d 119 (19, [some (.inr x), a1, a2], .inr x :: sk, h) res := i_aload_n k_119_18 rfl
theorem e_119_19 {o : Nat} : X xs L d 119 (19, lo, .inr (some o) :: sk, h) res ↔ hK h o = 9 ∧ X xs L d 119 (22, lo, .inr (hR h o 19) :: sk, h) res := i_getR k_119_19
theorem e_119_22 {x : Int32} {a0 a1 : Option AV} : X xs L d 119 (22, [a0, a1, some (.inl x)], sk, h) res ↔ X xs L d 119 (23, [a0, a1, some (.inl x)], .inl x :: sk, h) res := i_iload_n k_119_22 rfl
theorem e_119_23 {o : Nat} {i : Int32} : X xs L d 119 (23, lo, .inl i :: .inr (some o) :: sk, h) res ↔ (hK h o = 20 ∧ vp_in i (hL h o)) ∧ X xs L d 119 (24, lo, .inl (hI h o i.toNatClampNeg) :: sk, h) res := i_iaload k_119_23
theorem e_119_24 {o : Nat} {i : Int32} : X xs L d 119 (24, lo, .inl i :: .inr (some o) :: sk, h) res ↔ (hK h o = 20 ∧ vp_in i (hL h o)) ∧ X xs L d 119 (25, lo, .inl (hI h o i.toNatClampNeg) :: sk, h) res := i_iaload k_119_24
theorem e_119_25 {v : Int32} : X xs L d 119 (25, lo, [.inl v], h) res ↔ res = (some (.inl v), h) := i_iret k_119_25 rfl
theorem k_120_0 : am_cd 120 0 = some (.aload_n 0, 1, [], [])   := rfl
theorem k_120_1 : am_cd 120 1 = some (.iload_n 1, 1, [], [])   := rfl
theorem k_120_2 : am_cd 120 2 = some (.invokevirtual 249, 3, [118, 2, 9], [(0, 1006), (0, 1008), (0, 54)])   := rfl
theorem k_120_5 : am_cd 120 5 = some (.istore_n 2, 1, [], [])   := rfl
theorem k_120_6 : am_cd 120 6 = some (.iload_n 2, 1, [], [])   := rfl
theorem k_120_7 : am_cd 120 7 = some (.ifCond .ge 7, 3, [14], [])   := rfl
theorem k_120_10 : am_cd 120 10 = some (.iconst (-1), 1, [], [(-1, 0)])   := rfl
theorem k_120_11 : am_cd 120 11 = some (.goto 9, 3, [20], [])   := rfl
theorem k_120_14 : am_cd 120 14 = some (.aload_n 0, 1, [], [])   := rfl
theorem k_120_15 : am_cd 120 15 = some (.getfield 50, 3, [9, 17, 2], [(0, 721)])   := rfl
theorem k_120_18 : am_cd 120 18 = some (.iload_n 2, 1, [], [])   := rfl
theorem k_120_19 : am_cd 120 19 = some (.iaload, 1, [], [])   := rfl
theorem k_120_20 : am_cd 120 20 = some (.ireturn, 1, [], [])   := rfl
theorem e_120_0 {x : Option Nat} {a1 a2 : Option AV} : X xs L d 120 (0, [some (.inr x), a1, a2], sk, h) res ↔ X xs L d 120 (1, [some (.inr x), a1, a2], .inr x :: sk, h) res := i_aload_n k_120_0 rfl
theorem e_120_1 {x : Int32} {a0 a2 : Option AV} : X xs L d 120 (1, [a0, some (.inl x), a2], sk, h) res ↔ X xs L d 120 (2, [a0, some (.inl x), a2], .inl x :: sk, h) res := i_iload_n k_120_1 rfl
theorem e_120_2 {o : Nat} {v0 : Int32} (hs : sk.length ≤ 8) : X xs L d 120 (2, lo, .inl v0 :: .inr (some o) :: sk, h) res ↔ hK h o = 9 ∧ ∃ q : Res, Rn xs L d 118 [.inr (some o), .inl v0] h q ∧ X xs L d 120 (5, lo, q.1.toList ++ sk, q.2) res := i_callV k_120_2 rfl ⟨Nat.le_add_left 2 sk.length, Nat.le_trans (Nat.add_le_add_right hs 2) (Nat.le_of_eq (Nat.add_comm 8 2))⟩
theorem e_120_5 {x : Int32} {a0 a1 a2 : Option AV} : X xs L d 120 (5, [a0, a1, a2], .inl x :: sk, h) res ↔ X xs L d 120 (6, [a0, a1, some (.inl x)], sk, h) res := i_istore_n k_120_5 (Nat.le_of_ble_eq_true rfl) rfl
theorem e_120_6 {x : Int32} {a0 a1 : Option AV} : X xs L d 120 (6, [a0, a1, some (.inl x)], sk, h) res ↔ X xs L d 120 (7, [a0, a1, some (.inl x)], .inl x :: sk, h) res := i_iload_n k_120_6 rfl
theorem e_120_7 {x : Int32} : X xs L d 120 (7, lo, .inl x :: sk, h) res ↔ (if 0 ≤ x then X xs L d 120 (14, lo, sk, h) res else X xs L d 120 (10, lo, sk, h) res) := i_if_ge k_120_7
theorem e_120_10 : X xs L d 120 (10, lo, sk, h) res ↔ X xs L d 120 (11, lo, .inl (-1) :: sk, h) res := i_iconst k_120_10
theorem e_120_11 : X xs L d 120 (11, lo, sk, h) res ↔ X xs L d 120 (20, lo, sk, h) res := i_goto k_120_11
theorem e_120_14 {x : Option Nat} {a1 a2 : Option AV} : X xs L d 120 (14, [some (.inr x), a1, a2], sk, h) res ↔ X xs L d 120 (15, [some (.inr x), a1, a2], .inr x :: sk, h) res := i_aload_n k_120_14 rfl
theorem e_120_15 {o : Nat} : X xs L d 120 (15, lo, .inr (some o) :: sk, h) res ↔ hK h o = 9 ∧ X xs L d 120 (18, lo, .inr (hR h o 17) :: sk, h) res := i_getR k_120_15
theorem e_120_18 {x : Int32} {a0 a1 : Option AV} : X xs L d 120 (18, [a0, a1, some (.inl x)], sk, h) res ↔ X xs L d 120 (19, [a0, a1, some (.inl x)], .inl x :: sk, h) res := i_iload_n k_120_18 rfl
theorem e_120_19 {o : Nat} {i : Int32} : X xs L d 120 (19, lo, .inl i :: .inr (some o) :: sk, h) res ↔ (hK h o = 20 ∧ vp_in i (hL h o)) ∧ X xs L d 120 (20, lo, .inl (hI h o i.toNatClampNeg) :: sk, h) res := i_iaload k_120_19
theorem e_120_20 {v : Int32} : X xs L d 120 (20, lo, [.inl v], h) res ↔ res = (some (.inl v), h) := i_iret k_120_20 rfl
theorem k_121_0 : am_cd 121 0 = some (.aload_n 0, 1, [], [])   := rfl
theorem k_121_1 : am_cd 121 1 = some (.iload_n 1, 1, [], [])   := rfl
theorem k_121_2 : am_cd 121 2 = some (.invokevirtual 249, 3, [118, 2, 9], [(0, 1006), (0, 1008), (0, 54)])   := rfl
theorem k_121_5 : am_cd 121 5 = some (.istore_n 3, 1, [], [])   := rfl
theorem k_121_6 : am_cd 121 6 = some (.iload_n 3, 1, [], [])   := rfl
theorem k_121_7 : am_cd 121 7 = some (.ifCond .lt 12, 3, [19], [])   := rfl
theorem k_121_10 : am_cd 121 10 = some (.iload_n 2, 1, [], [])   := rfl
theorem k_121_11 : am_cd 121 11 = some (.ifCond .lt 8, 3, [19], [])   := rfl
theorem k_121_14 : am_cd 121 14 = some (.iload_n 2, 1, [], [])   := rfl
theorem k_121_15 : am_cd 121 15 = some (.iconst 5, 1, [], [(5, 0)])   := rfl
theorem k_121_16 : am_cd 121 16 = some (.if_icmp .le 7, 3, [23], [])   := rfl
theorem k_121_19 : am_cd 121 19 = some (.iconst 0, 1, [], [(0, 0)])   := rfl
theorem k_121_20 : am_cd 121 20 = some (.goto 14, 3, [34], [])   := rfl
theorem k_121_23 : am_cd 121 23 = some (.aload_n 0, 1, [], [])   := rfl
theorem k_121_24 : am_cd 121 24 = some (.getfield 59, 3, [9, 20, 2], [(0, 724)])   := rfl
theorem k_121_27 : am_cd 121 27 = some (.bipush 6, 2, [], [(6, 0)])   := rfl
theorem k_121_29 : am_cd 121 29 = some (.iload_n 3, 1, [], [])   := rfl
theorem k_121_30 : am_cd 121 30 = some (.imul, 1, [], [])   := rfl
theorem k_121_31 : am_cd 121 31 = some (.iload_n 2, 1, [], [])   := rfl
theorem k_121_32 : am_cd 121 32 = some (.iadd, 1, [], [])   := rfl
theorem k_121_33 : am_cd 121 33 = some (.iaload, 1, [], [])   := rfl
theorem k_121_34 : am_cd 121 34 = some (.ireturn, 1, [], [])   := rfl
theorem e_121_0 {x : Option Nat} {a1 a2 a3 : Option AV} : X xs L d 121 (0, [some (.inr x), a1, a2, a3], sk, h) res ↔ X xs L d 121 (1, [some (.inr x), a1, a2, a3], .inr x :: sk, h) res := i_aload_n k_121_0 rfl
theorem e_121_1 {x : Int32} {a0 a2 a3 : Option AV} : X xs L d 121 (1, [a0, some (.inl x), a2, a3], sk, h) res ↔ X xs L d 121 (2, [a0, some (.inl x), a2, a3], .inl x :: sk, h) res := i_iload_n k_121_1 rfl
theorem e_121_2 {o : Nat} {v0 : Int32} (hs : sk.length ≤ 8) : X xs L d 121 (2, lo, .inl v0 :: .inr (some o) :: sk, h) res ↔ hK h o = 9 ∧ ∃ q : Res, Rn xs L d 118 [.inr (some o), .inl v0] h q ∧ X xs L d 121 (5, lo, q.1.toList ++ sk, q.2) res := i_callV k_121_2 rfl ⟨Nat.le_add_left 2 sk.length, Nat.le_trans (Nat.add_le_add_right hs 2) (Nat.le_of_eq (Nat.add_comm 8 2))⟩
theorem e_121_5 {x : Int32} {a0 a1 a2 a3 : Option AV} : X xs L d 121 (5, [a0, a1, a2, a3], .inl x :: sk, h) res ↔ X xs L d 121 (6, [a0, a1, a2, some (.inl x)], sk, h) res := i_istore_n k_121_5 (Nat.le_of_ble_eq_true rfl) rfl
theorem e_121_6 {x : Int32} {a0 a1 a2 : Option AV} : X xs L d 121 (6, [a0, a1, a2, some (.inl x)], sk, h) res ↔ X xs L d 121 (7, [a0, a1, a2, some (.inl x)], .inl x :: sk, h) res := i_iload_n k_121_6 rfl
theorem e_121_7 {x : Int32} : X xs L d 121 (7, lo, .inl x :: sk, h) res ↔ (if x < 0 then X xs L d 121 (19, lo, sk, h) res else X xs L d 121 (10, lo, sk, h) res) := i_if_lt k_121_7
theorem e_121_10 {x : Int32} {a0 a1 a3 : Option AV} : X xs L d 121 (10, [a0, a1, some (.inl x), a3], sk, h) res ↔ X xs L d 121 (11, [a0, a1, some (.inl x), a3], .inl x :: sk, h) res := i_iload_n k_121_10 rfl
theorem e_121_11 {x : Int32} : X xs L d 121 (11, lo, .inl x :: sk, h) res ↔ (if x < 0 then X xs L d 121 (19, lo, sk, h) res else X xs L d 121 (14, lo, sk, h) res) := i_if_lt k_121_11
theorem e_121_14 {x : Int32} {a0 a1 a3 : Option AV} : X xs L d 121 (14, [a0, a1, some (.inl x), a3], sk, h) res ↔ X xs L d 121 (15, [a0, a1, some (.inl x), a3], .inl x :: sk, h) res := i_iload_n k_121_14 rfl
theorem e_121_15 : X xs L d 121 (15, lo, sk, h) res ↔ X xs L d 121 (16, lo, .inl 5 :: sk, h) res := i_iconst k_121_15
theorem e_121_16 {x y : Int32} : X xs L d 121 (16, lo, .inl y :: .inl x :: sk, h) res ↔ (if x ≤ y then X xs L d 121 (23, lo, sk, h) res else X xs L d 121 (19, lo, sk, h) res) := i_icmp_le k_121_16
theorem e_121_19 : X xs L d 121 (19, lo, sk, h) res ↔ X xs L d 121 (20, lo, .inl 0 :: sk, h) res := i_iconst k_121_19
theorem e_121_20 : X xs L d 121 (20, lo, sk, h) res ↔ X xs L d 121 (34, lo, sk, h) res := i_goto k_121_20
theorem e_121_23 {x : Option Nat} {a1 a2 a3 : Option AV} : X xs L d 121 (23, [some (.inr x), a1, a2, a3], sk, h) res ↔ X xs L d 121 (24, [some (.inr x), a1, a2, a3], .inr x :: sk, h) res := i_aload_n k_121_23 rfl
theorem e_121_24 {o : Nat} : X xs L d 121 (24, lo, .inr (some o) :: sk, h) res ↔ hK h o = 9 ∧ X xs L d 121 (27, lo, .inr (hR h o 20) :: sk, h) res := i_getR k_121_24
theorem e_121_27 : X xs L d 121 (27, lo, sk, h) res ↔ X xs L d 121 (29, lo, .inl 6 :: sk, h) res := i_bipush k_121_27
theorem e_121_29 {x : Int32} {a0 a1 a2 : Option AV} : X xs L d 121 (29, [a0, a1, a2, some (.inl x)], sk, h) res ↔ X xs L d 121 (30, [a0, a1, a2, some (.inl x)], .inl x :: sk, h) res := i_iload_n k_121_29 rfl
theorem e_121_30 {x y : Int32} : X xs L d 121 (30, lo, .inl y :: .inl x :: sk, h) res ↔ X xs L d 121 (31, lo, .inl (x * y) :: sk, h) res := i_imul k_121_30
theorem e_121_31 {x : Int32} {a0 a1 a3 : Option AV} : X xs L d 121 (31, [a0, a1, some (.inl x), a3], sk, h) res ↔ X xs L d 121 (32, [a0, a1, some (.inl x), a3], .inl x :: sk, h) res := i_iload_n k_121_31 rfl
theorem e_121_32 {x y : Int32} : X xs L d 121 (32, lo, .inl y :: .inl x :: sk, h) res ↔ X xs L d 121 (33, lo, .inl (x + y) :: sk, h) res := i_iadd k_121_32
theorem e_121_33 {o : Nat} {i : Int32} : X xs L d 121 (33, lo, .inl i :: .inr (some o) :: sk, h) res ↔ (hK h o = 20 ∧ vp_in i (hL h o)) ∧ X xs L d 121 (34, lo, .inl (hI h o i.toNatClampNeg) :: sk, h) res := i_iaload k_121_33
theorem e_121_34 {v : Int32} : X xs L d 121 (34, lo, [.inl v], h) res ↔ res = (some (.inl v), h) := i_iret k_121_34 rfl
theorem k_122_0 : am_cd 122 0 = some (.aload_n 0, 1, [], [])   := rfl
theorem k_122_1 : am_cd 122 1 = some (.iload_n 1, 1, [], [])   := rfl
theorem k_122_2 : am_cd 122 2 = some (.invokevirtual 249, 3, [118, 2, 9], [(0, 1006), (0, 1008), (0, 54)])   := rfl
theorem k_122_5 : am_cd 122 5 = some (.istore 4, 2, [], [])   := rfl
theorem k_122_7 : am_cd 122 7 = some (.iload 4, 2, [], [])   := rfl
theorem k_122_9 : am_cd 122 9 = some (.ifCond .lt 12, 3, [21], [])   := rfl
theorem k_122_12 : am_cd 122 12 = some (.iload_n 2, 1, [], [])   := rfl
theorem k_122_13 : am_cd 122 13 = some (.ifCond .lt 8, 3, [21], [])   := rfl
theorem k_122_16 : am_cd 122 16 = some (.iload_n 2, 1, [], [])   := rfl
theorem k_122_17 : am_cd 122 17 = some (.iconst 5, 1, [], [(5, 0)])   := rfl
theorem k_122_18 : am_cd 122 18 = some (.if_icmp .le 5, 3, [23], [])   := rfl
theorem k_122_21 : am_cd 122 21 = some (.iconst 0, 1, [], [(0, 0)])   := rfl
theorem k_122_22 : am_cd 122 22 = some (.ireturn, 1, [], [])   := rfl
theorem k_122_23 : am_cd 122 23 = some (.aload_n 0, 1, [], [])   := rfl
theorem k_122_24 : am_cd 122 24 = some (.getfield 59, 3, [9, 20, 2], [(0, 724)])   := rfl
theorem k_122_27 : am_cd 122 27 = some (.bipush 6, 2, [], [(6, 0)])   := rfl
theorem k_122_29 : am_cd 122 29 = some (.iload 4, 2, [], [])   := rfl
theorem k_122_31 : am_cd 122 31 = some (.imul, 1, [], [])   := rfl
theorem k_122_32 : am_cd 122 32 = some (.iload_n 2, 1, [], [])   := rfl
theorem k_122_33 : am_cd 122 33 = some (.iadd, 1, [], [])   := rfl
theorem k_122_34 : am_cd 122 34 = some (.iload_n 3, 1, [], [])   := rfl
theorem k_122_35 : am_cd 122 35 = some (.iastore, 1, [], [])   := rfl
theorem k_122_36 : am_cd 122 36 = some (.iconst 1, 1, [], [(1, 0)])   := rfl
theorem k_122_37 : am_cd 122 37 = some (.ireturn, 1, [], [])   := rfl
theorem e_122_0 {x : Option Nat} {a1 a2 a3 a4 : Option AV} : X xs L d 122 (0, [some (.inr x), a1, a2, a3, a4], sk, h) res ↔ X xs L d 122 (1, [some (.inr x), a1, a2, a3, a4], .inr x :: sk, h) res := i_aload_n k_122_0 rfl
theorem e_122_1 {x : Int32} {a0 a2 a3 a4 : Option AV} : X xs L d 122 (1, [a0, some (.inl x), a2, a3, a4], sk, h) res ↔ X xs L d 122 (2, [a0, some (.inl x), a2, a3, a4], .inl x :: sk, h) res := i_iload_n k_122_1 rfl
theorem e_122_2 {o : Nat} {v0 : Int32} (hs : sk.length ≤ 8) : X xs L d 122 (2, lo, .inl v0 :: .inr (some o) :: sk, h) res ↔ hK h o = 9 ∧ ∃ q : Res, Rn xs L d 118 [.inr (some o), .inl v0] h q ∧ X xs L d 122 (5, lo, q.1.toList ++ sk, q.2) res := i_callV k_122_2 rfl ⟨Nat.le_add_left 2 sk.length, Nat.le_trans (Nat.add_le_add_right hs 2) (Nat.le_of_eq (Nat.add_comm 8 2))⟩
theorem e_122_5 {x : Int32} {a0 a1 a2 a3 a4 : Option AV} : X xs L d 122 (5, [a0, a1, a2, a3, a4], .inl x :: sk, h) res ↔ X xs L d 122 (7, [a0, a1, a2, a3, some (.inl x)], sk, h) res := i_istore k_122_5 (Nat.le_of_ble_eq_true rfl) rfl
theorem e_122_7 {x : Int32} {a0 a1 a2 a3 : Option AV} : X xs L d 122 (7, [a0, a1, a2, a3, some (.inl x)], sk, h) res ↔ X xs L d 122 (9, [a0, a1, a2, a3, some (.inl x)], .inl x :: sk, h) res := i_iload k_122_7 rfl
theorem e_122_9 {x : Int32} : X xs L d 122 (9, lo, .inl x :: sk, h) res ↔ (if x < 0 then X xs L d 122 (21, lo, sk, h) res else X xs L d 122 (12, lo, sk, h) res) := i_if_lt k_122_9
theorem e_122_12 {x : Int32} {a0 a1 a3 a4 : Option AV} : X xs L d 122 (12, [a0, a1, some (.inl x), a3, a4], sk, h) res ↔ X xs L d 122 (13, [a0, a1, some (.inl x), a3, a4], .inl x :: sk, h) res := i_iload_n k_122_12 rfl
theorem e_122_13 {x : Int32} : X xs L d 122 (13, lo, .inl x :: sk, h) res ↔ (if x < 0 then X xs L d 122 (21, lo, sk, h) res else X xs L d 122 (16, lo, sk, h) res) := i_if_lt k_122_13
theorem e_122_16 {x : Int32} {a0 a1 a3 a4 : Option AV} : X xs L d 122 (16, [a0, a1, some (.inl x), a3, a4], sk, h) res ↔ X xs L d 122 (17, [a0, a1, some (.inl x), a3, a4], .inl x :: sk, h) res := i_iload_n k_122_16 rfl
theorem e_122_17 : X xs L d 122 (17, lo, sk, h) res ↔ X xs L d 122 (18, lo, .inl 5 :: sk, h) res := i_iconst k_122_17
theorem e_122_18 {x y : Int32} : X xs L d 122 (18, lo, .inl y :: .inl x :: sk, h) res ↔ (if x ≤ y then X xs L d 122 (23, lo, sk, h) res else X xs L d 122 (21, lo, sk, h) res) := i_icmp_le k_122_18
theorem e_122_21 : X xs L d 122 (21, lo, sk, h) res ↔ X xs L d 122 (22, lo, .inl 0 :: sk, h) res := i_iconst k_122_21
theorem e_122_22 {v : Int32} : X xs L d 122 (22, lo, [.inl v], h) res ↔ (v = 0 ∨ v = 1) ∧ res = (some (.inl v), h) := i_zret k_122_22 rfl
theorem e_122_23 {x : Option Nat} {a1 a2 a3 a4 : Option AV} : X xs L d 122 (23, [some (.inr x), a1, a2, a3, a4], sk, h) res ↔ X xs L d 122 (24, [some (.inr x), a1, a2, a3, a4], .inr x :: sk, h) res := i_aload_n k_122_23 rfl
theorem e_122_24 {o : Nat} : X xs L d 122 (24, lo, .inr (some o) :: sk, h) res ↔ hK h o = 9 ∧ X xs L d 122 (27, lo, .inr (hR h o 20) :: sk, h) res := i_getR k_122_24
theorem e_122_27 : X xs L d 122 (27, lo, sk, h) res ↔ X xs L d 122 (29, lo, .inl 6 :: sk, h) res := i_bipush k_122_27
theorem e_122_29 {x : Int32} {a0 a1 a2 a3 : Option AV} : X xs L d 122 (29, [a0, a1, a2, a3, some (.inl x)], sk, h) res ↔ X xs L d 122 (31, [a0, a1, a2, a3, some (.inl x)], .inl x :: sk, h) res := i_iload k_122_29 rfl
theorem e_122_31 {x y : Int32} : X xs L d 122 (31, lo, .inl y :: .inl x :: sk, h) res ↔ X xs L d 122 (32, lo, .inl (x * y) :: sk, h) res := i_imul k_122_31
theorem e_122_32 {x : Int32} {a0 a1 a3 a4 : Option AV} : X xs L d 122 (32, [a0, a1, some (.inl x), a3, a4], sk, h) res ↔ X xs L d 122 (33, [a0, a1, some (.inl x), a3, a4], .inl x :: sk, h) res := i_iload_n k_122_32 rfl
theorem e_122_33 {x y : Int32} : X xs L d 122 (33, lo, .inl y :: .inl x :: sk, h) res ↔ X xs L d 122 (34, lo, .inl (x + y) :: sk, h) res := i_iadd k_122_33
theorem e_122_34 {x : Int32} {a0 a1 a2 a4 : Option AV} : X xs L d 122 (34, [a0, a1, a2, some (.inl x), a4], sk, h) res ↔ X xs L d 122 (35, [a0, a1, a2, some (.inl x), a4], .inl x :: sk, h) res := i_iload_n k_122_34 rfl
theorem e_122_35 {o : Nat} {i v : Int32} : X xs L d 122 (35, lo, .inl v :: .inl i :: .inr (some o) :: sk, h) res ↔ (hK h o = 20 ∧ vp_in i (hL h o)) ∧ X xs L d 122 (36, lo, sk, sI h o i.toNatClampNeg (v)) res := i_iastore k_122_35
theorem e_122_36 : X xs L d 122 (36, lo, sk, h) res ↔ X xs L d 122 (37, lo, .inl 1 :: sk, h) res := i_iconst k_122_36
theorem e_122_37 {v : Int32} : X xs L d 122 (37, lo, [.inl v], h) res ↔ (v = 0 ∨ v = 1) ∧ res = (some (.inl v), h) := i_zret k_122_37 rfl
theorem k_123_0 : am_cd 123 0 = some (.aload_n 0, 1, [], [])   := rfl
theorem k_123_1 : am_cd 123 1 = some (.iload_n 1, 1, [], [])   := rfl
theorem k_123_2 : am_cd 123 2 = some (.invokevirtual 249, 3, [118, 2, 9], [(0, 1006), (0, 1008), (0, 54)])   := rfl
theorem k_123_5 : am_cd 123 5 = some (.istore_n 2, 1, [], [])   := rfl
theorem k_123_6 : am_cd 123 6 = some (.aload_n 0, 1, [], [])   := rfl
theorem k_123_7 : am_cd 123 7 = some (.getfield 151, 3, [9, 4, 1], [(0, 708)])   := rfl
theorem k_123_10 : am_cd 123 10 = some (.ifCond .eq 16, 3, [26], [])   := rfl
theorem k_123_13 : am_cd 123 13 = some (.aload_n 0, 1, [], [])   := rfl
theorem k_123_14 : am_cd 123 14 = some (.bipush 41, 2, [], [(41, 0)])   := rfl
theorem k_123_16 : am_cd 123 16 = some (.invokevirtual 240, 3, [109, 2, 9], [(0, 965), (0, 967), (0, 52)])   := rfl
theorem k_123_19 : am_cd 123 19 = some (.ifCond .eq 7, 3, [26], [])   := rfl
theorem k_123_22 : am_cd 123 22 = some (.iconst 1, 1, [], [(1, 0)])   := rfl
theorem k_123_23 : am_cd 123 23 = some (.goto 4, 3, [27], [])   := rfl
theorem k_123_26 : am_cd 123 26 = some (.iconst 0, 1, [], [(0, 0)])   := rfl
theorem k_123_27 : am_cd 123 27 = some (.istore_n 3, 1, [], [])   := rfl
theorem k_123_28 : am_cd 123 28 = some (.aload_n 0, 1, [], [])   := rfl
theorem k_123_29 : am_cd 123 29 = some (.iconst 0, 1, [], [(0, 0)])   := rfl
theorem k_123_30 : am_cd 123 30 = some (.putfield 102, 3, [9, 0, 0], [(0, 704)])   := rfl
theorem k_123_33 : am_cd 123 33 = some (.iload_n 2, 1, [], [])   := rfl
theorem k_123_34 : am_cd 123 34 = some (.ifCond .lt 7, 3, [41], [])   := rfl
theorem k_123_37 : am_cd 123 37 = some (.iload_n 3, 1, [], [])   := rfl
theorem k_123_38 : am_cd 123 38 = some (.ifCond .ne 5, 3, [43], [])   := rfl
theorem k_123_41 : am_cd 123 41 = some (.iconst (-1), 1, [], [(-1, 0)])   := rfl
theorem k_123_42 : am_cd 123 42 = some (.ireturn, 1, [], [])   := rfl
theorem k_123_43 : am_cd 123 43 = some (.aload_n 0, 1, [], [])   := rfl
theorem k_123_44 : am_cd 123 44 = some (.bipush 41, 2, [], [(41, 0)])   := rfl
theorem k_123_46 : am_cd 123 46 = some (.iload_n 2, 1, [], [])   := rfl
theorem k_123_47 : am_cd 123 47 = some (.invokevirtual 234, 3, [105, 3, 9], [(0, 957), (0, 959), (0, 51)])   := rfl
theorem k_123_50 : am_cd 123 50 = some (.istore 4, 2, [], [])   := rfl
theorem k_123_52 : am_cd 123 52 = some (.aload_n 0, 1, [], [])   := rfl
theorem k_123_53 : am_cd 123 53 = some (.iload 4, 2, [], [])   := rfl
theorem k_123_55 : am_cd 123 55 = some (.ifCond .ne 10, 3, [65], [])   := rfl
theorem k_123_58 : am_cd 123 58 = some (.aload_n 0, 1, [], [])   := rfl
theorem k_123_59 : am_cd 123 59 = some (.getfield 185, 3, [9, 28, 0], [(0, 732)])   := rfl
theorem k_123_62 : am_cd 123 62 = some (.goto 7, 3, [69], [])   := rfl
theorem k_123_65 : am_cd 123 65 = some (.aload_n 0, 1, [], [])   := rfl
theorem k_123_66 : am_cd 123 66 = some (.getfield 170, 3, [9, 34, 0], [(0, 738)])   := rfl
theorem k_123_69 : am_cd 123 69 = some (.putfield 170, 3, [9, 34, 0], [(0, 738)])   := rfl
theorem k_123_72 : am_cd 123 72 = some (.iload 4, 2, [], [])   := rfl
theorem k_123_74 : am_cd 123 74 = some (.ireturn, 1, [], [])   := rfl
theorem e_123_0 {x : Option Nat} {a1 a2 a3 a4 : Option AV} : X xs L d 123 (0, [some (.inr x), a1, a2, a3, a4], sk, h) res ↔ X xs L d 123 (1, [some (.inr x), a1, a2, a3, a4], .inr x :: sk, h) res := i_aload_n k_123_0 rfl
theorem e_123_1 {x : Int32} {a0 a2 a3 a4 : Option AV} : X xs L d 123 (1, [a0, some (.inl x), a2, a3, a4], sk, h) res ↔ X xs L d 123 (2, [a0, some (.inl x), a2, a3, a4], .inl x :: sk, h) res := i_iload_n k_123_1 rfl
theorem e_123_2 {o : Nat} {v0 : Int32} (hs : sk.length ≤ 8) : X xs L d 123 (2, lo, .inl v0 :: .inr (some o) :: sk, h) res ↔ hK h o = 9 ∧ ∃ q : Res, Rn xs L d 118 [.inr (some o), .inl v0] h q ∧ X xs L d 123 (5, lo, q.1.toList ++ sk, q.2) res := i_callV k_123_2 rfl ⟨Nat.le_add_left 2 sk.length, Nat.le_trans (Nat.add_le_add_right hs 2) (Nat.le_of_eq (Nat.add_comm 8 2))⟩
theorem e_123_5 {x : Int32} {a0 a1 a2 a3 a4 : Option AV} : X xs L d 123 (5, [a0, a1, a2, a3, a4], .inl x :: sk, h) res ↔ X xs L d 123 (6, [a0, a1, some (.inl x), a3, a4], sk, h) res := i_istore_n k_123_5 (Nat.le_of_ble_eq_true rfl) rfl
theorem e_123_6 {x : Option Nat} {a1 a2 a3 a4 : Option AV} : X xs L d 123 (6, [some (.inr x), a1, a2, a3, a4], sk, h) res ↔ X xs L d 123 (7, [some (.inr x), a1, a2, a3, a4], .inr x :: sk, h) res := i_aload_n k_123_6 rfl
theorem e_123_7 {o : Nat} : X xs L d 123 (7, lo, .inr (some o) :: sk, h) res ↔ hK h o = 9 ∧ X xs L d 123 (10, lo, .inl (hI h o 4) :: sk, h) res := i_getZ k_123_7
theorem e_123_10 {x : Int32} : X xs L d 123 (10, lo, .inl x :: sk, h) res ↔ (if x = 0 then X xs L d 123 (26, lo, sk, h) res else X xs L d 123 (13, lo, sk, h) res) := i_if_eq k_123_10
theorem e_123_13 {x : Option Nat} {a1 a2 a3 a4 : Option AV} : X xs L d 123 (13, [some (.inr x), a1, a2, a3, a4], sk, h) res ↔ X xs L d 123 (14, [some (.inr x), a1, a2, a3, a4], .inr x :: sk, h) res := i_aload_n k_123_13 rfl
theorem e_123_14 : X xs L d 123 (14, lo, sk, h) res ↔ X xs L d 123 (16, lo, .inl 41 :: sk, h) res := i_bipush k_123_14
theorem e_123_16 {o : Nat} {v0 : Int32} (hs : sk.length ≤ 8) : X xs L d 123 (16, lo, .inl v0 :: .inr (some o) :: sk, h) res ↔ hK h o = 9 ∧ ∃ q : Res, Rn xs L d 109 [.inr (some o), .inl v0] h q ∧ X xs L d 123 (19, lo, q.1.toList ++ sk, q.2) res := i_callV k_123_16 rfl ⟨Nat.le_add_left 2 sk.length, Nat.le_trans (Nat.add_le_add_right hs 2) (Nat.le_of_eq (Nat.add_comm 8 2))⟩
theorem e_123_19 {x : Int32} : X xs L d 123 (19, lo, .inl x :: sk, h) res ↔ (if x = 0 then X xs L d 123 (26, lo, sk, h) res else X xs L d 123 (22, lo, sk, h) res) := i_if_eq k_123_19
theorem e_123_22 : X xs L d 123 (22, lo, sk, h) res ↔ X xs L d 123 (23, lo, .inl 1 :: sk, h) res := i_iconst k_123_22
theorem e_123_23 : X xs L d 123 (23, lo, sk, h) res ↔ X xs L d 123 (27, lo, sk, h) res := i_goto k_123_23
theorem e_123_26 : X xs L d 123 (26, lo, sk, h) res ↔ X xs L d 123 (27, lo, .inl 0 :: sk, h) res := i_iconst k_123_26
theorem e_123_27 {x : Int32} {a0 a1 a2 a3 a4 : Option AV} : X xs L d 123 (27, [a0, a1, a2, a3, a4], .inl x :: sk, h) res ↔ X xs L d 123 (28, [a0, a1, a2, some (.inl x), a4], sk, h) res := i_istore_n k_123_27 (Nat.le_of_ble_eq_true rfl) rfl
theorem e_123_28 {x : Option Nat} {a1 a2 a3 a4 : Option AV} : X xs L d 123 (28, [some (.inr x), a1, a2, a3, a4], sk, h) res ↔ X xs L d 123 (29, [some (.inr x), a1, a2, a3, a4], .inr x :: sk, h) res := i_aload_n k_123_28 rfl
theorem e_123_29 : X xs L d 123 (29, lo, sk, h) res ↔ X xs L d 123 (30, lo, .inl 0 :: sk, h) res := i_iconst k_123_29
theorem e_123_30 {o : Nat} {v : Int32} : X xs L d 123 (30, lo, .inl v :: .inr (some o) :: sk, h) res ↔ hK h o = 9 ∧ X xs L d 123 (33, lo, sk, sI h o 0 v) res := i_putI k_123_30
theorem e_123_33 {x : Int32} {a0 a1 a3 a4 : Option AV} : X xs L d 123 (33, [a0, a1, some (.inl x), a3, a4], sk, h) res ↔ X xs L d 123 (34, [a0, a1, some (.inl x), a3, a4], .inl x :: sk, h) res := i_iload_n k_123_33 rfl
theorem e_123_34 {x : Int32} : X xs L d 123 (34, lo, .inl x :: sk, h) res ↔ (if x < 0 then X xs L d 123 (41, lo, sk, h) res else X xs L d 123 (37, lo, sk, h) res) := i_if_lt k_123_34
theorem e_123_37 {x : Int32} {a0 a1 a2 a4 : Option AV} : X xs L d 123 (37, [a0, a1, a2, some (.inl x), a4], sk, h) res ↔ X xs L d 123 (38, [a0, a1, a2, some (.inl x), a4], .inl x :: sk, h) res := i_iload_n k_123_37 rfl
theorem e_123_38 {x : Int32} : X xs L d 123 (38, lo, .inl x :: sk, h) res ↔ (if x = 0 then X xs L d 123 (41, lo, sk, h) res else X xs L d 123 (43, lo, sk, h) res) := i_if_ne k_123_38
theorem e_123_41 : X xs L d 123 (41, lo, sk, h) res ↔ X xs L d 123 (42, lo, .inl (-1) :: sk, h) res := i_iconst k_123_41
theorem e_123_42 {v : Int32} : X xs L d 123 (42, lo, [.inl v], h) res ↔ res = (some (.inl v), h) := i_iret k_123_42 rfl
theorem e_123_43 {x : Option Nat} {a1 a2 a3 a4 : Option AV} : X xs L d 123 (43, [some (.inr x), a1, a2, a3, a4], sk, h) res ↔ X xs L d 123 (44, [some (.inr x), a1, a2, a3, a4], .inr x :: sk, h) res := i_aload_n k_123_43 rfl
theorem e_123_44 : X xs L d 123 (44, lo, sk, h) res ↔ X xs L d 123 (46, lo, .inl 41 :: sk, h) res := i_bipush k_123_44
theorem e_123_46 {x : Int32} {a0 a1 a3 a4 : Option AV} : X xs L d 123 (46, [a0, a1, some (.inl x), a3, a4], sk, h) res ↔ X xs L d 123 (47, [a0, a1, some (.inl x), a3, a4], .inl x :: sk, h) res := i_iload_n k_123_46 rfl
theorem e_123_47 {o : Nat} {v0 : Int32} {v1 : Int32} (hs : sk.length ≤ 8) : X xs L d 123 (47, lo, .inl v1 :: .inl v0 :: .inr (some o) :: sk, h) res ↔ hK h o = 9 ∧ ∃ q : Res, Rn xs L d 105 [.inr (some o), .inl v0, .inl v1] h q ∧ X xs L d 123 (50, lo, q.1.toList ++ sk, q.2) res := i_callV k_123_47 rfl ⟨Nat.le_add_left 3 sk.length, Nat.le_trans (Nat.add_le_add_right hs 3) (Nat.le_of_eq (Nat.add_comm 8 3))⟩
theorem e_123_50 {x : Int32} {a0 a1 a2 a3 a4 : Option AV} : X xs L d 123 (50, [a0, a1, a2, a3, a4], .inl x :: sk, h) res ↔ X xs L d 123 (52, [a0, a1, a2, a3, some (.inl x)], sk, h) res := i_istore k_123_50 (Nat.le_of_ble_eq_true rfl) rfl
theorem e_123_52 {x : Option Nat} {a1 a2 a3 a4 : Option AV} : X xs L d 123 (52, [some (.inr x), a1, a2, a3, a4], sk, h) res ↔ X xs L d 123 (53, [some (.inr x), a1, a2, a3, a4], .inr x :: sk, h) res := i_aload_n k_123_52 rfl
theorem e_123_53 {x : Int32} {a0 a1 a2 a3 : Option AV} : X xs L d 123 (53, [a0, a1, a2, a3, some (.inl x)], sk, h) res ↔ X xs L d 123 (55, [a0, a1, a2, a3, some (.inl x)], .inl x :: sk, h) res := i_iload k_123_53 rfl
theorem e_123_55 {x : Int32} : X xs L d 123 (55, lo, .inl x :: sk, h) res ↔ (if x = 0 then X xs L d 123 (58, lo, sk, h) res else X xs L d 123 (65, lo, sk, h) res) := i_if_ne k_123_55
theorem e_123_58 {x : Option Nat} {a1 a2 a3 a4 : Option AV} : X xs L d 123 (58, [some (.inr x), a1, a2, a3, a4], sk, h) res ↔ X xs L d 123 (59, [some (.inr x), a1, a2, a3, a4], .inr x :: sk, h) res := i_aload_n k_123_58 rfl
theorem e_123_59 {o : Nat} : X xs L d 123 (59, lo, .inr (some o) :: sk, h) res ↔ hK h o = 9 ∧ X xs L d 123 (62, lo, .inl (hI h o 28) :: sk, h) res := i_getI k_123_59
theorem e_123_62 : X xs L d 123 (62, lo, sk, h) res ↔ X xs L d 123 (69, lo, sk, h) res := i_goto k_123_62
theorem e_123_65 {x : Option Nat} {a1 a2 a3 a4 : Option AV} : X xs L d 123 (65, [some (.inr x), a1, a2, a3, a4], sk, h) res ↔ X xs L d 123 (66, [some (.inr x), a1, a2, a3, a4], .inr x :: sk, h) res := i_aload_n k_123_65 rfl
theorem e_123_66 {o : Nat} : X xs L d 123 (66, lo, .inr (some o) :: sk, h) res ↔ hK h o = 9 ∧ X xs L d 123 (69, lo, .inl (hI h o 34) :: sk, h) res := i_getI k_123_66
theorem e_123_69 {o : Nat} {v : Int32} : X xs L d 123 (69, lo, .inl v :: .inr (some o) :: sk, h) res ↔ hK h o = 9 ∧ X xs L d 123 (72, lo, sk, sI h o 34 v) res := i_putI k_123_69
theorem e_123_72 {x : Int32} {a0 a1 a2 a3 : Option AV} : X xs L d 123 (72, [a0, a1, a2, a3, some (.inl x)], sk, h) res ↔ X xs L d 123 (74, [a0, a1, a2, a3, some (.inl x)], .inl x :: sk, h) res := i_iload k_123_72 rfl
theorem e_123_74 {v : Int32} : X xs L d 123 (74, lo, [.inl v], h) res ↔ res = (some (.inl v), h) := i_iret k_123_74 rfl
theorem k_124_0 : am_cd 124 0 = some (.aload_n 0, 1, [], [])   := rfl
theorem k_124_1 : am_cd 124 1 = some (.getfield 170, 3, [9, 34, 0], [(0, 738)])   := rfl
theorem k_124_4 : am_cd 124 4 = some (.ireturn, 1, [], [])   := rfl
theorem e_124_0 {x : Option Nat} : X xs L d 124 (0, [some (.inr x)], sk, h) res ↔ X xs L d 124 (1, [some (.inr x)], .inr x :: sk, h) res := i_aload_n k_124_0 rfl
theorem e_124_1 {o : Nat} : X xs L d 124 (1, lo, .inr (some o) :: sk, h) res ↔ hK h o = 9 ∧ X xs L d 124 (4, lo, .inl (hI h o 34) :: sk, h) res := i_getI k_124_1
theorem e_124_4 {v : Int32} : X xs L d 124 (4, lo, [.inl v], h) res ↔ res = (some (.inl v), h) := i_iret k_124_4 rfl
theorem k_125_0 : am_cd 125 0 = some (.iload_n 1, 1, [], [])   := rfl
theorem k_125_1 : am_cd 125 1 = some (.iconst (-1), 1, [], [(-1, 0)])   := rfl
theorem k_125_2 : am_cd 125 2 = some (.if_icmp .ne 10, 3, [12], [])   := rfl
theorem k_125_5 : am_cd 125 5 = some (.aload_n 0, 1, [], [])   := rfl
theorem k_125_6 : am_cd 125 6 = some (.getfield 173, 3, [9, 40, 0], [(0, 744)])   := rfl
theorem k_125_9 : am_cd 125 9 = some (.goto 41, 3, [50], [])   := rfl
theorem k_125_12 : am_cd 125 12 = some (.iload_n 1, 1, [], [])   := rfl
theorem k_125_13 : am_cd 125 13 = some (.ifCond .lt 17, 3, [30], [])   := rfl
theorem k_125_16 : am_cd 125 16 = some (.iload_n 1, 1, [], [])   := rfl
theorem k_125_17 : am_cd 125 17 = some (.bipush 15, 2, [], [(15, 0)])   := rfl
theorem k_125_19 : am_cd 125 19 = some (.if_icmp .gt 11, 3, [30], [])   := rfl
theorem k_125_22 : am_cd 125 22 = some (.iload_n 1, 1, [], [])   := rfl
theorem k_125_23 : am_cd 125 23 = some (.aload_n 0, 1, [], [])   := rfl
theorem k_125_24 : am_cd 125 24 = some (.getfield 173, 3, [9, 40, 0], [(0, 744)])   := rfl
theorem k_125_27 : am_cd 125 27 = some (.if_icmp .lt 7, 3, [34], [])   := rfl
theorem k_125_30 : am_cd 125 30 = some (.iconst 0, 1, [], [(0, 0)])   := rfl
theorem k_125_31 : am_cd 125 31 = some (.goto 19, 3, [50], [])   := rfl
theorem k_125_34 : am_cd 125 34 = some (.aload_n 0, 1, [], [])   := rfl
theorem k_125_35 : am_cd 125 35 = some (.getfield 96, 3, [9, 41, 2], [(0, 745)])   := rfl
theorem k_125_38 : am_cd 125 38 = some (.aload_n 0, 1, [], [])   := rfl
theorem k_125_39 : am_cd 125 39 = some (.getfield 173, 3, [9, 40, 0], [(0, 744)])   := rfl
theorem k_125_42 : am_cd 125 42 = some (.iconst 1, 1, [], [(1, 0)])   := rfl
theorem k_125_43 : am_cd 125 43 = some (.isub, 1, [], [])   := rfl
theorem k_125_44 : am_cd 125 44 = some (.iload_n 1, 1, [], [])   := rfl
theorem k_125_45 : am_cd 125 45 = some (.isub, 1, [], [])   := rfl
theorem k_125_46 : am_cd 125 46 = some (.bipush 16, 2, [], [(16, 0)])   := rfl
theorem k_125_48 : am_cd 125 48 = some (.irem, 1, [], [])   := rfl
theorem k_125_49 : am_cd 125 49 = some (.iaload, 1, [], [])   := rfl
theorem k_125_50 : am_cd 125 50 = some (.ireturn, 1, [], [])   := rfl
theorem e_125_0 {x : Int32} {a0 : Option AV} : X xs L d 125 (0, [a0, some (.inl x)], sk, h) res ↔ X xs L d 125 (1, [a0, some (.inl x)], .inl x :: sk, h) res := i_iload_n k_125_0 rfl
theorem e_125_1 : X xs L d 125 (1, lo, sk, h) res ↔ X xs L d 125 (2, lo, .inl (-1) :: sk, h) res := i_iconst k_125_1
theorem e_125_2 {x y : Int32} : X xs L d 125 (2, lo, .inl y :: .inl x :: sk, h) res ↔ (if x = y then X xs L d 125 (5, lo, sk, h) res else X xs L d 125 (12, lo, sk, h) res) := i_icmp_ne k_125_2
theorem e_125_5 {x : Option Nat} {a1 : Option AV} : X xs L d 125 (5, [some (.inr x), a1], sk, h) res ↔ X xs L d 125 (6, [some (.inr x), a1], .inr x :: sk, h) res := i_aload_n k_125_5 rfl
theorem e_125_6 {o : Nat} : X xs L d 125 (6, lo, .inr (some o) :: sk, h) res ↔ hK h o = 9 ∧ X xs L d 125 (9, lo, .inl (hI h o 40) :: sk, h) res := i_getI k_125_6
theorem e_125_9 : X xs L d 125 (9, lo, sk, h) res ↔ X xs L d 125 (50, lo, sk, h) res := i_goto k_125_9
theorem e_125_12 {x : Int32} {a0 : Option AV} : X xs L d 125 (12, [a0, some (.inl x)], sk, h) res ↔ X xs L d 125 (13, [a0, some (.inl x)], .inl x :: sk, h) res := i_iload_n k_125_12 rfl
theorem e_125_13 {x : Int32} : X xs L d 125 (13, lo, .inl x :: sk, h) res ↔ (if x < 0 then X xs L d 125 (30, lo, sk, h) res else X xs L d 125 (16, lo, sk, h) res) := i_if_lt k_125_13
theorem e_125_16 {x : Int32} {a0 : Option AV} : X xs L d 125 (16, [a0, some (.inl x)], sk, h) res ↔ X xs L d 125 (17, [a0, some (.inl x)], .inl x :: sk, h) res := i_iload_n k_125_16 rfl
theorem e_125_17 : X xs L d 125 (17, lo, sk, h) res ↔ X xs L d 125 (19, lo, .inl 15 :: sk, h) res := i_bipush k_125_17
theorem e_125_19 {x y : Int32} : X xs L d 125 (19, lo, .inl y :: .inl x :: sk, h) res ↔ (if y < x then X xs L d 125 (30, lo, sk, h) res else X xs L d 125 (22, lo, sk, h) res) := i_icmp_gt k_125_19
theorem e_125_22 {x : Int32} {a0 : Option AV} : X xs L d 125 (22, [a0, some (.inl x)], sk, h) res ↔ X xs L d 125 (23, [a0, some (.inl x)], .inl x :: sk, h) res := i_iload_n k_125_22 rfl
theorem e_125_23 {x : Option Nat} {a1 : Option AV} : X xs L d 125 (23, [some (.inr x), a1], sk, h) res ↔ X xs L d 125 (24, [some (.inr x), a1], .inr x :: sk, h) res := i_aload_n k_125_23 rfl
theorem e_125_24 {o : Nat} : X xs L d 125 (24, lo, .inr (some o) :: sk, h) res ↔ hK h o = 9 ∧ X xs L d 125 (27, lo, .inl (hI h o 40) :: sk, h) res := i_getI k_125_24
theorem e_125_27 {x y : Int32} : X xs L d 125 (27, lo, .inl y :: .inl x :: sk, h) res ↔ (if x < y then X xs L d 125 (34, lo, sk, h) res else X xs L d 125 (30, lo, sk, h) res) := i_icmp_lt k_125_27
theorem e_125_30 : X xs L d 125 (30, lo, sk, h) res ↔ X xs L d 125 (31, lo, .inl 0 :: sk, h) res := i_iconst k_125_30
theorem e_125_31 : X xs L d 125 (31, lo, sk, h) res ↔ X xs L d 125 (50, lo, sk, h) res := i_goto k_125_31
theorem e_125_34 {x : Option Nat} {a1 : Option AV} : X xs L d 125 (34, [some (.inr x), a1], sk, h) res ↔ X xs L d 125 (35, [some (.inr x), a1], .inr x :: sk, h) res := i_aload_n k_125_34 rfl
theorem e_125_35 {o : Nat} : X xs L d 125 (35, lo, .inr (some o) :: sk, h) res ↔ hK h o = 9 ∧ X xs L d 125 (38, lo, .inr (hR h o 41) :: sk, h) res := i_getR k_125_35
theorem e_125_38 {x : Option Nat} {a1 : Option AV} : X xs L d 125 (38, [some (.inr x), a1], sk, h) res ↔ X xs L d 125 (39, [some (.inr x), a1], .inr x :: sk, h) res := i_aload_n k_125_38 rfl
theorem e_125_39 {o : Nat} : X xs L d 125 (39, lo, .inr (some o) :: sk, h) res ↔ hK h o = 9 ∧ X xs L d 125 (42, lo, .inl (hI h o 40) :: sk, h) res := i_getI k_125_39
theorem e_125_42 : X xs L d 125 (42, lo, sk, h) res ↔ X xs L d 125 (43, lo, .inl 1 :: sk, h) res := i_iconst k_125_42
theorem e_125_43 {x y : Int32} : X xs L d 125 (43, lo, .inl y :: .inl x :: sk, h) res ↔ X xs L d 125 (44, lo, .inl (x - y) :: sk, h) res := i_isub k_125_43
theorem e_125_44 {x : Int32} {a0 : Option AV} : X xs L d 125 (44, [a0, some (.inl x)], sk, h) res ↔ X xs L d 125 (45, [a0, some (.inl x)], .inl x :: sk, h) res := i_iload_n k_125_44 rfl
theorem e_125_45 {x y : Int32} : X xs L d 125 (45, lo, .inl y :: .inl x :: sk, h) res ↔ X xs L d 125 (46, lo, .inl (x - y) :: sk, h) res := i_isub k_125_45
theorem e_125_46 : X xs L d 125 (46, lo, sk, h) res ↔ X xs L d 125 (48, lo, .inl 16 :: sk, h) res := i_bipush k_125_46
theorem e_125_48 {x y : Int32} : X xs L d 125 (48, lo, .inl y :: .inl x :: sk, h) res ↔ (¬ y = 0) ∧ X xs L d 125 (49, lo, .inl (x - x / y * y) :: sk, h) res := i_irem k_125_48
theorem e_125_49 {o : Nat} {i : Int32} : X xs L d 125 (49, lo, .inl i :: .inr (some o) :: sk, h) res ↔ (hK h o = 20 ∧ vp_in i (hL h o)) ∧ X xs L d 125 (50, lo, .inl (hI h o i.toNatClampNeg) :: sk, h) res := i_iaload k_125_49
theorem e_125_50 {v : Int32} : X xs L d 125 (50, lo, [.inl v], h) res ↔ res = (some (.inl v), h) := i_iret k_125_50 rfl
theorem k_126_0 : am_cd 126 0 = some (.iload_n 1, 1, [], [])   := rfl
theorem k_126_1 : am_cd 126 1 = some (.iconst (-1), 1, [], [(-1, 0)])   := rfl
theorem k_126_2 : am_cd 126 2 = some (.if_icmp .ne 10, 3, [12], [])   := rfl
theorem k_126_5 : am_cd 126 5 = some (.aload_n 0, 1, [], [])   := rfl
theorem k_126_6 : am_cd 126 6 = some (.getfield 176, 3, [9, 42, 0], [(0, 746)])   := rfl
theorem k_126_9 : am_cd 126 9 = some (.goto 41, 3, [50], [])   := rfl
theorem k_126_12 : am_cd 126 12 = some (.iload_n 1, 1, [], [])   := rfl
theorem k_126_13 : am_cd 126 13 = some (.ifCond .lt 17, 3, [30], [])   := rfl
theorem k_126_16 : am_cd 126 16 = some (.iload_n 1, 1, [], [])   := rfl
theorem k_126_17 : am_cd 126 17 = some (.bipush 15, 2, [], [(15, 0)])   := rfl
theorem k_126_19 : am_cd 126 19 = some (.if_icmp .gt 11, 3, [30], [])   := rfl
theorem k_126_22 : am_cd 126 22 = some (.iload_n 1, 1, [], [])   := rfl
theorem k_126_23 : am_cd 126 23 = some (.aload_n 0, 1, [], [])   := rfl
theorem k_126_24 : am_cd 126 24 = some (.getfield 176, 3, [9, 42, 0], [(0, 746)])   := rfl
theorem k_126_27 : am_cd 126 27 = some (.if_icmp .lt 7, 3, [34], [])   := rfl
theorem k_126_30 : am_cd 126 30 = some (.iconst 0, 1, [], [(0, 0)])   := rfl
theorem k_126_31 : am_cd 126 31 = some (.goto 19, 3, [50], [])   := rfl
theorem k_126_34 : am_cd 126 34 = some (.aload_n 0, 1, [], [])   := rfl
theorem k_126_35 : am_cd 126 35 = some (.getfield 99, 3, [9, 43, 2], [(0, 747)])   := rfl
theorem k_126_38 : am_cd 126 38 = some (.aload_n 0, 1, [], [])   := rfl
theorem k_126_39 : am_cd 126 39 = some (.getfield 176, 3, [9, 42, 0], [(0, 746)])   := rfl
theorem k_126_42 : am_cd 126 42 = some (.iconst 1, 1, [], [(1, 0)])   := rfl
theorem k_126_43 : am_cd 126 43 = some (.isub, 1, [], [])   := rfl
theorem k_126_44 : am_cd 126 44 = some (.iload_n 1, 1, [], [])   := rfl
theorem k_126_45 : am_cd 126 45 = some (.isub, 1, [], [])   := rfl
theorem k_126_46 : am_cd 126 46 = some (.bipush 16, 2, [], [(16, 0)])   := rfl
theorem k_126_48 : am_cd 126 48 = some (.irem, 1, [], [])   := rfl
theorem k_126_49 : am_cd 126 49 = some (.iaload, 1, [], [])   := rfl
theorem k_126_50 : am_cd 126 50 = some (.ireturn, 1, [], [])   := rfl
theorem e_126_0 {x : Int32} {a0 : Option AV} : X xs L d 126 (0, [a0, some (.inl x)], sk, h) res ↔ X xs L d 126 (1, [a0, some (.inl x)], .inl x :: sk, h) res := i_iload_n k_126_0 rfl
theorem e_126_1 : X xs L d 126 (1, lo, sk, h) res ↔ X xs L d 126 (2, lo, .inl (-1) :: sk, h) res := i_iconst k_126_1
theorem e_126_2 {x y : Int32} : X xs L d 126 (2, lo, .inl y :: .inl x :: sk, h) res ↔ (if x = y then X xs L d 126 (5, lo, sk, h) res else X xs L d 126 (12, lo, sk, h) res) := i_icmp_ne k_126_2
theorem e_126_5 {x : Option Nat} {a1 : Option AV} : X xs L d 126 (5, [some (.inr x), a1], sk, h) res ↔ X xs L d 126 (6, [some (.inr x), a1], .inr x :: sk, h) res := i_aload_n k_126_5 rfl
theorem e_126_6 {o : Nat} : X xs L d 126 (6, lo, .inr (some o) :: sk, h) res ↔ hK h o = 9 ∧ X xs L d 126 (9, lo, .inl (hI h o 42) :: sk, h) res := i_getI k_126_6
theorem e_126_9 : X xs L d 126 (9, lo, sk, h) res ↔ X xs L d 126 (50, lo, sk, h) res := i_goto k_126_9
theorem e_126_12 {x : Int32} {a0 : Option AV} : X xs L d 126 (12, [a0, some (.inl x)], sk, h) res ↔ X xs L d 126 (13, [a0, some (.inl x)], .inl x :: sk, h) res := i_iload_n k_126_12 rfl
theorem e_126_13 {x : Int32} : X xs L d 126 (13, lo, .inl x :: sk, h) res ↔ (if x < 0 then X xs L d 126 (30, lo, sk, h) res else X xs L d 126 (16, lo, sk, h) res) := i_if_lt k_126_13
theorem e_126_16 {x : Int32} {a0 : Option AV} : X xs L d 126 (16, [a0, some (.inl x)], sk, h) res ↔ X xs L d 126 (17, [a0, some (.inl x)], .inl x :: sk, h) res := i_iload_n k_126_16 rfl
theorem e_126_17 : X xs L d 126 (17, lo, sk, h) res ↔ X xs L d 126 (19, lo, .inl 15 :: sk, h) res := i_bipush k_126_17
theorem e_126_19 {x y : Int32} : X xs L d 126 (19, lo, .inl y :: .inl x :: sk, h) res ↔ (if y < x then X xs L d 126 (30, lo, sk, h) res else X xs L d 126 (22, lo, sk, h) res) := i_icmp_gt k_126_19
theorem e_126_22 {x : Int32} {a0 : Option AV} : X xs L d 126 (22, [a0, some (.inl x)], sk, h) res ↔ X xs L d 126 (23, [a0, some (.inl x)], .inl x :: sk, h) res := i_iload_n k_126_22 rfl
theorem e_126_23 {x : Option Nat} {a1 : Option AV} : X xs L d 126 (23, [some (.inr x), a1], sk, h) res ↔ X xs L d 126 (24, [some (.inr x), a1], .inr x :: sk, h) res := i_aload_n k_126_23 rfl
theorem e_126_24 {o : Nat} : X xs L d 126 (24, lo, .inr (some o) :: sk, h) res ↔ hK h o = 9 ∧ X xs L d 126 (27, lo, .inl (hI h o 42) :: sk, h) res := i_getI k_126_24
theorem e_126_27 {x y : Int32} : X xs L d 126 (27, lo, .inl y :: .inl x :: sk, h) res ↔ (if x < y then X xs L d 126 (34, lo, sk, h) res else X xs L d 126 (30, lo, sk, h) res) := i_icmp_lt k_126_27
theorem e_126_30 : X xs L d 126 (30, lo, sk, h) res ↔ X xs L d 126 (31, lo, .inl 0 :: sk, h) res := i_iconst k_126_30
theorem e_126_31 : X xs L d 126 (31, lo, sk, h) res ↔ X xs L d 126 (50, lo, sk, h) res := i_goto k_126_31
theorem e_126_34 {x : Option Nat} {a1 : Option AV} : X xs L d 126 (34, [some (.inr x), a1], sk, h) res ↔ X xs L d 126 (35, [some (.inr x), a1], .inr x :: sk, h) res := i_aload_n k_126_34 rfl
theorem e_126_35 {o : Nat} : X xs L d 126 (35, lo, .inr (some o) :: sk, h) res ↔ hK h o = 9 ∧ X xs L d 126 (38, lo, .inr (hR h o 43) :: sk, h) res := i_getR k_126_35
theorem e_126_38 {x : Option Nat} {a1 : Option AV} : X xs L d 126 (38, [some (.inr x), a1], sk, h) res ↔ X xs L d 126 (39, [some (.inr x), a1], .inr x :: sk, h) res := i_aload_n k_126_38 rfl
theorem e_126_39 {o : Nat} : X xs L d 126 (39, lo, .inr (some o) :: sk, h) res ↔ hK h o = 9 ∧ X xs L d 126 (42, lo, .inl (hI h o 42) :: sk, h) res := i_getI k_126_39
theorem e_126_42 : X xs L d 126 (42, lo, sk, h) res ↔ X xs L d 126 (43, lo, .inl 1 :: sk, h) res := i_iconst k_126_42
theorem e_126_43 {x y : Int32} : X xs L d 126 (43, lo, .inl y :: .inl x :: sk, h) res ↔ X xs L d 126 (44, lo, .inl (x - y) :: sk, h) res := i_isub k_126_43
theorem e_126_44 {x : Int32} {a0 : Option AV} : X xs L d 126 (44, [a0, some (.inl x)], sk, h) res ↔ X xs L d 126 (45, [a0, some (.inl x)], .inl x :: sk, h) res := i_iload_n k_126_44 rfl
theorem e_126_45 {x y : Int32} : X xs L d 126 (45, lo, .inl y :: .inl x :: sk, h) res ↔ X xs L d 126 (46, lo, .inl (x - y) :: sk, h) res := i_isub k_126_45
theorem e_126_46 : X xs L d 126 (46, lo, sk, h) res ↔ X xs L d 126 (48, lo, .inl 16 :: sk, h) res := i_bipush k_126_46
theorem e_126_48 {x y : Int32} : X xs L d 126 (48, lo, .inl y :: .inl x :: sk, h) res ↔ (¬ y = 0) ∧ X xs L d 126 (49, lo, .inl (x - x / y * y) :: sk, h) res := i_irem k_126_48
theorem e_126_49 {o : Nat} {i : Int32} : X xs L d 126 (49, lo, .inl i :: .inr (some o) :: sk, h) res ↔ (hK h o = 20 ∧ vp_in i (hL h o)) ∧ X xs L d 126 (50, lo, .inl (hI h o i.toNatClampNeg) :: sk, h) res := i_iaload k_126_49
theorem e_126_50 {v : Int32} : X xs L d 126 (50, lo, [.inl v], h) res ↔ res = (some (.inl v), h) := i_iret k_126_50 rfl
theorem k_127_0 : am_cd 127 0 = some (.iconst 0, 1, [], [(0, 0)])   := rfl
theorem k_127_1 : am_cd 127 1 = some (.istore_n 2, 1, [], [])   := rfl
theorem k_127_2 : am_cd 127 2 = some (.aload_n 0, 1, [], [])   := rfl
theorem k_127_3 : am_cd 127 3 = some (.arraylength, 1, [], [])   := rfl
theorem k_127_4 : am_cd 127 4 = some (.istore_n 3, 1, [], [])   := rfl
theorem k_127_5 : am_cd 127 5 = some (.iload_n 2, 1, [], [])   := rfl
theorem k_127_6 : am_cd 127 6 = some (.iload_n 3, 1, [], [])   := rfl
theorem k_127_7 : am_cd 127 7 = some (.if_icmp .ge 13, 3, [20], [])   := rfl
theorem k_127_10 : am_cd 127 10 = some (.aload_n 0, 1, [], [])   := rfl
theorem k_127_11 : am_cd 127 11 = some (.iload_n 2, 1, [], [])   := rfl
theorem k_127_12 : am_cd 127 12 = some (.iload_n 1, 1, [], [])   := rfl
theorem k_127_13 : am_cd 127 13 = some (.iastore, 1, [], [])   := rfl
theorem k_127_14 : am_cd 127 14 = some (.iinc 2 1, 3, [], [(1, 0)])   := rfl
theorem k_127_17 : am_cd 127 17 = some (.goto (-12), 3, [5], [])   := rfl
theorem k_127_20 : am_cd 127 20 = some (.return_, 1, [], [])   := rfl
theorem e_127_0 : X xs L d 127 (0, lo, sk, h) res ↔ X xs L d 127 (1, lo, .inl 0 :: sk, h) res := i_iconst k_127_0
theorem e_127_1 {x : Int32} {a0 a1 a2 a3 : Option AV} : X xs L d 127 (1, [a0, a1, a2, a3], .inl x :: sk, h) res ↔ X xs L d 127 (2, [a0, a1, some (.inl x), a3], sk, h) res := i_istore_n k_127_1 (Nat.le_of_ble_eq_true rfl) rfl
theorem e_127_2 {x : Option Nat} {a1 a2 a3 : Option AV} : X xs L d 127 (2, [some (.inr x), a1, a2, a3], sk, h) res ↔ X xs L d 127 (3, [some (.inr x), a1, a2, a3], .inr x :: sk, h) res := i_aload_n k_127_2 rfl
theorem e_127_3 {o : Nat} : X xs L d 127 (3, lo, .inr (some o) :: sk, h) res ↔ (20 ≤ hK h o ∧ hK h o ≤ 24) ∧ X xs L d 127 (4, lo, .inl (nI (hL h o)) :: sk, h) res := i_alen k_127_3
theorem e_127_4 {x : Int32} {a0 a1 a2 a3 : Option AV} : X xs L d 127 (4, [a0, a1, a2, a3], .inl x :: sk, h) res ↔ X xs L d 127 (5, [a0, a1, a2, some (.inl x)], sk, h) res := i_istore_n k_127_4 (Nat.le_of_ble_eq_true rfl) rfl
theorem e_127_5 {x : Int32} {a0 a1 a3 : Option AV} : X xs L d 127 (5, [a0, a1, some (.inl x), a3], sk, h) res ↔ X xs L d 127 (6, [a0, a1, some (.inl x), a3], .inl x :: sk, h) res := i_iload_n k_127_5 rfl
theorem e_127_6 {x : Int32} {a0 a1 a2 : Option AV} : X xs L d 127 (6, [a0, a1, a2, some (.inl x)], sk, h) res ↔ X xs L d 127 (7, [a0, a1, a2, some (.inl x)], .inl x :: sk, h) res := i_iload_n k_127_6 rfl
theorem e_127_7 {x y : Int32} : X xs L d 127 (7, lo, .inl y :: .inl x :: sk, h) res ↔ (if y ≤ x then X xs L d 127 (20, lo, sk, h) res else X xs L d 127 (10, lo, sk, h) res) := i_icmp_ge k_127_7
theorem e_127_10 {x : Option Nat} {a1 a2 a3 : Option AV} : X xs L d 127 (10, [some (.inr x), a1, a2, a3], sk, h) res ↔ X xs L d 127 (11, [some (.inr x), a1, a2, a3], .inr x :: sk, h) res := i_aload_n k_127_10 rfl
theorem e_127_11 {x : Int32} {a0 a1 a3 : Option AV} : X xs L d 127 (11, [a0, a1, some (.inl x), a3], sk, h) res ↔ X xs L d 127 (12, [a0, a1, some (.inl x), a3], .inl x :: sk, h) res := i_iload_n k_127_11 rfl
theorem e_127_12 {x : Int32} {a0 a2 a3 : Option AV} : X xs L d 127 (12, [a0, some (.inl x), a2, a3], sk, h) res ↔ X xs L d 127 (13, [a0, some (.inl x), a2, a3], .inl x :: sk, h) res := i_iload_n k_127_12 rfl
theorem e_127_13 {o : Nat} {i v : Int32} : X xs L d 127 (13, lo, .inl v :: .inl i :: .inr (some o) :: sk, h) res ↔ (hK h o = 20 ∧ vp_in i (hL h o)) ∧ X xs L d 127 (14, lo, sk, sI h o i.toNatClampNeg (v)) res := i_iastore k_127_13
theorem e_127_14 {x : Int32} {a0 a1 a3 : Option AV} : X xs L d 127 (14, [a0, a1, some (.inl x), a3], sk, h) res ↔ X xs L d 127 (17, [a0, a1, some (.inl (x + 1)), a3], sk, h) res := i_iinc k_127_14 rfl rfl
theorem e_127_17 : X xs L d 127 (17, lo, sk, h) res ↔ X xs L d 127 (5, lo, sk, h) res := i_goto k_127_17
theorem e_127_20 : X xs L d 127 (20, lo, [], h) res ↔ res = (none, h) := i_vret k_127_20 rfl
theorem k_128_0 : am_cd 128 0 = some (.iload_n 1, 1, [], [])   := rfl
theorem k_128_1 : am_cd 128 1 = some (.aload_n 0, 1, [], [])   := rfl
theorem k_128_2 : am_cd 128 2 = some (.arraylength, 1, [], [])   := rfl
theorem k_128_3 : am_cd 128 3 = some (.if_icmp .ne 11, 3, [14], [])   := rfl
theorem k_128_6 : am_cd 128 6 = some (.aload_n 0, 1, [], [])   := rfl
theorem k_128_7 : am_cd 128 7 = some (.invokevirtual 316, 3, [0], [(0, 448), (0, 449), (0, 450), (0, 451), (0, 452), (0, 453)])   := rfl
theorem k_128_10 : am_cd 128 10 = some (.checkcast 317, 3, [], [(0, 454)])   := rfl
theorem k_128_13 : am_cd 128 13 = some (.areturn, 1, [], [])   := rfl
theorem k_128_14 : am_cd 128 14 = some (.iload_n 1, 1, [], [])   := rfl
theorem k_128_15 : am_cd 128 15 = some (.newarray .int, 2, [20], [(0, 136)])   := rfl
theorem k_128_17 : am_cd 128 17 = some (.astore_n 2, 1, [], [])   := rfl
theorem k_128_18 : am_cd 128 18 = some (.aload_n 0, 1, [], [])   := rfl
theorem k_128_19 : am_cd 128 19 = some (.iconst 0, 1, [], [(0, 0)])   := rfl
theorem k_128_20 : am_cd 128 20 = some (.aload_n 2, 1, [], [])   := rfl
theorem k_128_21 : am_cd 128 21 = some (.iconst 0, 1, [], [(0, 0)])   := rfl
theorem k_128_22 : am_cd 128 22 = some (.aload_n 0, 1, [], [])   := rfl
theorem k_128_23 : am_cd 128 23 = some (.arraylength, 1, [], [])   := rfl
theorem k_128_24 : am_cd 128 24 = some (.iload_n 1, 1, [], [])   := rfl
theorem k_128_25 : am_cd 128 25 = some (.invokestatic 304, 3, [129, 2], [(0, 455), (0, 351)])   := rfl
theorem k_128_28 : am_cd 128 28 = some (.invokestatic 150, 3, [], [(0, 456), (0, 458), (0, 457), (0, 72)])   := rfl
theorem k_128_31 : am_cd 128 31 = some (.aload_n 2, 1, [], [])   := rfl
theorem k_128_32 : am_cd 128 32 = some (.areturn, 1, [], [])   := rfl
theorem e_128_0 {x : Int32} {a0 a2 : Option AV} : X xs L d 128 (0, [a0, some (.inl x), a2], sk, h) res ↔ X xs L d 128 (1, [a0, some (.inl x), a2], .inl x :: sk, h) res := i_iload_n k_128_0 rfl
theorem e_128_1 {x : Option Nat} {a1 a2 : Option AV} : X xs L d 128 (1, [some (.inr x), a1, a2], sk, h) res ↔ X xs L d 128 (2, [some (.inr x), a1, a2], .inr x :: sk, h) res := i_aload_n k_128_1 rfl
theorem e_128_2 {o : Nat} : X xs L d 128 (2, lo, .inr (some o) :: sk, h) res ↔ (20 ≤ hK h o ∧ hK h o ≤ 24) ∧ X xs L d 128 (3, lo, .inl (nI (hL h o)) :: sk, h) res := i_alen k_128_2
theorem e_128_3 {x y : Int32} : X xs L d 128 (3, lo, .inl y :: .inl x :: sk, h) res ↔ (if x = y then X xs L d 128 (6, lo, sk, h) res else X xs L d 128 (14, lo, sk, h) res) := i_icmp_ne k_128_3
theorem e_128_6 {x : Option Nat} {a1 a2 : Option AV} : X xs L d 128 (6, [some (.inr x), a1, a2], sk, h) res ↔ X xs L d 128 (7, [some (.inr x), a1, a2], .inr x :: sk, h) res := i_aload_n k_128_6 rfl
theorem e_128_7 {o : Nat} : X xs L d 128 (7, lo, .inr (some o) :: sk, h) res ↔ (hK h o = 20 ∧ sk.length ≤ 8) ∧ X xs L d 128 (10, lo, .inr (some (hN h)) :: sk, sA (nw h 20 (hL h o) (hL h o)) (hN h) (hI h o)) res := i_cln k_128_7
theorem e_128_10 {o : Nat} : X xs L d 128 (10, lo, .inr (some o) :: sk, h) res ↔ hK h o = 20 ∧ X xs L d 128 (13, lo, .inr (some o) :: sk, h) res := i_cch k_128_10
theorem e_128_13 {v : Option Nat} : X xs L d 128 (13, lo, [.inr v], h) res ↔ res = (some (.inr v), h) := i_rret k_128_13 rfl
theorem e_128_14 {x : Int32} {a0 a2 : Option AV} : X xs L d 128 (14, [a0, some (.inl x), a2], sk, h) res ↔ X xs L d 128 (15, [a0, some (.inl x), a2], .inl x :: sk, h) res := i_iload_n k_128_14 rfl
theorem e_128_15 {i : Int32} : X xs L d 128 (15, lo, .inl i :: sk, h) res ↔ (¬ i < 0 ∧ i.toNatClampNeg ≤ 100000) ∧ X xs L d 128 (17, lo, .inr (some (hN h)) :: sk, nw h 20 i.toNatClampNeg i.toNatClampNeg) res := i_newarray k_128_15
theorem e_128_17 {x : Option Nat} {a0 a1 a2 : Option AV} : X xs L d 128 (17, [a0, a1, a2], .inr x :: sk, h) res ↔ X xs L d 128 (18, [a0, a1, some (.inr x)], sk, h) res := i_astore_n k_128_17 (Nat.le_of_ble_eq_true rfl) rfl
theorem e_128_18 {x : Option Nat} {a1 a2 : Option AV} : X xs L d 128 (18, [some (.inr x), a1, a2], sk, h) res ↔ X xs L d 128 (19, [some (.inr x), a1, a2], .inr x :: sk, h) res := i_aload_n k_128_18 rfl
theorem e_128_19 : X xs L d 128 (19, lo, sk, h) res ↔ X xs L d 128 (20, lo, .inl 0 :: sk, h) res := i_iconst k_128_19
theorem e_128_20 {x : Option Nat} {a0 a1 : Option AV} : X xs L d 128 (20, [a0, a1, some (.inr x)], sk, h) res ↔ X xs L d 128 (21, [a0, a1, some (.inr x)], .inr x :: sk, h) res := i_aload_n k_128_20 rfl
theorem e_128_21 : X xs L d 128 (21, lo, sk, h) res ↔ X xs L d 128 (22, lo, .inl 0 :: sk, h) res := i_iconst k_128_21
theorem e_128_22 {x : Option Nat} {a1 a2 : Option AV} : X xs L d 128 (22, [some (.inr x), a1, a2], sk, h) res ↔ X xs L d 128 (23, [some (.inr x), a1, a2], .inr x :: sk, h) res := i_aload_n k_128_22 rfl
theorem e_128_23 {o : Nat} : X xs L d 128 (23, lo, .inr (some o) :: sk, h) res ↔ (20 ≤ hK h o ∧ hK h o ≤ 24) ∧ X xs L d 128 (24, lo, .inl (nI (hL h o)) :: sk, h) res := i_alen k_128_23
theorem e_128_24 {x : Int32} {a0 a2 : Option AV} : X xs L d 128 (24, [a0, some (.inl x), a2], sk, h) res ↔ X xs L d 128 (25, [a0, some (.inl x), a2], .inl x :: sk, h) res := i_iload_n k_128_24 rfl
theorem e_128_25 {v0 : Int32} {v1 : Int32} (hs : sk.length ≤ 8) : X xs L d 128 (25, lo, .inl v1 :: .inl v0 :: sk, h) res ↔ ∃ q : Res, Rn xs L d 129 [.inl v0, .inl v1] h q ∧ X xs L d 128 (28, lo, q.1.toList ++ sk, q.2) res := i_callS k_128_25 ⟨Nat.le_add_left 2 sk.length, Nat.le_trans (Nat.add_le_add_right hs 2) (Nat.le_of_eq (Nat.add_comm 8 2))⟩
theorem e_128_28 {o q : Nat} {n dp sp : Int32} : X xs L d 128 (28, lo, .inl n :: .inl dp :: .inr (some q) :: .inl sp :: .inr (some o) :: sk, h) res ↔ ((hK h o = 20 ∧ hK h q = 20 ∧ o ≠ q) ∧ (¬ sp < 0 ∧ ¬ dp < 0 ∧ ¬ n < 0) ∧ (sp.toNatClampNeg + n.toNatClampNeg ≤ hL h o ∧ dp.toNatClampNeg + n.toNatClampNeg ≤ hL h q) ∧ sk.length ≤ 8) ∧ X xs L d 128 (31, lo, sk, sA h q (va_cpy (hI h o) (hI h q) sp.toNatClampNeg dp.toNatClampNeg n.toNatClampNeg)) res := i_acpy k_128_28
theorem e_128_31 {x : Option Nat} {a0 a1 : Option AV} : X xs L d 128 (31, [a0, a1, some (.inr x)], sk, h) res ↔ X xs L d 128 (32, [a0, a1, some (.inr x)], .inr x :: sk, h) res := i_aload_n k_128_31 rfl
theorem e_128_32 {v : Option Nat} : X xs L d 128 (32, lo, [.inr v], h) res ↔ res = (some (.inr v), h) := i_rret k_128_32 rfl
theorem k_129_0 : am_cd 129 0 = some (.iload_n 0, 1, [], [])   := rfl
theorem k_129_1 : am_cd 129 1 = some (.iload_n 1, 1, [], [])   := rfl
theorem k_129_2 : am_cd 129 2 = some (.if_icmp .gt 7, 3, [9], [])   := rfl
theorem k_129_5 : am_cd 129 5 = some (.iload_n 0, 1, [], [])   := rfl
theorem k_129_6 : am_cd 129 6 = some (.goto 4, 3, [10], [])   := rfl
theorem k_129_9 : am_cd 129 9 = some (.iload_n 1, 1, [], [])   := rfl
theorem k_129_10 : am_cd 129 10 = some (.ireturn, 1, [], [])   := rfl
theorem e_129_0 {x : Int32} {a1 : Option AV} : X xs L d 129 (0, [some (.inl x), a1], sk, h) res ↔ X xs L d 129 (1, [some (.inl x), a1], .inl x :: sk, h) res := i_iload_n k_129_0 rfl
theorem e_129_1 {x : Int32} {a0 : Option AV} : X xs L d 129 (1, [a0, some (.inl x)], sk, h) res ↔ X xs L d 129 (2, [a0, some (.inl x)], .inl x :: sk, h) res := i_iload_n k_129_1 rfl
theorem e_129_2 {x y : Int32} : X xs L d 129 (2, lo, .inl y :: .inl x :: sk, h) res ↔ (if y < x then X xs L d 129 (9, lo, sk, h) res else X xs L d 129 (5, lo, sk, h) res) := i_icmp_gt k_129_2
theorem e_129_5 {x : Int32} {a1 : Option AV} : X xs L d 129 (5, [some (.inl x), a1], sk, h) res ↔ X xs L d 129 (6, [some (.inl x), a1], .inl x :: sk, h) res := i_iload_n k_129_5 rfl
theorem e_129_6 : X xs L d 129 (6, lo, sk, h) res ↔ X xs L d 129 (10, lo, sk, h) res := i_goto k_129_6
theorem e_129_9 {x : Int32} {a0 : Option AV} : X xs L d 129 (9, [a0, some (.inl x)], sk, h) res ↔ X xs L d 129 (10, [a0, some (.inl x)], .inl x :: sk, h) res := i_iload_n k_129_9 rfl
theorem e_129_10 {v : Int32} : X xs L d 129 (10, lo, [.inl v], h) res ↔ res = (some (.inl v), h) := i_iret k_129_10 rfl
theorem k_130_0 : am_cd 130 0 = some (.new 7, 3, [8, 9], [(0, 74), (0, 75), (0, 56)])   := rfl
theorem k_130_3 : am_cd 130 3 = some (.dup, 1, [], [])   := rfl
theorem k_130_4 : am_cd 130 4 = some (.invokespecial 9, 3, [50, 1, 8], [(0, 76), (0, 77)])   := rfl
theorem k_130_7 : am_cd 130 7 = some (.astore_n 1, 1, [], [])   := rfl
theorem k_130_8 : am_cd 130 8 = some (.new 10, 3, [9, 44], [(0, 698), (0, 699), (0, 62)])   := rfl
theorem k_130_11 : am_cd 130 11 = some (.dup, 1, [], [])   := rfl
theorem k_130_12 : am_cd 130 12 = some (.invokespecial 12, 3, [75, 1, 9], [(0, 700), (0, 701)])   := rfl
theorem k_130_15 : am_cd 130 15 = some (.astore_n 2, 1, [], [])   := rfl
theorem k_130_16 : am_cd 130 16 = some (.iconst 0, 1, [], [(0, 0)])   := rfl
theorem k_130_17 : am_cd 130 17 = some (.istore_n 3, 1, [], [])   := rfl
theorem k_130_18 : am_cd 130 18 = some (.iload_n 3, 1, [], [])   := rfl
theorem k_130_19 : am_cd 130 19 = some (.aload_n 0, 1, [], [])   := rfl
theorem k_130_20 : am_cd 130 20 = some (.arraylength, 1, [1], [])   := rfl
theorem k_130_21 : am_cd 130 21 = some (.iconst 4, 1, [], [(4, 0)])   := rfl
theorem k_130_22 : am_cd 130 22 = some (.isub, 1, [], [])   := rfl
theorem k_130_23 : am_cd 130 23 = some (.if_icmp .gt 593, 3, [616], [])   := rfl
theorem k_130_26 : am_cd 130 26 = some (.aload_n 0, 1, [], [])   := rfl
theorem k_130_27 : am_cd 130 27 = some (.iload_n 3, 1, [], [])   := rfl
theorem k_130_28 : am_cd 130 28 = some (.iaload, 1, [1], [])   := rfl
theorem k_130_29 : am_cd 130 29 = some (.bipush 31, 2, [], [(31, 0)])   := rfl
theorem k_130_31 : am_cd 130 31 = some (.iand, 1, [], [])   := rfl
theorem k_130_32 : am_cd 130 32 = some (.tableswitch 578 0 19 #[96, 121, 134, 147, 160, 173, 232, 255, 278, 315, 348, 361, 374, 397, 420, 453, 496, 519, 532, 555], 96, [610], [(0, 128), (1, 153), (2, 166), (3, 179), (4, 192), (5, 205), (6, 264), (7, 287), (8, 310), (9, 347), (10, 380), (11, 393), (12, 406), (13, 429), (14, 452), (15, 485), (16, 528), (17, 551), (18, 564), (19, 587)])   := rfl
theorem k_130_128 : am_cd 130 128 = some (.aload_n 1, 1, [], [])   := rfl
theorem k_130_129 : am_cd 130 129 = some (.aload_n 0, 1, [], [])   := rfl
theorem k_130_130 : am_cd 130 130 = some (.iload_n 3, 1, [], [])   := rfl
theorem k_130_131 : am_cd 130 131 = some (.iconst 1, 1, [], [(1, 0)])   := rfl
theorem k_130_132 : am_cd 130 132 = some (.iadd, 1, [], [])   := rfl
theorem k_130_133 : am_cd 130 133 = some (.iaload, 1, [1], [])   := rfl
theorem k_130_134 : am_cd 130 134 = some (.i2c, 1, [], [])   := rfl
theorem k_130_135 : am_cd 130 135 = some (.invokevirtual 13, 3, [51, 2, 8], [(0, 256), (0, 257), (0, 258)])   := rfl
theorem k_130_138 : am_cd 130 138 = some (.aload_n 2, 1, [], [])   := rfl
theorem k_130_139 : am_cd 130 139 = some (.aload_n 0, 1, [], [])   := rfl
theorem k_130_140 : am_cd 130 140 = some (.iload_n 3, 1, [], [])   := rfl
theorem k_130_141 : am_cd 130 141 = some (.iconst 1, 1, [], [(1, 0)])   := rfl
theorem k_130_142 : am_cd 130 142 = some (.iadd, 1, [], [])   := rfl
theorem k_130_143 : am_cd 130 143 = some (.iaload, 1, [1], [])   := rfl
theorem k_130_144 : am_cd 130 144 = some (.i2c, 1, [], [])   := rfl
theorem k_130_145 : am_cd 130 145 = some (.invokevirtual 17, 3, [76, 2, 9], [(0, 838), (0, 839), (0, 840)])   := rfl
theorem k_130_148 : am_cd 130 148 = some (.if_icmp .eq 462, 3, [610], [])   := rfl
theorem k_130_151 : am_cd 130 151 = some (.iconst 0, 1, [], [(0, 0)])   := rfl
theorem k_130_152 : am_cd 130 152 = some (.ireturn, 1, [], [])   := rfl
theorem k_130_153 : am_cd 130 153 = some (.aload_n 1, 1, [], [])   := rfl
theorem k_130_154 : am_cd 130 154 = some (.invokevirtual 18, 3, [52, 1, 8], [(0, 264), (0, 265), (0, 266)])   := rfl
theorem k_130_157 : am_cd 130 157 = some (.aload_n 2, 1, [], [])   := rfl
theorem k_130_158 : am_cd 130 158 = some (.invokevirtual 22, 3, [89, 1, 9], [(0, 842), (0, 843), (0, 844)])   := rfl
theorem k_130_161 : am_cd 130 161 = some (.if_icmp .eq 449, 3, [610], [])   := rfl
theorem k_130_164 : am_cd 130 164 = some (.iconst 0, 1, [], [(0, 0)])   := rfl
theorem k_130_165 : am_cd 130 165 = some (.ireturn, 1, [], [])   := rfl
theorem k_130_166 : am_cd 130 166 = some (.aload_n 1, 1, [], [])   := rfl
theorem k_130_167 : am_cd 130 167 = some (.invokevirtual 23, 3, [53, 1, 8], [(0, 510), (0, 511), (0, 512)])   := rfl
theorem k_130_170 : am_cd 130 170 = some (.aload_n 2, 1, [], [])   := rfl
theorem k_130_171 : am_cd 130 171 = some (.invokevirtual 26, 3, [104, 1, 9], [(0, 890), (0, 891), (0, 892)])   := rfl
theorem k_130_174 : am_cd 130 174 = some (.if_icmp .eq 436, 3, [610], [])   := rfl
theorem k_130_177 : am_cd 130 177 = some (.iconst 0, 1, [], [(0, 0)])   := rfl
theorem k_130_178 : am_cd 130 178 = some (.ireturn, 1, [], [])   := rfl
theorem k_130_179 : am_cd 130 179 = some (.aload_n 1, 1, [], [])   := rfl
theorem k_130_180 : am_cd 130 180 = some (.invokevirtual 27, 3, [54, 1, 8], [(0, 569), (0, 570), (0, 571)])   := rfl
theorem k_130_183 : am_cd 130 183 = some (.aload_n 2, 1, [], [])   := rfl
theorem k_130_184 : am_cd 130 184 = some (.invokevirtual 30, 3, [114, 1, 9], [(0, 986), (0, 987), (0, 988)])   := rfl
theorem k_130_187 : am_cd 130 187 = some (.if_icmp .eq 423, 3, [610], [])   := rfl
theorem k_130_190 : am_cd 130 190 = some (.iconst 0, 1, [], [(0, 0)])   := rfl
theorem k_130_191 : am_cd 130 191 = some (.ireturn, 1, [], [])   := rfl
theorem k_130_192 : am_cd 130 192 = some (.aload_n 1, 1, [], [])   := rfl
theorem k_130_193 : am_cd 130 193 = some (.invokevirtual 31, 3, [55, 1, 8], [(0, 573), (0, 574), (0, 575)])   := rfl
theorem k_130_196 : am_cd 130 196 = some (.aload_n 2, 1, [], [])   := rfl
theorem k_130_197 : am_cd 130 197 = some (.invokevirtual 34, 3, [115, 1, 9], [(0, 990), (0, 991), (0, 992)])   := rfl
theorem k_130_200 : am_cd 130 200 = some (.if_icmp .eq 410, 3, [610], [])   := rfl
theorem k_130_203 : am_cd 130 203 = some (.iconst 0, 1, [], [(0, 0)])   := rfl
theorem k_130_204 : am_cd 130 204 = some (.ireturn, 1, [], [])   := rfl
theorem k_130_205 : am_cd 130 205 = some (.aload_n 1, 1, [], [])   := rfl
theorem k_130_206 : am_cd 130 206 = some (.aload_n 0, 1, [], [])   := rfl
theorem k_130_207 : am_cd 130 207 = some (.iload_n 3, 1, [], [])   := rfl
theorem k_130_208 : am_cd 130 208 = some (.iconst 1, 1, [], [(1, 0)])   := rfl
theorem k_130_209 : am_cd 130 209 = some (.iadd, 1, [], [])   := rfl
theorem k_130_210 : am_cd 130 210 = some (.iaload, 1, [1], [])   := rfl
theorem k_130_211 : am_cd 130 211 = some (.aload_n 0, 1, [], [])   := rfl
theorem k_130_212 : am_cd 130 212 = some (.iload_n 3, 1, [], [])   := rfl
theorem k_130_213 : am_cd 130 213 = some (.iconst 2, 1, [], [(2, 0)])   := rfl
theorem k_130_214 : am_cd 130 214 = some (.iadd, 1, [], [])   := rfl
theorem k_130_215 : am_cd 130 215 = some (.iaload, 1, [1], [])   := rfl
theorem k_130_216 : am_cd 130 216 = some (.aload_n 0, 1, [], [])   := rfl
theorem k_130_217 : am_cd 130 217 = some (.iload_n 3, 1, [], [])   := rfl
theorem k_130_218 : am_cd 130 218 = some (.iconst 3, 1, [], [(3, 0)])   := rfl
theorem k_130_219 : am_cd 130 219 = some (.iadd, 1, [], [])   := rfl
theorem k_130_220 : am_cd 130 220 = some (.iaload, 1, [1], [])   := rfl
theorem k_130_221 : am_cd 130 221 = some (.ifCond .eq 7, 3, [228], [])   := rfl
theorem k_130_224 : am_cd 130 224 = some (.iconst 1, 1, [], [(1, 0)])   := rfl
theorem k_130_225 : am_cd 130 225 = some (.goto 4, 3, [229], [])   := rfl
theorem k_130_228 : am_cd 130 228 = some (.iconst 0, 1, [], [(0, 0)])   := rfl
theorem k_130_229 : am_cd 130 229 = some (.invokevirtual 35, 3, [56, 4, 8], [(0, 577), (0, 578), (0, 579)])   := rfl
theorem k_130_232 : am_cd 130 232 = some (.aload_n 2, 1, [], [])   := rfl
theorem k_130_233 : am_cd 130 233 = some (.aload_n 0, 1, [], [])   := rfl
theorem k_130_234 : am_cd 130 234 = some (.iload_n 3, 1, [], [])   := rfl
theorem k_130_235 : am_cd 130 235 = some (.iconst 1, 1, [], [(1, 0)])   := rfl
theorem k_130_236 : am_cd 130 236 = some (.iadd, 1, [], [])   := rfl
theorem k_130_237 : am_cd 130 237 = some (.iaload, 1, [1], [])   := rfl
theorem k_130_238 : am_cd 130 238 = some (.aload_n 0, 1, [], [])   := rfl
theorem k_130_239 : am_cd 130 239 = some (.iload_n 3, 1, [], [])   := rfl
theorem k_130_240 : am_cd 130 240 = some (.iconst 2, 1, [], [(2, 0)])   := rfl
theorem k_130_241 : am_cd 130 241 = some (.iadd, 1, [], [])   := rfl
theorem k_130_242 : am_cd 130 242 = some (.iaload, 1, [1], [])   := rfl
theorem k_130_243 : am_cd 130 243 = some (.aload_n 0, 1, [], [])   := rfl
theorem k_130_244 : am_cd 130 244 = some (.iload_n 3, 1, [], [])   := rfl
theorem k_130_245 : am_cd 130 245 = some (.iconst 3, 1, [], [(3, 0)])   := rfl
theorem k_130_246 : am_cd 130 246 = some (.iadd, 1, [], [])   := rfl
theorem k_130_247 : am_cd 130 247 = some (.iaload, 1, [1], [])   := rfl
theorem k_130_248 : am_cd 130 248 = some (.ifCond .eq 7, 3, [255], [])   := rfl
theorem k_130_251 : am_cd 130 251 = some (.iconst 1, 1, [], [(1, 0)])   := rfl
theorem k_130_252 : am_cd 130 252 = some (.goto 4, 3, [256], [])   := rfl
theorem k_130_255 : am_cd 130 255 = some (.iconst 0, 1, [], [(0, 0)])   := rfl
theorem k_130_256 : am_cd 130 256 = some (.invokevirtual 39, 3, [110, 4, 9], [(0, 961), (0, 962), (0, 963)])   := rfl
theorem k_130_259 : am_cd 130 259 = some (.if_icmp .eq 351, 3, [610], [])   := rfl
theorem k_130_262 : am_cd 130 262 = some (.iconst 0, 1, [], [(0, 0)])   := rfl
theorem k_130_263 : am_cd 130 263 = some (.ireturn, 1, [], [])   := rfl
theorem k_130_264 : am_cd 130 264 = some (.aload_n 1, 1, [], [])   := rfl
theorem k_130_265 : am_cd 130 265 = some (.aload_n 0, 1, [], [])   := rfl
theorem k_130_266 : am_cd 130 266 = some (.iload_n 3, 1, [], [])   := rfl
theorem k_130_267 : am_cd 130 267 = some (.iconst 1, 1, [], [(1, 0)])   := rfl
theorem k_130_268 : am_cd 130 268 = some (.iadd, 1, [], [])   := rfl
theorem k_130_269 : am_cd 130 269 = some (.iaload, 1, [1], [])   := rfl
theorem k_130_270 : am_cd 130 270 = some (.invokevirtual 40, 3, [57, 2, 8], [(0, 610), (0, 611), (0, 612)])   := rfl
theorem k_130_273 : am_cd 130 273 = some (.aload_n 2, 1, [], [])   := rfl
theorem k_130_274 : am_cd 130 274 = some (.aload_n 0, 1, [], [])   := rfl
theorem k_130_275 : am_cd 130 275 = some (.iload_n 3, 1, [], [])   := rfl
theorem k_130_276 : am_cd 130 276 = some (.iconst 1, 1, [], [(1, 0)])   := rfl
theorem k_130_277 : am_cd 130 277 = some (.iadd, 1, [], [])   := rfl
theorem k_130_278 : am_cd 130 278 = some (.iaload, 1, [1], [])   := rfl
theorem k_130_279 : am_cd 130 279 = some (.invokevirtual 44, 3, [111, 2, 9], [(0, 973), (0, 974), (0, 975)])   := rfl
theorem k_130_282 : am_cd 130 282 = some (.if_icmp .eq 328, 3, [610], [])   := rfl
theorem k_130_285 : am_cd 130 285 = some (.iconst 0, 1, [], [(0, 0)])   := rfl
theorem k_130_286 : am_cd 130 286 = some (.ireturn, 1, [], [])   := rfl
theorem k_130_287 : am_cd 130 287 = some (.aload_n 1, 1, [], [])   := rfl
theorem k_130_288 : am_cd 130 288 = some (.aload_n 0, 1, [], [])   := rfl
theorem k_130_289 : am_cd 130 289 = some (.iload_n 3, 1, [], [])   := rfl
theorem k_130_290 : am_cd 130 290 = some (.iconst 1, 1, [], [(1, 0)])   := rfl
theorem k_130_291 : am_cd 130 291 = some (.iadd, 1, [], [])   := rfl
theorem k_130_292 : am_cd 130 292 = some (.iaload, 1, [1], [])   := rfl
theorem k_130_293 : am_cd 130 293 = some (.invokevirtual 45, 3, [58, 2, 8], [(0, 614), (0, 615), (0, 616)])   := rfl
theorem k_130_296 : am_cd 130 296 = some (.aload_n 2, 1, [], [])   := rfl
theorem k_130_297 : am_cd 130 297 = some (.aload_n 0, 1, [], [])   := rfl
theorem k_130_298 : am_cd 130 298 = some (.iload_n 3, 1, [], [])   := rfl
theorem k_130_299 : am_cd 130 299 = some (.iconst 1, 1, [], [(1, 0)])   := rfl
theorem k_130_300 : am_cd 130 300 = some (.iadd, 1, [], [])   := rfl
theorem k_130_301 : am_cd 130 301 = some (.iaload, 1, [1], [])   := rfl
theorem k_130_302 : am_cd 130 302 = some (.invokevirtual 48, 3, [112, 2, 9], [(0, 981), (0, 978), (0, 979)])   := rfl
theorem k_130_305 : am_cd 130 305 = some (.if_icmp .eq 305, 3, [610], [])   := rfl
theorem k_130_308 : am_cd 130 308 = some (.iconst 0, 1, [], [(0, 0)])   := rfl
theorem k_130_309 : am_cd 130 309 = some (.ireturn, 1, [], [])   := rfl
theorem k_130_310 : am_cd 130 310 = some (.aload_n 1, 1, [], [])   := rfl
theorem k_130_311 : am_cd 130 311 = some (.aload_n 0, 1, [], [])   := rfl
theorem k_130_312 : am_cd 130 312 = some (.iload_n 3, 1, [], [])   := rfl
theorem k_130_313 : am_cd 130 313 = some (.iconst 1, 1, [], [(1, 0)])   := rfl
theorem k_130_314 : am_cd 130 314 = some (.iadd, 1, [], [])   := rfl
theorem k_130_315 : am_cd 130 315 = some (.iaload, 1, [1], [])   := rfl
theorem k_130_316 : am_cd 130 316 = some (.ifCond .eq 7, 3, [323], [])   := rfl
theorem k_130_319 : am_cd 130 319 = some (.iconst 1, 1, [], [(1, 0)])   := rfl
theorem k_130_320 : am_cd 130 320 = some (.goto 4, 3, [324], [])   := rfl
theorem k_130_323 : am_cd 130 323 = some (.iconst 0, 1, [], [(0, 0)])   := rfl
theorem k_130_324 : am_cd 130 324 = some (.invokevirtual 49, 3, [59, 2, 8], [(0, 618), (0, 619), (0, 620)])   := rfl
theorem k_130_327 : am_cd 130 327 = some (.aload_n 2, 1, [], [])   := rfl
theorem k_130_328 : am_cd 130 328 = some (.aload_n 0, 1, [], [])   := rfl
theorem k_130_329 : am_cd 130 329 = some (.iload_n 3, 1, [], [])   := rfl
theorem k_130_330 : am_cd 130 330 = some (.iconst 1, 1, [], [(1, 0)])   := rfl
theorem k_130_331 : am_cd 130 331 = some (.iadd, 1, [], [])   := rfl
theorem k_130_332 : am_cd 130 332 = some (.iaload, 1, [1], [])   := rfl
theorem k_130_333 : am_cd 130 333 = some (.ifCond .eq 7, 3, [340], [])   := rfl
theorem k_130_336 : am_cd 130 336 = some (.iconst 1, 1, [], [(1, 0)])   := rfl
theorem k_130_337 : am_cd 130 337 = some (.goto 4, 3, [341], [])   := rfl
theorem k_130_340 : am_cd 130 340 = some (.iconst 0, 1, [], [(0, 0)])   := rfl
theorem k_130_341 : am_cd 130 341 = some (.invokevirtual 53, 3, [113, 2, 9], [(0, 982), (0, 983), (0, 984)])   := rfl
theorem k_130_344 : am_cd 130 344 = some (.goto 266, 3, [610], [])   := rfl
theorem k_130_347 : am_cd 130 347 = some (.aload_n 1, 1, [], [])   := rfl
theorem k_130_348 : am_cd 130 348 = some (.aload_n 0, 1, [], [])   := rfl
theorem k_130_349 : am_cd 130 349 = some (.iload_n 3, 1, [], [])   := rfl
theorem k_130_350 : am_cd 130 350 = some (.iconst 1, 1, [], [(1, 0)])   := rfl
theorem k_130_351 : am_cd 130 351 = some (.iadd, 1, [], [])   := rfl
theorem k_130_352 : am_cd 130 352 = some (.iaload, 1, [1], [])   := rfl
theorem k_130_353 : am_cd 130 353 = some (.aload_n 0, 1, [], [])   := rfl
theorem k_130_354 : am_cd 130 354 = some (.iload_n 3, 1, [], [])   := rfl
theorem k_130_355 : am_cd 130 355 = some (.iconst 2, 1, [], [(2, 0)])   := rfl
theorem k_130_356 : am_cd 130 356 = some (.iadd, 1, [], [])   := rfl
theorem k_130_357 : am_cd 130 357 = some (.iaload, 1, [1], [])   := rfl
theorem k_130_358 : am_cd 130 358 = some (.invokevirtual 54, 3, [60, 3, 8], [(0, 622), (0, 623), (0, 624)])   := rfl
theorem k_130_361 : am_cd 130 361 = some (.aload_n 2, 1, [], [])   := rfl
theorem k_130_362 : am_cd 130 362 = some (.aload_n 0, 1, [], [])   := rfl
theorem k_130_363 : am_cd 130 363 = some (.iload_n 3, 1, [], [])   := rfl
theorem k_130_364 : am_cd 130 364 = some (.iconst 1, 1, [], [(1, 0)])   := rfl
theorem k_130_365 : am_cd 130 365 = some (.iadd, 1, [], [])   := rfl
theorem k_130_366 : am_cd 130 366 = some (.iaload, 1, [1], [])   := rfl
theorem k_130_367 : am_cd 130 367 = some (.aload_n 0, 1, [], [])   := rfl
theorem k_130_368 : am_cd 130 368 = some (.iload_n 3, 1, [], [])   := rfl
theorem k_130_369 : am_cd 130 369 = some (.iconst 2, 1, [], [(2, 0)])   := rfl
theorem k_130_370 : am_cd 130 370 = some (.iadd, 1, [], [])   := rfl
theorem k_130_371 : am_cd 130 371 = some (.iaload, 1, [1], [])   := rfl
theorem k_130_372 : am_cd 130 372 = some (.invokevirtual 58, 3, [107, 3, 9], [(0, 945), (0, 946), (0, 947)])   := rfl
theorem k_130_375 : am_cd 130 375 = some (.if_icmp .eq 235, 3, [610], [])   := rfl
theorem k_130_378 : am_cd 130 378 = some (.iconst 0, 1, [], [(0, 0)])   := rfl
theorem k_130_379 : am_cd 130 379 = some (.ireturn, 1, [], [])   := rfl
theorem k_130_380 : am_cd 130 380 = some (.aload_n 1, 1, [], [])   := rfl
theorem k_130_381 : am_cd 130 381 = some (.invokevirtual 59, 3, [61, 1, 8], [(0, 652), (0, 653), (0, 654)])   := rfl
theorem k_130_384 : am_cd 130 384 = some (.aload_n 2, 1, [], [])   := rfl
theorem k_130_385 : am_cd 130 385 = some (.invokevirtual 62, 3, [116, 1, 9], [(0, 994), (0, 995), (0, 996)])   := rfl
theorem k_130_388 : am_cd 130 388 = some (.if_icmp .eq 222, 3, [610], [])   := rfl
theorem k_130_391 : am_cd 130 391 = some (.iconst 0, 1, [], [(0, 0)])   := rfl
theorem k_130_392 : am_cd 130 392 = some (.ireturn, 1, [], [])   := rfl
theorem k_130_393 : am_cd 130 393 = some (.aload_n 1, 1, [], [])   := rfl
theorem k_130_394 : am_cd 130 394 = some (.invokevirtual 63, 3, [62, 1, 8], [(0, 656), (0, 657), (0, 658)])   := rfl
theorem k_130_397 : am_cd 130 397 = some (.aload_n 2, 1, [], [])   := rfl
theorem k_130_398 : am_cd 130 398 = some (.invokevirtual 66, 3, [117, 1, 9], [(0, 998), (0, 999), (0, 1000)])   := rfl
theorem k_130_401 : am_cd 130 401 = some (.if_icmp .eq 209, 3, [610], [])   := rfl
theorem k_130_404 : am_cd 130 404 = some (.iconst 0, 1, [], [(0, 0)])   := rfl
theorem k_130_405 : am_cd 130 405 = some (.ireturn, 1, [], [])   := rfl
theorem k_130_406 : am_cd 130 406 = some (.aload_n 1, 1, [], [])   := rfl
theorem k_130_407 : am_cd 130 407 = some (.aload_n 0, 1, [], [])   := rfl
theorem k_130_408 : am_cd 130 408 = some (.iload_n 3, 1, [], [])   := rfl
theorem k_130_409 : am_cd 130 409 = some (.iconst 1, 1, [], [(1, 0)])   := rfl
theorem k_130_410 : am_cd 130 410 = some (.iadd, 1, [], [])   := rfl
theorem k_130_411 : am_cd 130 411 = some (.iaload, 1, [1], [])   := rfl
theorem k_130_412 : am_cd 130 412 = some (.invokevirtual 67, 3, [63, 2, 8], [(0, 660), (0, 661), (0, 662)])   := rfl
theorem k_130_415 : am_cd 130 415 = some (.aload_n 2, 1, [], [])   := rfl
theorem k_130_416 : am_cd 130 416 = some (.aload_n 0, 1, [], [])   := rfl
theorem k_130_417 : am_cd 130 417 = some (.iload_n 3, 1, [], [])   := rfl
theorem k_130_418 : am_cd 130 418 = some (.iconst 1, 1, [], [(1, 0)])   := rfl
theorem k_130_419 : am_cd 130 419 = some (.iadd, 1, [], [])   := rfl
theorem k_130_420 : am_cd 130 420 = some (.iaload, 1, [1], [])   := rfl
theorem k_130_421 : am_cd 130 421 = some (.invokevirtual 70, 3, [119, 2, 9], [(0, 1002), (0, 1003), (0, 1004)])   := rfl
theorem k_130_424 : am_cd 130 424 = some (.if_icmp .eq 186, 3, [610], [])   := rfl
theorem k_130_427 : am_cd 130 427 = some (.iconst 0, 1, [], [(0, 0)])   := rfl
theorem k_130_428 : am_cd 130 428 = some (.ireturn, 1, [], [])   := rfl
theorem k_130_429 : am_cd 130 429 = some (.aload_n 1, 1, [], [])   := rfl
theorem k_130_430 : am_cd 130 430 = some (.aload_n 0, 1, [], [])   := rfl
theorem k_130_431 : am_cd 130 431 = some (.iload_n 3, 1, [], [])   := rfl
theorem k_130_432 : am_cd 130 432 = some (.iconst 1, 1, [], [(1, 0)])   := rfl
theorem k_130_433 : am_cd 130 433 = some (.iadd, 1, [], [])   := rfl
theorem k_130_434 : am_cd 130 434 = some (.iaload, 1, [1], [])   := rfl
theorem k_130_435 : am_cd 130 435 = some (.invokevirtual 71, 3, [64, 2, 8], [(0, 664), (0, 665), (0, 666)])   := rfl
theorem k_130_438 : am_cd 130 438 = some (.aload_n 2, 1, [], [])   := rfl
theorem k_130_439 : am_cd 130 439 = some (.aload_n 0, 1, [], [])   := rfl
theorem k_130_440 : am_cd 130 440 = some (.iload_n 3, 1, [], [])   := rfl
theorem k_130_441 : am_cd 130 441 = some (.iconst 1, 1, [], [(1, 0)])   := rfl
theorem k_130_442 : am_cd 130 442 = some (.iadd, 1, [], [])   := rfl
theorem k_130_443 : am_cd 130 443 = some (.iaload, 1, [1], [])   := rfl
theorem k_130_444 : am_cd 130 444 = some (.invokevirtual 74, 3, [120, 2, 9], [(0, 1010), (0, 1011), (0, 1012)])   := rfl
theorem k_130_447 : am_cd 130 447 = some (.if_icmp .eq 163, 3, [610], [])   := rfl
theorem k_130_450 : am_cd 130 450 = some (.iconst 0, 1, [], [(0, 0)])   := rfl
theorem k_130_451 : am_cd 130 451 = some (.ireturn, 1, [], [])   := rfl
theorem k_130_452 : am_cd 130 452 = some (.aload_n 1, 1, [], [])   := rfl
theorem k_130_453 : am_cd 130 453 = some (.aload_n 0, 1, [], [])   := rfl
theorem k_130_454 : am_cd 130 454 = some (.iload_n 3, 1, [], [])   := rfl
theorem k_130_455 : am_cd 130 455 = some (.iconst 1, 1, [], [(1, 0)])   := rfl
theorem k_130_456 : am_cd 130 456 = some (.iadd, 1, [], [])   := rfl
theorem k_130_457 : am_cd 130 457 = some (.iaload, 1, [1], [])   := rfl
theorem k_130_458 : am_cd 130 458 = some (.aload_n 0, 1, [], [])   := rfl
theorem k_130_459 : am_cd 130 459 = some (.iload_n 3, 1, [], [])   := rfl
theorem k_130_460 : am_cd 130 460 = some (.iconst 2, 1, [], [(2, 0)])   := rfl
theorem k_130_461 : am_cd 130 461 = some (.iadd, 1, [], [])   := rfl
theorem k_130_462 : am_cd 130 462 = some (.iaload, 1, [1], [])   := rfl
theorem k_130_463 : am_cd 130 463 = some (.invokevirtual 75, 3, [65, 3, 8], [(0, 668), (0, 669), (0, 670)])   := rfl
theorem k_130_466 : am_cd 130 466 = some (.aload_n 2, 1, [], [])   := rfl
theorem k_130_467 : am_cd 130 467 = some (.aload_n 0, 1, [], [])   := rfl
theorem k_130_468 : am_cd 130 468 = some (.iload_n 3, 1, [], [])   := rfl
theorem k_130_469 : am_cd 130 469 = some (.iconst 1, 1, [], [(1, 0)])   := rfl
theorem k_130_470 : am_cd 130 470 = some (.iadd, 1, [], [])   := rfl
theorem k_130_471 : am_cd 130 471 = some (.iaload, 1, [1], [])   := rfl
theorem k_130_472 : am_cd 130 472 = some (.aload_n 0, 1, [], [])   := rfl
theorem k_130_473 : am_cd 130 473 = some (.iload_n 3, 1, [], [])   := rfl
theorem k_130_474 : am_cd 130 474 = some (.iconst 2, 1, [], [(2, 0)])   := rfl
theorem k_130_475 : am_cd 130 475 = some (.iadd, 1, [], [])   := rfl
theorem k_130_476 : am_cd 130 476 = some (.iaload, 1, [1], [])   := rfl
theorem k_130_477 : am_cd 130 477 = some (.invokevirtual 78, 3, [121, 3, 9], [(0, 1014), (0, 1015), (0, 1016)])   := rfl
theorem k_130_480 : am_cd 130 480 = some (.if_icmp .eq 130, 3, [610], [])   := rfl
theorem k_130_483 : am_cd 130 483 = some (.iconst 0, 1, [], [(0, 0)])   := rfl
theorem k_130_484 : am_cd 130 484 = some (.ireturn, 1, [], [])   := rfl
theorem k_130_485 : am_cd 130 485 = some (.aload_n 1, 1, [], [])   := rfl
theorem k_130_486 : am_cd 130 486 = some (.aload_n 0, 1, [], [])   := rfl
theorem k_130_487 : am_cd 130 487 = some (.iload_n 3, 1, [], [])   := rfl
theorem k_130_488 : am_cd 130 488 = some (.iconst 1, 1, [], [(1, 0)])   := rfl
theorem k_130_489 : am_cd 130 489 = some (.iadd, 1, [], [])   := rfl
theorem k_130_490 : am_cd 130 490 = some (.iaload, 1, [1], [])   := rfl
theorem k_130_491 : am_cd 130 491 = some (.aload_n 0, 1, [], [])   := rfl
theorem k_130_492 : am_cd 130 492 = some (.iload_n 3, 1, [], [])   := rfl
theorem k_130_493 : am_cd 130 493 = some (.iconst 2, 1, [], [(2, 0)])   := rfl
theorem k_130_494 : am_cd 130 494 = some (.iadd, 1, [], [])   := rfl
theorem k_130_495 : am_cd 130 495 = some (.iaload, 1, [1], [])   := rfl
theorem k_130_496 : am_cd 130 496 = some (.aload_n 0, 1, [], [])   := rfl
theorem k_130_497 : am_cd 130 497 = some (.iload_n 3, 1, [], [])   := rfl
theorem k_130_498 : am_cd 130 498 = some (.iconst 3, 1, [], [(3, 0)])   := rfl
theorem k_130_499 : am_cd 130 499 = some (.iadd, 1, [], [])   := rfl
theorem k_130_500 : am_cd 130 500 = some (.iaload, 1, [1], [])   := rfl
theorem k_130_501 : am_cd 130 501 = some (.invokevirtual 79, 3, [66, 4, 8], [(0, 673), (0, 674), (0, 675)])   := rfl
theorem k_130_504 : am_cd 130 504 = some (.aload_n 2, 1, [], [])   := rfl
theorem k_130_505 : am_cd 130 505 = some (.aload_n 0, 1, [], [])   := rfl
theorem k_130_506 : am_cd 130 506 = some (.iload_n 3, 1, [], [])   := rfl
theorem k_130_507 : am_cd 130 507 = some (.iconst 1, 1, [], [(1, 0)])   := rfl
theorem k_130_508 : am_cd 130 508 = some (.iadd, 1, [], [])   := rfl
theorem k_130_509 : am_cd 130 509 = some (.iaload, 1, [1], [])   := rfl
theorem k_130_510 : am_cd 130 510 = some (.aload_n 0, 1, [], [])   := rfl
theorem k_130_511 : am_cd 130 511 = some (.iload_n 3, 1, [], [])   := rfl
theorem k_130_512 : am_cd 130 512 = some (.iconst 2, 1, [], [(2, 0)])   := rfl
theorem k_130_513 : am_cd 130 513 = some (.iadd, 1, [], [])   := rfl
theorem k_130_514 : am_cd 130 514 = some (.iaload, 1, [1], [])   := rfl
theorem k_130_515 : am_cd 130 515 = some (.aload_n 0, 1, [], [])   := rfl
theorem k_130_516 : am_cd 130 516 = some (.iload_n 3, 1, [], [])   := rfl
theorem k_130_517 : am_cd 130 517 = some (.iconst 3, 1, [], [(3, 0)])   := rfl
theorem k_130_518 : am_cd 130 518 = some (.iadd, 1, [], [])   := rfl
theorem k_130_519 : am_cd 130 519 = some (.iaload, 1, [1], [])   := rfl
theorem k_130_520 : am_cd 130 520 = some (.invokevirtual 83, 3, [122, 4, 9], [(0, 1018), (0, 1019), (0, 1020)])   := rfl
theorem k_130_523 : am_cd 130 523 = some (.if_icmp .eq 87, 3, [610], [])   := rfl
theorem k_130_526 : am_cd 130 526 = some (.iconst 0, 1, [], [(0, 0)])   := rfl
theorem k_130_527 : am_cd 130 527 = some (.ireturn, 1, [], [])   := rfl
theorem k_130_528 : am_cd 130 528 = some (.aload_n 1, 1, [], [])   := rfl
theorem k_130_529 : am_cd 130 529 = some (.aload_n 0, 1, [], [])   := rfl
theorem k_130_530 : am_cd 130 530 = some (.iload_n 3, 1, [], [])   := rfl
theorem k_130_531 : am_cd 130 531 = some (.iconst 1, 1, [], [(1, 0)])   := rfl
theorem k_130_532 : am_cd 130 532 = some (.iadd, 1, [], [])   := rfl
theorem k_130_533 : am_cd 130 533 = some (.iaload, 1, [1], [])   := rfl
theorem k_130_534 : am_cd 130 534 = some (.invokevirtual 84, 3, [67, 2, 8], [(0, 678), (0, 679), (0, 680)])   := rfl
theorem k_130_537 : am_cd 130 537 = some (.aload_n 2, 1, [], [])   := rfl
theorem k_130_538 : am_cd 130 538 = some (.aload_n 0, 1, [], [])   := rfl
theorem k_130_539 : am_cd 130 539 = some (.iload_n 3, 1, [], [])   := rfl
theorem k_130_540 : am_cd 130 540 = some (.iconst 1, 1, [], [(1, 0)])   := rfl
theorem k_130_541 : am_cd 130 541 = some (.iadd, 1, [], [])   := rfl
theorem k_130_542 : am_cd 130 542 = some (.iaload, 1, [1], [])   := rfl
theorem k_130_543 : am_cd 130 543 = some (.invokevirtual 87, 3, [123, 2, 9], [(0, 1022), (0, 1023), (0, 1024)])   := rfl
theorem k_130_546 : am_cd 130 546 = some (.if_icmp .eq 64, 3, [610], [])   := rfl
theorem k_130_549 : am_cd 130 549 = some (.iconst 0, 1, [], [(0, 0)])   := rfl
theorem k_130_550 : am_cd 130 550 = some (.ireturn, 1, [], [])   := rfl
theorem k_130_551 : am_cd 130 551 = some (.aload_n 1, 1, [], [])   := rfl
theorem k_130_552 : am_cd 130 552 = some (.invokevirtual 88, 3, [68, 1, 8], [(0, 682), (0, 683), (0, 684)])   := rfl
theorem k_130_555 : am_cd 130 555 = some (.aload_n 2, 1, [], [])   := rfl
theorem k_130_556 : am_cd 130 556 = some (.invokevirtual 91, 3, [124, 1, 9], [(0, 1026), (0, 1027), (0, 1028)])   := rfl
theorem k_130_559 : am_cd 130 559 = some (.if_icmp .eq 51, 3, [610], [])   := rfl
theorem k_130_562 : am_cd 130 562 = some (.iconst 0, 1, [], [(0, 0)])   := rfl
theorem k_130_563 : am_cd 130 563 = some (.ireturn, 1, [], [])   := rfl
theorem k_130_564 : am_cd 130 564 = some (.aload_n 1, 1, [], [])   := rfl
theorem k_130_565 : am_cd 130 565 = some (.aload_n 0, 1, [], [])   := rfl
theorem k_130_566 : am_cd 130 566 = some (.iload_n 3, 1, [], [])   := rfl
theorem k_130_567 : am_cd 130 567 = some (.iconst 1, 1, [], [(1, 0)])   := rfl
theorem k_130_568 : am_cd 130 568 = some (.iadd, 1, [], [])   := rfl
theorem k_130_569 : am_cd 130 569 = some (.iaload, 1, [1], [])   := rfl
theorem k_130_570 : am_cd 130 570 = some (.invokevirtual 92, 3, [69, 2, 8], [(0, 686), (0, 687), (0, 688)])   := rfl
theorem k_130_573 : am_cd 130 573 = some (.aload_n 2, 1, [], [])   := rfl
theorem k_130_574 : am_cd 130 574 = some (.aload_n 0, 1, [], [])   := rfl
theorem k_130_575 : am_cd 130 575 = some (.iload_n 3, 1, [], [])   := rfl
theorem k_130_576 : am_cd 130 576 = some (.iconst 1, 1, [], [(1, 0)])   := rfl
theorem k_130_577 : am_cd 130 577 = some (.iadd, 1, [], [])   := rfl
theorem k_130_578 : am_cd 130 578 = some (.iaload, 1, [1], [])   := rfl
theorem k_130_579 : am_cd 130 579 = some (.invokevirtual 95, 3, [125, 2, 9], [(0, 1030), (0, 1031), (0, 1032)])   := rfl
theorem k_130_582 : am_cd 130 582 = some (.if_icmp .eq 28, 3, [610], [])   := rfl
theorem k_130_585 : am_cd 130 585 = some (.iconst 0, 1, [], [(0, 0)])   := rfl
theorem k_130_586 : am_cd 130 586 = some (.ireturn, 1, [], [])   := rfl
theorem k_130_587 : am_cd 130 587 = some (.aload_n 1, 1, [], [])   := rfl
theorem k_130_588 : am_cd 130 588 = some (.aload_n 0, 1, [], [])   := rfl
theorem k_130_589 : am_cd 130 589 = some (.iload_n 3, 1, [], [])   := rfl
theorem k_130_590 : am_cd 130 590 = some (.iconst 1, 1, [], [(1, 0)])   := rfl
theorem k_130_591 : am_cd 130 591 = some (.iadd, 1, [], [])   := rfl
theorem k_130_592 : am_cd 130 592 = some (.iaload, 1, [1], [])   := rfl
theorem k_130_593 : am_cd 130 593 = some (.invokevirtual 96, 3, [70, 2, 8], [(0, 694), (0, 695), (0, 696)])   := rfl
theorem k_130_596 : am_cd 130 596 = some (.aload_n 2, 1, [], [])   := rfl
theorem k_130_597 : am_cd 130 597 = some (.aload_n 0, 1, [], [])   := rfl
theorem k_130_598 : am_cd 130 598 = some (.iload_n 3, 1, [], [])   := rfl
theorem k_130_599 : am_cd 130 599 = some (.iconst 1, 1, [], [(1, 0)])   := rfl
theorem k_130_600 : am_cd 130 600 = some (.iadd, 1, [], [])   := rfl
theorem k_130_601 : am_cd 130 601 = some (.iaload, 1, [1], [])   := rfl
theorem k_130_602 : am_cd 130 602 = some (.invokevirtual 99, 3, [126, 2, 9], [(0, 1034), (0, 1035), (0, 1036)])   := rfl
theorem k_130_605 : am_cd 130 605 = some (.if_icmp .eq 5, 3, [610], [])   := rfl
theorem k_130_608 : am_cd 130 608 = some (.iconst 0, 1, [], [(0, 0)])   := rfl
theorem k_130_609 : am_cd 130 609 = some (.ireturn, 1, [], [])   := rfl
theorem k_130_610 : am_cd 130 610 = some (.iinc 3 4, 3, [], [(4, 0)])   := rfl
theorem k_130_613 : am_cd 130 613 = some (.goto (-595), 3, [18], [])   := rfl
theorem k_130_616 : am_cd 130 616 = some (.iconst 1, 1, [], [(1, 0)])   := rfl
theorem k_130_617 : am_cd 130 617 = some (.ireturn, 1, [], [])   := rfl
theorem e_130_0 : X xs L d 130 (0, lo, sk, h) res ↔ X xs L d 130 (3, lo, .inr (some (hN h)) :: sk, nw h 8 0 9) res := i_new k_130_0
theorem e_130_3 {v : AV} : X xs L d 130 (3, lo, v :: sk, h) res ↔ X xs L d 130 (4, lo, v :: v :: sk, h) res := i_dup k_130_3
theorem e_130_4 {o : Nat} (hs : sk.length ≤ 8) : X xs L d 130 (4, lo, .inr (some o) :: sk, h) res ↔ hK h o = 8 ∧ ∃ q : Res, Rn xs L d 50 [.inr (some o)] h q ∧ X xs L d 130 (7, lo, q.1.toList ++ sk, q.2) res := i_callI k_130_4 rfl ⟨Nat.le_add_left 1 sk.length, Nat.le_trans (Nat.add_le_add_right hs 1) (Nat.le_of_eq (Nat.add_comm 8 1))⟩
theorem e_130_7 {x : Option Nat} {a0 a1 a2 a3 : Option AV} : X xs L d 130 (7, [a0, a1, a2, a3], .inr x :: sk, h) res ↔ X xs L d 130 (8, [a0, some (.inr x), a2, a3], sk, h) res := i_astore_n k_130_7 (Nat.le_of_ble_eq_true rfl) rfl
theorem e_130_8 : X xs L d 130 (8, lo, sk, h) res ↔ X xs L d 130 (11, lo, .inr (some (hN h)) :: sk, nw h 9 0 44) res := i_new k_130_8
theorem e_130_11 {v : AV} : X xs L d 130 (11, lo, v :: sk, h) res ↔ X xs L d 130 (12, lo, v :: v :: sk, h) res := i_dup k_130_11
theorem e_130_12 {o : Nat} (hs : sk.length ≤ 8) : X xs L d 130 (12, lo, .inr (some o) :: sk, h) res ↔ hK h o = 9 ∧ ∃ q : Res, Rn xs L d 75 [.inr (some o)] h q ∧ X xs L d 130 (15, lo, q.1.toList ++ sk, q.2) res := i_callI k_130_12 rfl ⟨Nat.le_add_left 1 sk.length, Nat.le_trans (Nat.add_le_add_right hs 1) (Nat.le_of_eq (Nat.add_comm 8 1))⟩
theorem e_130_15 {x : Option Nat} {a0 a1 a2 a3 : Option AV} : X xs L d 130 (15, [a0, a1, a2, a3], .inr x :: sk, h) res ↔ X xs L d 130 (16, [a0, a1, some (.inr x), a3], sk, h) res := i_astore_n k_130_15 (Nat.le_of_ble_eq_true rfl) rfl
theorem e_130_16 : X xs L d 130 (16, lo, sk, h) res ↔ X xs L d 130 (17, lo, .inl 0 :: sk, h) res := i_iconst k_130_16
theorem e_130_17 {x : Int32} {a0 a1 a2 a3 : Option AV} : X xs L d 130 (17, [a0, a1, a2, a3], .inl x :: sk, h) res ↔ X xs L d 130 (18, [a0, a1, a2, some (.inl x)], sk, h) res := i_istore_n k_130_17 (Nat.le_of_ble_eq_true rfl) rfl
theorem e_130_18 {x : Int32} {a0 a1 a2 : Option AV} : X xs L d 130 (18, [a0, a1, a2, some (.inl x)], sk, h) res ↔ X xs L d 130 (19, [a0, a1, a2, some (.inl x)], .inl x :: sk, h) res := i_iload_n k_130_18 rfl
theorem e_130_19 {x : Option Nat} {a1 a2 a3 : Option AV} : X xs L d 130 (19, [some (.inr x), a1, a2, a3], sk, h) res ↔ X xs L d 130 (20, [some (.inr x), a1, a2, a3], .inr x :: sk, h) res := i_aload_n k_130_19 rfl
theorem e_130_20 : X xs L d 130 (20, lo, .inr (some 0) :: sk, h) res ↔ X xs L d 130 (21, lo, .inl (nI L) :: sk, h) res := i_slen k_130_20
theorem e_130_21 : X xs L d 130 (21, lo, sk, h) res ↔ X xs L d 130 (22, lo, .inl 4 :: sk, h) res := i_iconst k_130_21
theorem e_130_22 {x y : Int32} : X xs L d 130 (22, lo, .inl y :: .inl x :: sk, h) res ↔ X xs L d 130 (23, lo, .inl (x - y) :: sk, h) res := i_isub k_130_22
theorem e_130_23 {x y : Int32} : X xs L d 130 (23, lo, .inl y :: .inl x :: sk, h) res ↔ (if y < x then X xs L d 130 (616, lo, sk, h) res else X xs L d 130 (26, lo, sk, h) res) := i_icmp_gt k_130_23
theorem e_130_26 {x : Option Nat} {a1 a2 a3 : Option AV} : X xs L d 130 (26, [some (.inr x), a1, a2, a3], sk, h) res ↔ X xs L d 130 (27, [some (.inr x), a1, a2, a3], .inr x :: sk, h) res := i_aload_n k_130_26 rfl
theorem e_130_27 {x : Int32} {a0 a1 a2 : Option AV} : X xs L d 130 (27, [a0, a1, a2, some (.inl x)], sk, h) res ↔ X xs L d 130 (28, [a0, a1, a2, some (.inl x)], .inl x :: sk, h) res := i_iload_n k_130_27 rfl
theorem e_130_28 {i : Int32} : X xs L d 130 (28, lo, .inl i :: .inr (some 0) :: sk, h) res ↔ vp_in i L ∧ X xs L d 130 (29, lo, .inl (xs i.toNatClampNeg) :: sk, h) res := i_sld k_130_28
theorem e_130_29 : X xs L d 130 (29, lo, sk, h) res ↔ X xs L d 130 (31, lo, .inl 31 :: sk, h) res := i_bipush k_130_29
theorem e_130_31 {x y : Int32} : X xs L d 130 (31, lo, .inl y :: .inl x :: sk, h) res ↔ X xs L d 130 (32, lo, .inl (x &&& y) :: sk, h) res := i_iand k_130_31
theorem e_130_32 {x : Int32} : X xs L d 130 (32, lo, .inl x :: sk, h) res ↔ X xs L d 130 (a_tgt x [(0, 128), (1, 153), (2, 166), (3, 179), (4, 192), (5, 205), (6, 264), (7, 287), (8, 310), (9, 347), (10, 380), (11, 393), (12, 406), (13, 429), (14, 452), (15, 485), (16, 528), (17, 551), (18, 564), (19, 587)] 610, lo, sk, h) res := i_tsw k_130_32
theorem e_130_128 {x : Option Nat} {a0 a2 a3 : Option AV} : X xs L d 130 (128, [a0, some (.inr x), a2, a3], sk, h) res ↔ X xs L d 130 (129, [a0, some (.inr x), a2, a3], .inr x :: sk, h) res := i_aload_n k_130_128 rfl
theorem e_130_129 {x : Option Nat} {a1 a2 a3 : Option AV} : X xs L d 130 (129, [some (.inr x), a1, a2, a3], sk, h) res ↔ X xs L d 130 (130, [some (.inr x), a1, a2, a3], .inr x :: sk, h) res := i_aload_n k_130_129 rfl
theorem e_130_130 {x : Int32} {a0 a1 a2 : Option AV} : X xs L d 130 (130, [a0, a1, a2, some (.inl x)], sk, h) res ↔ X xs L d 130 (131, [a0, a1, a2, some (.inl x)], .inl x :: sk, h) res := i_iload_n k_130_130 rfl
theorem e_130_131 : X xs L d 130 (131, lo, sk, h) res ↔ X xs L d 130 (132, lo, .inl 1 :: sk, h) res := i_iconst k_130_131
theorem e_130_132 {x y : Int32} : X xs L d 130 (132, lo, .inl y :: .inl x :: sk, h) res ↔ X xs L d 130 (133, lo, .inl (x + y) :: sk, h) res := i_iadd k_130_132
theorem e_130_133 {i : Int32} : X xs L d 130 (133, lo, .inl i :: .inr (some 0) :: sk, h) res ↔ vp_in i L ∧ X xs L d 130 (134, lo, .inl (xs i.toNatClampNeg) :: sk, h) res := i_sld k_130_133
theorem e_130_134 {x : Int32} : X xs L d 130 (134, lo, .inl x :: sk, h) res ↔ X xs L d 130 (135, lo, .inl (x.toUInt32 % 65536).toInt32 :: sk, h) res := i_i2c k_130_134
theorem e_130_135 {o : Nat} {v0 : Int32} (hs : sk.length ≤ 8) : X xs L d 130 (135, lo, .inl v0 :: .inr (some o) :: sk, h) res ↔ hK h o = 8 ∧ ∃ q : Res, Rn xs L d 51 [.inr (some o), .inl v0] h q ∧ X xs L d 130 (138, lo, q.1.toList ++ sk, q.2) res := i_callV k_130_135 rfl ⟨Nat.le_add_left 2 sk.length, Nat.le_trans (Nat.add_le_add_right hs 2) (Nat.le_of_eq (Nat.add_comm 8 2))⟩
theorem e_130_138 {x : Option Nat} {a0 a1 a3 : Option AV} : X xs L d 130 (138, [a0, a1, some (.inr x), a3], sk, h) res ↔ X xs L d 130 (139, [a0, a1, some (.inr x), a3], .inr x :: sk, h) res := i_aload_n k_130_138 rfl
theorem e_130_139 {x : Option Nat} {a1 a2 a3 : Option AV} : X xs L d 130 (139, [some (.inr x), a1, a2, a3], sk, h) res ↔ X xs L d 130 (140, [some (.inr x), a1, a2, a3], .inr x :: sk, h) res := i_aload_n k_130_139 rfl
theorem e_130_140 {x : Int32} {a0 a1 a2 : Option AV} : X xs L d 130 (140, [a0, a1, a2, some (.inl x)], sk, h) res ↔ X xs L d 130 (141, [a0, a1, a2, some (.inl x)], .inl x :: sk, h) res := i_iload_n k_130_140 rfl
theorem e_130_141 : X xs L d 130 (141, lo, sk, h) res ↔ X xs L d 130 (142, lo, .inl 1 :: sk, h) res := i_iconst k_130_141
theorem e_130_142 {x y : Int32} : X xs L d 130 (142, lo, .inl y :: .inl x :: sk, h) res ↔ X xs L d 130 (143, lo, .inl (x + y) :: sk, h) res := i_iadd k_130_142
theorem e_130_143 {i : Int32} : X xs L d 130 (143, lo, .inl i :: .inr (some 0) :: sk, h) res ↔ vp_in i L ∧ X xs L d 130 (144, lo, .inl (xs i.toNatClampNeg) :: sk, h) res := i_sld k_130_143
theorem e_130_144 {x : Int32} : X xs L d 130 (144, lo, .inl x :: sk, h) res ↔ X xs L d 130 (145, lo, .inl (x.toUInt32 % 65536).toInt32 :: sk, h) res := i_i2c k_130_144
theorem e_130_145 {o : Nat} {v0 : Int32} (hs : sk.length ≤ 8) : X xs L d 130 (145, lo, .inl v0 :: .inr (some o) :: sk, h) res ↔ hK h o = 9 ∧ ∃ q : Res, Rn xs L d 76 [.inr (some o), .inl v0] h q ∧ X xs L d 130 (148, lo, q.1.toList ++ sk, q.2) res := i_callV k_130_145 rfl ⟨Nat.le_add_left 2 sk.length, Nat.le_trans (Nat.add_le_add_right hs 2) (Nat.le_of_eq (Nat.add_comm 8 2))⟩
theorem e_130_148 {x y : Int32} : X xs L d 130 (148, lo, .inl y :: .inl x :: sk, h) res ↔ (if x = y then X xs L d 130 (610, lo, sk, h) res else X xs L d 130 (151, lo, sk, h) res) := i_icmp_eq k_130_148
theorem e_130_151 : X xs L d 130 (151, lo, sk, h) res ↔ X xs L d 130 (152, lo, .inl 0 :: sk, h) res := i_iconst k_130_151
theorem e_130_152 {v : Int32} : X xs L d 130 (152, lo, [.inl v], h) res ↔ (v = 0 ∨ v = 1) ∧ res = (some (.inl v), h) := i_zret k_130_152 rfl
theorem e_130_153 {x : Option Nat} {a0 a2 a3 : Option AV} : X xs L d 130 (153, [a0, some (.inr x), a2, a3], sk, h) res ↔ X xs L d 130 (154, [a0, some (.inr x), a2, a3], .inr x :: sk, h) res := i_aload_n k_130_153 rfl
theorem e_130_154 {o : Nat} (hs : sk.length ≤ 8) : X xs L d 130 (154, lo, .inr (some o) :: sk, h) res ↔ hK h o = 8 ∧ ∃ q : Res, Rn xs L d 52 [.inr (some o)] h q ∧ X xs L d 130 (157, lo, q.1.toList ++ sk, q.2) res := i_callV k_130_154 rfl ⟨Nat.le_add_left 1 sk.length, Nat.le_trans (Nat.add_le_add_right hs 1) (Nat.le_of_eq (Nat.add_comm 8 1))⟩
theorem e_130_157 {x : Option Nat} {a0 a1 a3 : Option AV} : X xs L d 130 (157, [a0, a1, some (.inr x), a3], sk, h) res ↔ X xs L d 130 (158, [a0, a1, some (.inr x), a3], .inr x :: sk, h) res := i_aload_n k_130_157 rfl
theorem e_130_158 {o : Nat} (hs : sk.length ≤ 8) : X xs L d 130 (158, lo, .inr (some o) :: sk, h) res ↔ hK h o = 9 ∧ ∃ q : Res, Rn xs L d 89 [.inr (some o)] h q ∧ X xs L d 130 (161, lo, q.1.toList ++ sk, q.2) res := i_callV k_130_158 rfl ⟨Nat.le_add_left 1 sk.length, Nat.le_trans (Nat.add_le_add_right hs 1) (Nat.le_of_eq (Nat.add_comm 8 1))⟩
theorem e_130_161 {x y : Int32} : X xs L d 130 (161, lo, .inl y :: .inl x :: sk, h) res ↔ (if x = y then X xs L d 130 (610, lo, sk, h) res else X xs L d 130 (164, lo, sk, h) res) := i_icmp_eq k_130_161
theorem e_130_164 : X xs L d 130 (164, lo, sk, h) res ↔ X xs L d 130 (165, lo, .inl 0 :: sk, h) res := i_iconst k_130_164
theorem e_130_165 {v : Int32} : X xs L d 130 (165, lo, [.inl v], h) res ↔ (v = 0 ∨ v = 1) ∧ res = (some (.inl v), h) := i_zret k_130_165 rfl
theorem e_130_166 {x : Option Nat} {a0 a2 a3 : Option AV} : X xs L d 130 (166, [a0, some (.inr x), a2, a3], sk, h) res ↔ X xs L d 130 (167, [a0, some (.inr x), a2, a3], .inr x :: sk, h) res := i_aload_n k_130_166 rfl
theorem e_130_167 {o : Nat} (hs : sk.length ≤ 8) : X xs L d 130 (167, lo, .inr (some o) :: sk, h) res ↔ hK h o = 8 ∧ ∃ q : Res, Rn xs L d 53 [.inr (some o)] h q ∧ X xs L d 130 (170, lo, q.1.toList ++ sk, q.2) res := i_callV k_130_167 rfl ⟨Nat.le_add_left 1 sk.length, Nat.le_trans (Nat.add_le_add_right hs 1) (Nat.le_of_eq (Nat.add_comm 8 1))⟩
theorem e_130_170 {x : Option Nat} {a0 a1 a3 : Option AV} : X xs L d 130 (170, [a0, a1, some (.inr x), a3], sk, h) res ↔ X xs L d 130 (171, [a0, a1, some (.inr x), a3], .inr x :: sk, h) res := i_aload_n k_130_170 rfl
theorem e_130_171 {o : Nat} (hs : sk.length ≤ 8) : X xs L d 130 (171, lo, .inr (some o) :: sk, h) res ↔ hK h o = 9 ∧ ∃ q : Res, Rn xs L d 104 [.inr (some o)] h q ∧ X xs L d 130 (174, lo, q.1.toList ++ sk, q.2) res := i_callV k_130_171 rfl ⟨Nat.le_add_left 1 sk.length, Nat.le_trans (Nat.add_le_add_right hs 1) (Nat.le_of_eq (Nat.add_comm 8 1))⟩
theorem e_130_174 {x y : Int32} : X xs L d 130 (174, lo, .inl y :: .inl x :: sk, h) res ↔ (if x = y then X xs L d 130 (610, lo, sk, h) res else X xs L d 130 (177, lo, sk, h) res) := i_icmp_eq k_130_174
theorem e_130_177 : X xs L d 130 (177, lo, sk, h) res ↔ X xs L d 130 (178, lo, .inl 0 :: sk, h) res := i_iconst k_130_177
theorem e_130_178 {v : Int32} : X xs L d 130 (178, lo, [.inl v], h) res ↔ (v = 0 ∨ v = 1) ∧ res = (some (.inl v), h) := i_zret k_130_178 rfl
theorem e_130_179 {x : Option Nat} {a0 a2 a3 : Option AV} : X xs L d 130 (179, [a0, some (.inr x), a2, a3], sk, h) res ↔ X xs L d 130 (180, [a0, some (.inr x), a2, a3], .inr x :: sk, h) res := i_aload_n k_130_179 rfl
theorem e_130_180 {o : Nat} (hs : sk.length ≤ 8) : X xs L d 130 (180, lo, .inr (some o) :: sk, h) res ↔ hK h o = 8 ∧ ∃ q : Res, Rn xs L d 54 [.inr (some o)] h q ∧ X xs L d 130 (183, lo, q.1.toList ++ sk, q.2) res := i_callV k_130_180 rfl ⟨Nat.le_add_left 1 sk.length, Nat.le_trans (Nat.add_le_add_right hs 1) (Nat.le_of_eq (Nat.add_comm 8 1))⟩
theorem e_130_183 {x : Option Nat} {a0 a1 a3 : Option AV} : X xs L d 130 (183, [a0, a1, some (.inr x), a3], sk, h) res ↔ X xs L d 130 (184, [a0, a1, some (.inr x), a3], .inr x :: sk, h) res := i_aload_n k_130_183 rfl
theorem e_130_184 {o : Nat} (hs : sk.length ≤ 8) : X xs L d 130 (184, lo, .inr (some o) :: sk, h) res ↔ hK h o = 9 ∧ ∃ q : Res, Rn xs L d 114 [.inr (some o)] h q ∧ X xs L d 130 (187, lo, q.1.toList ++ sk, q.2) res := i_callV k_130_184 rfl ⟨Nat.le_add_left 1 sk.length, Nat.le_trans (Nat.add_le_add_right hs 1) (Nat.le_of_eq (Nat.add_comm 8 1))⟩
theorem e_130_187 {x y : Int32} : X xs L d 130 (187, lo, .inl y :: .inl x :: sk, h) res ↔ (if x = y then X xs L d 130 (610, lo, sk, h) res else X xs L d 130 (190, lo, sk, h) res) := i_icmp_eq k_130_187
theorem e_130_190 : X xs L d 130 (190, lo, sk, h) res ↔ X xs L d 130 (191, lo, .inl 0 :: sk, h) res := i_iconst k_130_190
theorem e_130_191 {v : Int32} : X xs L d 130 (191, lo, [.inl v], h) res ↔ (v = 0 ∨ v = 1) ∧ res = (some (.inl v), h) := i_zret k_130_191 rfl
theorem e_130_192 {x : Option Nat} {a0 a2 a3 : Option AV} : X xs L d 130 (192, [a0, some (.inr x), a2, a3], sk, h) res ↔ X xs L d 130 (193, [a0, some (.inr x), a2, a3], .inr x :: sk, h) res := i_aload_n k_130_192 rfl
theorem e_130_193 {o : Nat} (hs : sk.length ≤ 8) : X xs L d 130 (193, lo, .inr (some o) :: sk, h) res ↔ hK h o = 8 ∧ ∃ q : Res, Rn xs L d 55 [.inr (some o)] h q ∧ X xs L d 130 (196, lo, q.1.toList ++ sk, q.2) res := i_callV k_130_193 rfl ⟨Nat.le_add_left 1 sk.length, Nat.le_trans (Nat.add_le_add_right hs 1) (Nat.le_of_eq (Nat.add_comm 8 1))⟩
theorem e_130_196 {x : Option Nat} {a0 a1 a3 : Option AV} : X xs L d 130 (196, [a0, a1, some (.inr x), a3], sk, h) res ↔ X xs L d 130 (197, [a0, a1, some (.inr x), a3], .inr x :: sk, h) res := i_aload_n k_130_196 rfl
theorem e_130_197 {o : Nat} (hs : sk.length ≤ 8) : X xs L d 130 (197, lo, .inr (some o) :: sk, h) res ↔ hK h o = 9 ∧ ∃ q : Res, Rn xs L d 115 [.inr (some o)] h q ∧ X xs L d 130 (200, lo, q.1.toList ++ sk, q.2) res := i_callV k_130_197 rfl ⟨Nat.le_add_left 1 sk.length, Nat.le_trans (Nat.add_le_add_right hs 1) (Nat.le_of_eq (Nat.add_comm 8 1))⟩
theorem e_130_200 {x y : Int32} : X xs L d 130 (200, lo, .inl y :: .inl x :: sk, h) res ↔ (if x = y then X xs L d 130 (610, lo, sk, h) res else X xs L d 130 (203, lo, sk, h) res) := i_icmp_eq k_130_200
theorem e_130_203 : X xs L d 130 (203, lo, sk, h) res ↔ X xs L d 130 (204, lo, .inl 0 :: sk, h) res := i_iconst k_130_203
theorem e_130_204 {v : Int32} : X xs L d 130 (204, lo, [.inl v], h) res ↔ (v = 0 ∨ v = 1) ∧ res = (some (.inl v), h) := i_zret k_130_204 rfl
theorem e_130_205 {x : Option Nat} {a0 a2 a3 : Option AV} : X xs L d 130 (205, [a0, some (.inr x), a2, a3], sk, h) res ↔ X xs L d 130 (206, [a0, some (.inr x), a2, a3], .inr x :: sk, h) res := i_aload_n k_130_205 rfl
theorem e_130_206 {x : Option Nat} {a1 a2 a3 : Option AV} : X xs L d 130 (206, [some (.inr x), a1, a2, a3], sk, h) res ↔ X xs L d 130 (207, [some (.inr x), a1, a2, a3], .inr x :: sk, h) res := i_aload_n k_130_206 rfl
theorem e_130_207 {x : Int32} {a0 a1 a2 : Option AV} : X xs L d 130 (207, [a0, a1, a2, some (.inl x)], sk, h) res ↔ X xs L d 130 (208, [a0, a1, a2, some (.inl x)], .inl x :: sk, h) res := i_iload_n k_130_207 rfl
theorem e_130_208 : X xs L d 130 (208, lo, sk, h) res ↔ X xs L d 130 (209, lo, .inl 1 :: sk, h) res := i_iconst k_130_208
theorem e_130_209 {x y : Int32} : X xs L d 130 (209, lo, .inl y :: .inl x :: sk, h) res ↔ X xs L d 130 (210, lo, .inl (x + y) :: sk, h) res := i_iadd k_130_209
theorem e_130_210 {i : Int32} : X xs L d 130 (210, lo, .inl i :: .inr (some 0) :: sk, h) res ↔ vp_in i L ∧ X xs L d 130 (211, lo, .inl (xs i.toNatClampNeg) :: sk, h) res := i_sld k_130_210
theorem e_130_211 {x : Option Nat} {a1 a2 a3 : Option AV} : X xs L d 130 (211, [some (.inr x), a1, a2, a3], sk, h) res ↔ X xs L d 130 (212, [some (.inr x), a1, a2, a3], .inr x :: sk, h) res := i_aload_n k_130_211 rfl
theorem e_130_212 {x : Int32} {a0 a1 a2 : Option AV} : X xs L d 130 (212, [a0, a1, a2, some (.inl x)], sk, h) res ↔ X xs L d 130 (213, [a0, a1, a2, some (.inl x)], .inl x :: sk, h) res := i_iload_n k_130_212 rfl
theorem e_130_213 : X xs L d 130 (213, lo, sk, h) res ↔ X xs L d 130 (214, lo, .inl 2 :: sk, h) res := i_iconst k_130_213
theorem e_130_214 {x y : Int32} : X xs L d 130 (214, lo, .inl y :: .inl x :: sk, h) res ↔ X xs L d 130 (215, lo, .inl (x + y) :: sk, h) res := i_iadd k_130_214
theorem e_130_215 {i : Int32} : X xs L d 130 (215, lo, .inl i :: .inr (some 0) :: sk, h) res ↔ vp_in i L ∧ X xs L d 130 (216, lo, .inl (xs i.toNatClampNeg) :: sk, h) res := i_sld k_130_215
theorem e_130_216 {x : Option Nat} {a1 a2 a3 : Option AV} : X xs L d 130 (216, [some (.inr x), a1, a2, a3], sk, h) res ↔ X xs L d 130 (217, [some (.inr x), a1, a2, a3], .inr x :: sk, h) res := i_aload_n k_130_216 rfl
theorem e_130_217 {x : Int32} {a0 a1 a2 : Option AV} : X xs L d 130 (217, [a0, a1, a2, some (.inl x)], sk, h) res ↔ X xs L d 130 (218, [a0, a1, a2, some (.inl x)], .inl x :: sk, h) res := i_iload_n k_130_217 rfl
theorem e_130_218 : X xs L d 130 (218, lo, sk, h) res ↔ X xs L d 130 (219, lo, .inl 3 :: sk, h) res := i_iconst k_130_218
theorem e_130_219 {x y : Int32} : X xs L d 130 (219, lo, .inl y :: .inl x :: sk, h) res ↔ X xs L d 130 (220, lo, .inl (x + y) :: sk, h) res := i_iadd k_130_219
theorem e_130_220 {i : Int32} : X xs L d 130 (220, lo, .inl i :: .inr (some 0) :: sk, h) res ↔ vp_in i L ∧ X xs L d 130 (221, lo, .inl (xs i.toNatClampNeg) :: sk, h) res := i_sld k_130_220
theorem e_130_221 {x : Int32} : X xs L d 130 (221, lo, .inl x :: sk, h) res ↔ (if x = 0 then X xs L d 130 (228, lo, sk, h) res else X xs L d 130 (224, lo, sk, h) res) := i_if_eq k_130_221
theorem e_130_224 : X xs L d 130 (224, lo, sk, h) res ↔ X xs L d 130 (225, lo, .inl 1 :: sk, h) res := i_iconst k_130_224
theorem e_130_225 : X xs L d 130 (225, lo, sk, h) res ↔ X xs L d 130 (229, lo, sk, h) res := i_goto k_130_225
theorem e_130_228 : X xs L d 130 (228, lo, sk, h) res ↔ X xs L d 130 (229, lo, .inl 0 :: sk, h) res := i_iconst k_130_228
theorem e_130_229 {o : Nat} {v0 : Int32} {v1 : Int32} {v2 : Int32} (hs : sk.length ≤ 8) : X xs L d 130 (229, lo, .inl v2 :: .inl v1 :: .inl v0 :: .inr (some o) :: sk, h) res ↔ hK h o = 8 ∧ ∃ q : Res, Rn xs L d 56 [.inr (some o), .inl v0, .inl v1, .inl v2] h q ∧ X xs L d 130 (232, lo, q.1.toList ++ sk, q.2) res := i_callV k_130_229 rfl ⟨Nat.le_add_left 4 sk.length, Nat.le_trans (Nat.add_le_add_right hs 4) (Nat.le_of_eq (Nat.add_comm 8 4))⟩
theorem e_130_232 {x : Option Nat} {a0 a1 a3 : Option AV} : X xs L d 130 (232, [a0, a1, some (.inr x), a3], sk, h) res ↔ X xs L d 130 (233, [a0, a1, some (.inr x), a3], .inr x :: sk, h) res := i_aload_n k_130_232 rfl
theorem e_130_233 {x : Option Nat} {a1 a2 a3 : Option AV} : X xs L d 130 (233, [some (.inr x), a1, a2, a3], sk, h) res ↔ X xs L d 130 (234, [some (.inr x), a1, a2, a3], .inr x :: sk, h) res := i_aload_n k_130_233 rfl
theorem e_130_234 {x : Int32} {a0 a1 a2 : Option AV} : X xs L d 130 (234, [a0, a1, a2, some (.inl x)], sk, h) res ↔ X xs L d 130 (235, [a0, a1, a2, some (.inl x)], .inl x :: sk, h) res := i_iload_n k_130_234 rfl
theorem e_130_235 : X xs L d 130 (235, lo, sk, h) res ↔ X xs L d 130 (236, lo, .inl 1 :: sk, h) res := i_iconst k_130_235
theorem e_130_236 {x y : Int32} : X xs L d 130 (236, lo, .inl y :: .inl x :: sk, h) res ↔ X xs L d 130 (237, lo, .inl (x + y) :: sk, h) res := i_iadd k_130_236
theorem e_130_237 {i : Int32} : X xs L d 130 (237, lo, .inl i :: .inr (some 0) :: sk, h) res ↔ vp_in i L ∧ X xs L d 130 (238, lo, .inl (xs i.toNatClampNeg) :: sk, h) res := i_sld k_130_237
theorem e_130_238 {x : Option Nat} {a1 a2 a3 : Option AV} : X xs L d 130 (238, [some (.inr x), a1, a2, a3], sk, h) res ↔ X xs L d 130 (239, [some (.inr x), a1, a2, a3], .inr x :: sk, h) res := i_aload_n k_130_238 rfl
theorem e_130_239 {x : Int32} {a0 a1 a2 : Option AV} : X xs L d 130 (239, [a0, a1, a2, some (.inl x)], sk, h) res ↔ X xs L d 130 (240, [a0, a1, a2, some (.inl x)], .inl x :: sk, h) res := i_iload_n k_130_239 rfl
theorem e_130_240 : X xs L d 130 (240, lo, sk, h) res ↔ X xs L d 130 (241, lo, .inl 2 :: sk, h) res := i_iconst k_130_240
theorem e_130_241 {x y : Int32} : X xs L d 130 (241, lo, .inl y :: .inl x :: sk, h) res ↔ X xs L d 130 (242, lo, .inl (x + y) :: sk, h) res := i_iadd k_130_241
theorem e_130_242 {i : Int32} : X xs L d 130 (242, lo, .inl i :: .inr (some 0) :: sk, h) res ↔ vp_in i L ∧ X xs L d 130 (243, lo, .inl (xs i.toNatClampNeg) :: sk, h) res := i_sld k_130_242
theorem e_130_243 {x : Option Nat} {a1 a2 a3 : Option AV} : X xs L d 130 (243, [some (.inr x), a1, a2, a3], sk, h) res ↔ X xs L d 130 (244, [some (.inr x), a1, a2, a3], .inr x :: sk, h) res := i_aload_n k_130_243 rfl
theorem e_130_244 {x : Int32} {a0 a1 a2 : Option AV} : X xs L d 130 (244, [a0, a1, a2, some (.inl x)], sk, h) res ↔ X xs L d 130 (245, [a0, a1, a2, some (.inl x)], .inl x :: sk, h) res := i_iload_n k_130_244 rfl
theorem e_130_245 : X xs L d 130 (245, lo, sk, h) res ↔ X xs L d 130 (246, lo, .inl 3 :: sk, h) res := i_iconst k_130_245
theorem e_130_246 {x y : Int32} : X xs L d 130 (246, lo, .inl y :: .inl x :: sk, h) res ↔ X xs L d 130 (247, lo, .inl (x + y) :: sk, h) res := i_iadd k_130_246
theorem e_130_247 {i : Int32} : X xs L d 130 (247, lo, .inl i :: .inr (some 0) :: sk, h) res ↔ vp_in i L ∧ X xs L d 130 (248, lo, .inl (xs i.toNatClampNeg) :: sk, h) res := i_sld k_130_247
theorem e_130_248 {x : Int32} : X xs L d 130 (248, lo, .inl x :: sk, h) res ↔ (if x = 0 then X xs L d 130 (255, lo, sk, h) res else X xs L d 130 (251, lo, sk, h) res) := i_if_eq k_130_248
theorem e_130_251 : X xs L d 130 (251, lo, sk, h) res ↔ X xs L d 130 (252, lo, .inl 1 :: sk, h) res := i_iconst k_130_251
theorem e_130_252 : X xs L d 130 (252, lo, sk, h) res ↔ X xs L d 130 (256, lo, sk, h) res := i_goto k_130_252
theorem e_130_255 : X xs L d 130 (255, lo, sk, h) res ↔ X xs L d 130 (256, lo, .inl 0 :: sk, h) res := i_iconst k_130_255
theorem e_130_256 {o : Nat} {v0 : Int32} {v1 : Int32} {v2 : Int32} (hs : sk.length ≤ 8) : X xs L d 130 (256, lo, .inl v2 :: .inl v1 :: .inl v0 :: .inr (some o) :: sk, h) res ↔ hK h o = 9 ∧ ∃ q : Res, Rn xs L d 110 [.inr (some o), .inl v0, .inl v1, .inl v2] h q ∧ X xs L d 130 (259, lo, q.1.toList ++ sk, q.2) res := i_callV k_130_256 rfl ⟨Nat.le_add_left 4 sk.length, Nat.le_trans (Nat.add_le_add_right hs 4) (Nat.le_of_eq (Nat.add_comm 8 4))⟩
theorem e_130_259 {x y : Int32} : X xs L d 130 (259, lo, .inl y :: .inl x :: sk, h) res ↔ (if x = y then X xs L d 130 (610, lo, sk, h) res else X xs L d 130 (262, lo, sk, h) res) := i_icmp_eq k_130_259
theorem e_130_262 : X xs L d 130 (262, lo, sk, h) res ↔ X xs L d 130 (263, lo, .inl 0 :: sk, h) res := i_iconst k_130_262
theorem e_130_263 {v : Int32} : X xs L d 130 (263, lo, [.inl v], h) res ↔ (v = 0 ∨ v = 1) ∧ res = (some (.inl v), h) := i_zret k_130_263 rfl
theorem e_130_264 {x : Option Nat} {a0 a2 a3 : Option AV} : X xs L d 130 (264, [a0, some (.inr x), a2, a3], sk, h) res ↔ X xs L d 130 (265, [a0, some (.inr x), a2, a3], .inr x :: sk, h) res := i_aload_n k_130_264 rfl
theorem e_130_265 {x : Option Nat} {a1 a2 a3 : Option AV} : X xs L d 130 (265, [some (.inr x), a1, a2, a3], sk, h) res ↔ X xs L d 130 (266, [some (.inr x), a1, a2, a3], .inr x :: sk, h) res := i_aload_n k_130_265 rfl
theorem e_130_266 {x : Int32} {a0 a1 a2 : Option AV} : X xs L d 130 (266, [a0, a1, a2, some (.inl x)], sk, h) res ↔ X xs L d 130 (267, [a0, a1, a2, some (.inl x)], .inl x :: sk, h) res := i_iload_n k_130_266 rfl
theorem e_130_267 : X xs L d 130 (267, lo, sk, h) res ↔ X xs L d 130 (268, lo, .inl 1 :: sk, h) res := i_iconst k_130_267
theorem e_130_268 {x y : Int32} : X xs L d 130 (268, lo, .inl y :: .inl x :: sk, h) res ↔ X xs L d 130 (269, lo, .inl (x + y) :: sk, h) res := i_iadd k_130_268
theorem e_130_269 {i : Int32} : X xs L d 130 (269, lo, .inl i :: .inr (some 0) :: sk, h) res ↔ vp_in i L ∧ X xs L d 130 (270, lo, .inl (xs i.toNatClampNeg) :: sk, h) res := i_sld k_130_269
theorem e_130_270 {o : Nat} {v0 : Int32} (hs : sk.length ≤ 8) : X xs L d 130 (270, lo, .inl v0 :: .inr (some o) :: sk, h) res ↔ hK h o = 8 ∧ ∃ q : Res, Rn xs L d 57 [.inr (some o), .inl v0] h q ∧ X xs L d 130 (273, lo, q.1.toList ++ sk, q.2) res := i_callV k_130_270 rfl ⟨Nat.le_add_left 2 sk.length, Nat.le_trans (Nat.add_le_add_right hs 2) (Nat.le_of_eq (Nat.add_comm 8 2))⟩
theorem e_130_273 {x : Option Nat} {a0 a1 a3 : Option AV} : X xs L d 130 (273, [a0, a1, some (.inr x), a3], sk, h) res ↔ X xs L d 130 (274, [a0, a1, some (.inr x), a3], .inr x :: sk, h) res := i_aload_n k_130_273 rfl
theorem e_130_274 {x : Option Nat} {a1 a2 a3 : Option AV} : X xs L d 130 (274, [some (.inr x), a1, a2, a3], sk, h) res ↔ X xs L d 130 (275, [some (.inr x), a1, a2, a3], .inr x :: sk, h) res := i_aload_n k_130_274 rfl
theorem e_130_275 {x : Int32} {a0 a1 a2 : Option AV} : X xs L d 130 (275, [a0, a1, a2, some (.inl x)], sk, h) res ↔ X xs L d 130 (276, [a0, a1, a2, some (.inl x)], .inl x :: sk, h) res := i_iload_n k_130_275 rfl
theorem e_130_276 : X xs L d 130 (276, lo, sk, h) res ↔ X xs L d 130 (277, lo, .inl 1 :: sk, h) res := i_iconst k_130_276
theorem e_130_277 {x y : Int32} : X xs L d 130 (277, lo, .inl y :: .inl x :: sk, h) res ↔ X xs L d 130 (278, lo, .inl (x + y) :: sk, h) res := i_iadd k_130_277
theorem e_130_278 {i : Int32} : X xs L d 130 (278, lo, .inl i :: .inr (some 0) :: sk, h) res ↔ vp_in i L ∧ X xs L d 130 (279, lo, .inl (xs i.toNatClampNeg) :: sk, h) res := i_sld k_130_278
theorem e_130_279 {o : Nat} {v0 : Int32} (hs : sk.length ≤ 8) : X xs L d 130 (279, lo, .inl v0 :: .inr (some o) :: sk, h) res ↔ hK h o = 9 ∧ ∃ q : Res, Rn xs L d 111 [.inr (some o), .inl v0] h q ∧ X xs L d 130 (282, lo, q.1.toList ++ sk, q.2) res := i_callV k_130_279 rfl ⟨Nat.le_add_left 2 sk.length, Nat.le_trans (Nat.add_le_add_right hs 2) (Nat.le_of_eq (Nat.add_comm 8 2))⟩
theorem e_130_282 {x y : Int32} : X xs L d 130 (282, lo, .inl y :: .inl x :: sk, h) res ↔ (if x = y then X xs L d 130 (610, lo, sk, h) res else X xs L d 130 (285, lo, sk, h) res) := i_icmp_eq k_130_282
theorem e_130_285 : X xs L d 130 (285, lo, sk, h) res ↔ X xs L d 130 (286, lo, .inl 0 :: sk, h) res := i_iconst k_130_285
theorem e_130_286 {v : Int32} : X xs L d 130 (286, lo, [.inl v], h) res ↔ (v = 0 ∨ v = 1) ∧ res = (some (.inl v), h) := i_zret k_130_286 rfl
theorem e_130_287 {x : Option Nat} {a0 a2 a3 : Option AV} : X xs L d 130 (287, [a0, some (.inr x), a2, a3], sk, h) res ↔ X xs L d 130 (288, [a0, some (.inr x), a2, a3], .inr x :: sk, h) res := i_aload_n k_130_287 rfl
theorem e_130_288 {x : Option Nat} {a1 a2 a3 : Option AV} : X xs L d 130 (288, [some (.inr x), a1, a2, a3], sk, h) res ↔ X xs L d 130 (289, [some (.inr x), a1, a2, a3], .inr x :: sk, h) res := i_aload_n k_130_288 rfl
theorem e_130_289 {x : Int32} {a0 a1 a2 : Option AV} : X xs L d 130 (289, [a0, a1, a2, some (.inl x)], sk, h) res ↔ X xs L d 130 (290, [a0, a1, a2, some (.inl x)], .inl x :: sk, h) res := i_iload_n k_130_289 rfl
theorem e_130_290 : X xs L d 130 (290, lo, sk, h) res ↔ X xs L d 130 (291, lo, .inl 1 :: sk, h) res := i_iconst k_130_290
theorem e_130_291 {x y : Int32} : X xs L d 130 (291, lo, .inl y :: .inl x :: sk, h) res ↔ X xs L d 130 (292, lo, .inl (x + y) :: sk, h) res := i_iadd k_130_291
theorem e_130_292 {i : Int32} : X xs L d 130 (292, lo, .inl i :: .inr (some 0) :: sk, h) res ↔ vp_in i L ∧ X xs L d 130 (293, lo, .inl (xs i.toNatClampNeg) :: sk, h) res := i_sld k_130_292
theorem e_130_293 {o : Nat} {v0 : Int32} (hs : sk.length ≤ 8) : X xs L d 130 (293, lo, .inl v0 :: .inr (some o) :: sk, h) res ↔ hK h o = 8 ∧ ∃ q : Res, Rn xs L d 58 [.inr (some o), .inl v0] h q ∧ X xs L d 130 (296, lo, q.1.toList ++ sk, q.2) res := i_callV k_130_293 rfl ⟨Nat.le_add_left 2 sk.length, Nat.le_trans (Nat.add_le_add_right hs 2) (Nat.le_of_eq (Nat.add_comm 8 2))⟩
theorem e_130_296 {x : Option Nat} {a0 a1 a3 : Option AV} : X xs L d 130 (296, [a0, a1, some (.inr x), a3], sk, h) res ↔ X xs L d 130 (297, [a0, a1, some (.inr x), a3], .inr x :: sk, h) res := i_aload_n k_130_296 rfl
theorem e_130_297 {x : Option Nat} {a1 a2 a3 : Option AV} : X xs L d 130 (297, [some (.inr x), a1, a2, a3], sk, h) res ↔ X xs L d 130 (298, [some (.inr x), a1, a2, a3], .inr x :: sk, h) res := i_aload_n k_130_297 rfl
theorem e_130_298 {x : Int32} {a0 a1 a2 : Option AV} : X xs L d 130 (298, [a0, a1, a2, some (.inl x)], sk, h) res ↔ X xs L d 130 (299, [a0, a1, a2, some (.inl x)], .inl x :: sk, h) res := i_iload_n k_130_298 rfl
theorem e_130_299 : X xs L d 130 (299, lo, sk, h) res ↔ X xs L d 130 (300, lo, .inl 1 :: sk, h) res := i_iconst k_130_299
theorem e_130_300 {x y : Int32} : X xs L d 130 (300, lo, .inl y :: .inl x :: sk, h) res ↔ X xs L d 130 (301, lo, .inl (x + y) :: sk, h) res := i_iadd k_130_300
theorem e_130_301 {i : Int32} : X xs L d 130 (301, lo, .inl i :: .inr (some 0) :: sk, h) res ↔ vp_in i L ∧ X xs L d 130 (302, lo, .inl (xs i.toNatClampNeg) :: sk, h) res := i_sld k_130_301
theorem e_130_302 {o : Nat} {v0 : Int32} (hs : sk.length ≤ 8) : X xs L d 130 (302, lo, .inl v0 :: .inr (some o) :: sk, h) res ↔ hK h o = 9 ∧ ∃ q : Res, Rn xs L d 112 [.inr (some o), .inl v0] h q ∧ X xs L d 130 (305, lo, q.1.toList ++ sk, q.2) res := i_callV k_130_302 rfl ⟨Nat.le_add_left 2 sk.length, Nat.le_trans (Nat.add_le_add_right hs 2) (Nat.le_of_eq (Nat.add_comm 8 2))⟩
theorem e_130_305 {x y : Int32} : X xs L d 130 (305, lo, .inl y :: .inl x :: sk, h) res ↔ (if x = y then X xs L d 130 (610, lo, sk, h) res else X xs L d 130 (308, lo, sk, h) res) := i_icmp_eq k_130_305
theorem e_130_308 : X xs L d 130 (308, lo, sk, h) res ↔ X xs L d 130 (309, lo, .inl 0 :: sk, h) res := i_iconst k_130_308
theorem e_130_309 {v : Int32} : X xs L d 130 (309, lo, [.inl v], h) res ↔ (v = 0 ∨ v = 1) ∧ res = (some (.inl v), h) := i_zret k_130_309 rfl
theorem e_130_310 {x : Option Nat} {a0 a2 a3 : Option AV} : X xs L d 130 (310, [a0, some (.inr x), a2, a3], sk, h) res ↔ X xs L d 130 (311, [a0, some (.inr x), a2, a3], .inr x :: sk, h) res := i_aload_n k_130_310 rfl
theorem e_130_311 {x : Option Nat} {a1 a2 a3 : Option AV} : X xs L d 130 (311, [some (.inr x), a1, a2, a3], sk, h) res ↔ X xs L d 130 (312, [some (.inr x), a1, a2, a3], .inr x :: sk, h) res := i_aload_n k_130_311 rfl
theorem e_130_312 {x : Int32} {a0 a1 a2 : Option AV} : X xs L d 130 (312, [a0, a1, a2, some (.inl x)], sk, h) res ↔ X xs L d 130 (313, [a0, a1, a2, some (.inl x)], .inl x :: sk, h) res := i_iload_n k_130_312 rfl
theorem e_130_313 : X xs L d 130 (313, lo, sk, h) res ↔ X xs L d 130 (314, lo, .inl 1 :: sk, h) res := i_iconst k_130_313
theorem e_130_314 {x y : Int32} : X xs L d 130 (314, lo, .inl y :: .inl x :: sk, h) res ↔ X xs L d 130 (315, lo, .inl (x + y) :: sk, h) res := i_iadd k_130_314
theorem e_130_315 {i : Int32} : X xs L d 130 (315, lo, .inl i :: .inr (some 0) :: sk, h) res ↔ vp_in i L ∧ X xs L d 130 (316, lo, .inl (xs i.toNatClampNeg) :: sk, h) res := i_sld k_130_315
theorem e_130_316 {x : Int32} : X xs L d 130 (316, lo, .inl x :: sk, h) res ↔ (if x = 0 then X xs L d 130 (323, lo, sk, h) res else X xs L d 130 (319, lo, sk, h) res) := i_if_eq k_130_316
theorem e_130_319 : X xs L d 130 (319, lo, sk, h) res ↔ X xs L d 130 (320, lo, .inl 1 :: sk, h) res := i_iconst k_130_319
theorem e_130_320 : X xs L d 130 (320, lo, sk, h) res ↔ X xs L d 130 (324, lo, sk, h) res := i_goto k_130_320
theorem e_130_323 : X xs L d 130 (323, lo, sk, h) res ↔ X xs L d 130 (324, lo, .inl 0 :: sk, h) res := i_iconst k_130_323
theorem e_130_324 {o : Nat} {v0 : Int32} (hs : sk.length ≤ 8) : X xs L d 130 (324, lo, .inl v0 :: .inr (some o) :: sk, h) res ↔ hK h o = 8 ∧ ∃ q : Res, Rn xs L d 59 [.inr (some o), .inl v0] h q ∧ X xs L d 130 (327, lo, q.1.toList ++ sk, q.2) res := i_callV k_130_324 rfl ⟨Nat.le_add_left 2 sk.length, Nat.le_trans (Nat.add_le_add_right hs 2) (Nat.le_of_eq (Nat.add_comm 8 2))⟩
theorem e_130_327 {x : Option Nat} {a0 a1 a3 : Option AV} : X xs L d 130 (327, [a0, a1, some (.inr x), a3], sk, h) res ↔ X xs L d 130 (328, [a0, a1, some (.inr x), a3], .inr x :: sk, h) res := i_aload_n k_130_327 rfl
theorem e_130_328 {x : Option Nat} {a1 a2 a3 : Option AV} : X xs L d 130 (328, [some (.inr x), a1, a2, a3], sk, h) res ↔ X xs L d 130 (329, [some (.inr x), a1, a2, a3], .inr x :: sk, h) res := i_aload_n k_130_328 rfl
theorem e_130_329 {x : Int32} {a0 a1 a2 : Option AV} : X xs L d 130 (329, [a0, a1, a2, some (.inl x)], sk, h) res ↔ X xs L d 130 (330, [a0, a1, a2, some (.inl x)], .inl x :: sk, h) res := i_iload_n k_130_329 rfl
theorem e_130_330 : X xs L d 130 (330, lo, sk, h) res ↔ X xs L d 130 (331, lo, .inl 1 :: sk, h) res := i_iconst k_130_330
theorem e_130_331 {x y : Int32} : X xs L d 130 (331, lo, .inl y :: .inl x :: sk, h) res ↔ X xs L d 130 (332, lo, .inl (x + y) :: sk, h) res := i_iadd k_130_331
theorem e_130_332 {i : Int32} : X xs L d 130 (332, lo, .inl i :: .inr (some 0) :: sk, h) res ↔ vp_in i L ∧ X xs L d 130 (333, lo, .inl (xs i.toNatClampNeg) :: sk, h) res := i_sld k_130_332
theorem e_130_333 {x : Int32} : X xs L d 130 (333, lo, .inl x :: sk, h) res ↔ (if x = 0 then X xs L d 130 (340, lo, sk, h) res else X xs L d 130 (336, lo, sk, h) res) := i_if_eq k_130_333
theorem e_130_336 : X xs L d 130 (336, lo, sk, h) res ↔ X xs L d 130 (337, lo, .inl 1 :: sk, h) res := i_iconst k_130_336
theorem e_130_337 : X xs L d 130 (337, lo, sk, h) res ↔ X xs L d 130 (341, lo, sk, h) res := i_goto k_130_337
theorem e_130_340 : X xs L d 130 (340, lo, sk, h) res ↔ X xs L d 130 (341, lo, .inl 0 :: sk, h) res := i_iconst k_130_340
theorem e_130_341 {o : Nat} {v0 : Int32} (hs : sk.length ≤ 8) : X xs L d 130 (341, lo, .inl v0 :: .inr (some o) :: sk, h) res ↔ hK h o = 9 ∧ ∃ q : Res, Rn xs L d 113 [.inr (some o), .inl v0] h q ∧ X xs L d 130 (344, lo, q.1.toList ++ sk, q.2) res := i_callV k_130_341 rfl ⟨Nat.le_add_left 2 sk.length, Nat.le_trans (Nat.add_le_add_right hs 2) (Nat.le_of_eq (Nat.add_comm 8 2))⟩
theorem e_130_344 : X xs L d 130 (344, lo, sk, h) res ↔ X xs L d 130 (610, lo, sk, h) res := i_goto k_130_344
theorem e_130_347 {x : Option Nat} {a0 a2 a3 : Option AV} : X xs L d 130 (347, [a0, some (.inr x), a2, a3], sk, h) res ↔ X xs L d 130 (348, [a0, some (.inr x), a2, a3], .inr x :: sk, h) res := i_aload_n k_130_347 rfl
theorem e_130_348 {x : Option Nat} {a1 a2 a3 : Option AV} : X xs L d 130 (348, [some (.inr x), a1, a2, a3], sk, h) res ↔ X xs L d 130 (349, [some (.inr x), a1, a2, a3], .inr x :: sk, h) res := i_aload_n k_130_348 rfl
theorem e_130_349 {x : Int32} {a0 a1 a2 : Option AV} : X xs L d 130 (349, [a0, a1, a2, some (.inl x)], sk, h) res ↔ X xs L d 130 (350, [a0, a1, a2, some (.inl x)], .inl x :: sk, h) res := i_iload_n k_130_349 rfl
theorem e_130_350 : X xs L d 130 (350, lo, sk, h) res ↔ X xs L d 130 (351, lo, .inl 1 :: sk, h) res := i_iconst k_130_350
theorem e_130_351 {x y : Int32} : X xs L d 130 (351, lo, .inl y :: .inl x :: sk, h) res ↔ X xs L d 130 (352, lo, .inl (x + y) :: sk, h) res := i_iadd k_130_351
theorem e_130_352 {i : Int32} : X xs L d 130 (352, lo, .inl i :: .inr (some 0) :: sk, h) res ↔ vp_in i L ∧ X xs L d 130 (353, lo, .inl (xs i.toNatClampNeg) :: sk, h) res := i_sld k_130_352
theorem e_130_353 {x : Option Nat} {a1 a2 a3 : Option AV} : X xs L d 130 (353, [some (.inr x), a1, a2, a3], sk, h) res ↔ X xs L d 130 (354, [some (.inr x), a1, a2, a3], .inr x :: sk, h) res := i_aload_n k_130_353 rfl
theorem e_130_354 {x : Int32} {a0 a1 a2 : Option AV} : X xs L d 130 (354, [a0, a1, a2, some (.inl x)], sk, h) res ↔ X xs L d 130 (355, [a0, a1, a2, some (.inl x)], .inl x :: sk, h) res := i_iload_n k_130_354 rfl
theorem e_130_355 : X xs L d 130 (355, lo, sk, h) res ↔ X xs L d 130 (356, lo, .inl 2 :: sk, h) res := i_iconst k_130_355
theorem e_130_356 {x y : Int32} : X xs L d 130 (356, lo, .inl y :: .inl x :: sk, h) res ↔ X xs L d 130 (357, lo, .inl (x + y) :: sk, h) res := i_iadd k_130_356
theorem e_130_357 {i : Int32} : X xs L d 130 (357, lo, .inl i :: .inr (some 0) :: sk, h) res ↔ vp_in i L ∧ X xs L d 130 (358, lo, .inl (xs i.toNatClampNeg) :: sk, h) res := i_sld k_130_357
theorem e_130_358 {o : Nat} {v0 : Int32} {v1 : Int32} (hs : sk.length ≤ 8) : X xs L d 130 (358, lo, .inl v1 :: .inl v0 :: .inr (some o) :: sk, h) res ↔ hK h o = 8 ∧ ∃ q : Res, Rn xs L d 60 [.inr (some o), .inl v0, .inl v1] h q ∧ X xs L d 130 (361, lo, q.1.toList ++ sk, q.2) res := i_callV k_130_358 rfl ⟨Nat.le_add_left 3 sk.length, Nat.le_trans (Nat.add_le_add_right hs 3) (Nat.le_of_eq (Nat.add_comm 8 3))⟩
theorem e_130_361 {x : Option Nat} {a0 a1 a3 : Option AV} : X xs L d 130 (361, [a0, a1, some (.inr x), a3], sk, h) res ↔ X xs L d 130 (362, [a0, a1, some (.inr x), a3], .inr x :: sk, h) res := i_aload_n k_130_361 rfl
theorem e_130_362 {x : Option Nat} {a1 a2 a3 : Option AV} : X xs L d 130 (362, [some (.inr x), a1, a2, a3], sk, h) res ↔ X xs L d 130 (363, [some (.inr x), a1, a2, a3], .inr x :: sk, h) res := i_aload_n k_130_362 rfl
theorem e_130_363 {x : Int32} {a0 a1 a2 : Option AV} : X xs L d 130 (363, [a0, a1, a2, some (.inl x)], sk, h) res ↔ X xs L d 130 (364, [a0, a1, a2, some (.inl x)], .inl x :: sk, h) res := i_iload_n k_130_363 rfl
theorem e_130_364 : X xs L d 130 (364, lo, sk, h) res ↔ X xs L d 130 (365, lo, .inl 1 :: sk, h) res := i_iconst k_130_364
theorem e_130_365 {x y : Int32} : X xs L d 130 (365, lo, .inl y :: .inl x :: sk, h) res ↔ X xs L d 130 (366, lo, .inl (x + y) :: sk, h) res := i_iadd k_130_365
theorem e_130_366 {i : Int32} : X xs L d 130 (366, lo, .inl i :: .inr (some 0) :: sk, h) res ↔ vp_in i L ∧ X xs L d 130 (367, lo, .inl (xs i.toNatClampNeg) :: sk, h) res := i_sld k_130_366
theorem e_130_367 {x : Option Nat} {a1 a2 a3 : Option AV} : X xs L d 130 (367, [some (.inr x), a1, a2, a3], sk, h) res ↔ X xs L d 130 (368, [some (.inr x), a1, a2, a3], .inr x :: sk, h) res := i_aload_n k_130_367 rfl
theorem e_130_368 {x : Int32} {a0 a1 a2 : Option AV} : X xs L d 130 (368, [a0, a1, a2, some (.inl x)], sk, h) res ↔ X xs L d 130 (369, [a0, a1, a2, some (.inl x)], .inl x :: sk, h) res := i_iload_n k_130_368 rfl
theorem e_130_369 : X xs L d 130 (369, lo, sk, h) res ↔ X xs L d 130 (370, lo, .inl 2 :: sk, h) res := i_iconst k_130_369
theorem e_130_370 {x y : Int32} : X xs L d 130 (370, lo, .inl y :: .inl x :: sk, h) res ↔ X xs L d 130 (371, lo, .inl (x + y) :: sk, h) res := i_iadd k_130_370
theorem e_130_371 {i : Int32} : X xs L d 130 (371, lo, .inl i :: .inr (some 0) :: sk, h) res ↔ vp_in i L ∧ X xs L d 130 (372, lo, .inl (xs i.toNatClampNeg) :: sk, h) res := i_sld k_130_371
theorem e_130_372 {o : Nat} {v0 : Int32} {v1 : Int32} (hs : sk.length ≤ 8) : X xs L d 130 (372, lo, .inl v1 :: .inl v0 :: .inr (some o) :: sk, h) res ↔ hK h o = 9 ∧ ∃ q : Res, Rn xs L d 107 [.inr (some o), .inl v0, .inl v1] h q ∧ X xs L d 130 (375, lo, q.1.toList ++ sk, q.2) res := i_callV k_130_372 rfl ⟨Nat.le_add_left 3 sk.length, Nat.le_trans (Nat.add_le_add_right hs 3) (Nat.le_of_eq (Nat.add_comm 8 3))⟩
theorem e_130_375 {x y : Int32} : X xs L d 130 (375, lo, .inl y :: .inl x :: sk, h) res ↔ (if x = y then X xs L d 130 (610, lo, sk, h) res else X xs L d 130 (378, lo, sk, h) res) := i_icmp_eq k_130_375
theorem e_130_378 : X xs L d 130 (378, lo, sk, h) res ↔ X xs L d 130 (379, lo, .inl 0 :: sk, h) res := i_iconst k_130_378
theorem e_130_379 {v : Int32} : X xs L d 130 (379, lo, [.inl v], h) res ↔ (v = 0 ∨ v = 1) ∧ res = (some (.inl v), h) := i_zret k_130_379 rfl
theorem e_130_380 {x : Option Nat} {a0 a2 a3 : Option AV} : X xs L d 130 (380, [a0, some (.inr x), a2, a3], sk, h) res ↔ X xs L d 130 (381, [a0, some (.inr x), a2, a3], .inr x :: sk, h) res := i_aload_n k_130_380 rfl
theorem e_130_381 {o : Nat} (hs : sk.length ≤ 8) : X xs L d 130 (381, lo, .inr (some o) :: sk, h) res ↔ hK h o = 8 ∧ ∃ q : Res, Rn xs L d 61 [.inr (some o)] h q ∧ X xs L d 130 (384, lo, q.1.toList ++ sk, q.2) res := i_callV k_130_381 rfl ⟨Nat.le_add_left 1 sk.length, Nat.le_trans (Nat.add_le_add_right hs 1) (Nat.le_of_eq (Nat.add_comm 8 1))⟩
theorem e_130_384 {x : Option Nat} {a0 a1 a3 : Option AV} : X xs L d 130 (384, [a0, a1, some (.inr x), a3], sk, h) res ↔ X xs L d 130 (385, [a0, a1, some (.inr x), a3], .inr x :: sk, h) res := i_aload_n k_130_384 rfl
theorem e_130_385 {o : Nat} (hs : sk.length ≤ 8) : X xs L d 130 (385, lo, .inr (some o) :: sk, h) res ↔ hK h o = 9 ∧ ∃ q : Res, Rn xs L d 116 [.inr (some o)] h q ∧ X xs L d 130 (388, lo, q.1.toList ++ sk, q.2) res := i_callV k_130_385 rfl ⟨Nat.le_add_left 1 sk.length, Nat.le_trans (Nat.add_le_add_right hs 1) (Nat.le_of_eq (Nat.add_comm 8 1))⟩
theorem e_130_388 {x y : Int32} : X xs L d 130 (388, lo, .inl y :: .inl x :: sk, h) res ↔ (if x = y then X xs L d 130 (610, lo, sk, h) res else X xs L d 130 (391, lo, sk, h) res) := i_icmp_eq k_130_388
theorem e_130_391 : X xs L d 130 (391, lo, sk, h) res ↔ X xs L d 130 (392, lo, .inl 0 :: sk, h) res := i_iconst k_130_391
theorem e_130_392 {v : Int32} : X xs L d 130 (392, lo, [.inl v], h) res ↔ (v = 0 ∨ v = 1) ∧ res = (some (.inl v), h) := i_zret k_130_392 rfl
theorem e_130_393 {x : Option Nat} {a0 a2 a3 : Option AV} : X xs L d 130 (393, [a0, some (.inr x), a2, a3], sk, h) res ↔ X xs L d 130 (394, [a0, some (.inr x), a2, a3], .inr x :: sk, h) res := i_aload_n k_130_393 rfl
theorem e_130_394 {o : Nat} (hs : sk.length ≤ 8) : X xs L d 130 (394, lo, .inr (some o) :: sk, h) res ↔ hK h o = 8 ∧ ∃ q : Res, Rn xs L d 62 [.inr (some o)] h q ∧ X xs L d 130 (397, lo, q.1.toList ++ sk, q.2) res := i_callV k_130_394 rfl ⟨Nat.le_add_left 1 sk.length, Nat.le_trans (Nat.add_le_add_right hs 1) (Nat.le_of_eq (Nat.add_comm 8 1))⟩
theorem e_130_397 {x : Option Nat} {a0 a1 a3 : Option AV} : X xs L d 130 (397, [a0, a1, some (.inr x), a3], sk, h) res ↔ X xs L d 130 (398, [a0, a1, some (.inr x), a3], .inr x :: sk, h) res := i_aload_n k_130_397 rfl
theorem e_130_398 {o : Nat} (hs : sk.length ≤ 8) : X xs L d 130 (398, lo, .inr (some o) :: sk, h) res ↔ hK h o = 9 ∧ ∃ q : Res, Rn xs L d 117 [.inr (some o)] h q ∧ X xs L d 130 (401, lo, q.1.toList ++ sk, q.2) res := i_callV k_130_398 rfl ⟨Nat.le_add_left 1 sk.length, Nat.le_trans (Nat.add_le_add_right hs 1) (Nat.le_of_eq (Nat.add_comm 8 1))⟩
theorem e_130_401 {x y : Int32} : X xs L d 130 (401, lo, .inl y :: .inl x :: sk, h) res ↔ (if x = y then X xs L d 130 (610, lo, sk, h) res else X xs L d 130 (404, lo, sk, h) res) := i_icmp_eq k_130_401
theorem e_130_404 : X xs L d 130 (404, lo, sk, h) res ↔ X xs L d 130 (405, lo, .inl 0 :: sk, h) res := i_iconst k_130_404
theorem e_130_405 {v : Int32} : X xs L d 130 (405, lo, [.inl v], h) res ↔ (v = 0 ∨ v = 1) ∧ res = (some (.inl v), h) := i_zret k_130_405 rfl
theorem e_130_406 {x : Option Nat} {a0 a2 a3 : Option AV} : X xs L d 130 (406, [a0, some (.inr x), a2, a3], sk, h) res ↔ X xs L d 130 (407, [a0, some (.inr x), a2, a3], .inr x :: sk, h) res := i_aload_n k_130_406 rfl
theorem e_130_407 {x : Option Nat} {a1 a2 a3 : Option AV} : X xs L d 130 (407, [some (.inr x), a1, a2, a3], sk, h) res ↔ X xs L d 130 (408, [some (.inr x), a1, a2, a3], .inr x :: sk, h) res := i_aload_n k_130_407 rfl
theorem e_130_408 {x : Int32} {a0 a1 a2 : Option AV} : X xs L d 130 (408, [a0, a1, a2, some (.inl x)], sk, h) res ↔ X xs L d 130 (409, [a0, a1, a2, some (.inl x)], .inl x :: sk, h) res := i_iload_n k_130_408 rfl
theorem e_130_409 : X xs L d 130 (409, lo, sk, h) res ↔ X xs L d 130 (410, lo, .inl 1 :: sk, h) res := i_iconst k_130_409
theorem e_130_410 {x y : Int32} : X xs L d 130 (410, lo, .inl y :: .inl x :: sk, h) res ↔ X xs L d 130 (411, lo, .inl (x + y) :: sk, h) res := i_iadd k_130_410
theorem e_130_411 {i : Int32} : X xs L d 130 (411, lo, .inl i :: .inr (some 0) :: sk, h) res ↔ vp_in i L ∧ X xs L d 130 (412, lo, .inl (xs i.toNatClampNeg) :: sk, h) res := i_sld k_130_411
theorem e_130_412 {o : Nat} {v0 : Int32} (hs : sk.length ≤ 8) : X xs L d 130 (412, lo, .inl v0 :: .inr (some o) :: sk, h) res ↔ hK h o = 8 ∧ ∃ q : Res, Rn xs L d 63 [.inr (some o), .inl v0] h q ∧ X xs L d 130 (415, lo, q.1.toList ++ sk, q.2) res := i_callV k_130_412 rfl ⟨Nat.le_add_left 2 sk.length, Nat.le_trans (Nat.add_le_add_right hs 2) (Nat.le_of_eq (Nat.add_comm 8 2))⟩
theorem e_130_415 {x : Option Nat} {a0 a1 a3 : Option AV} : X xs L d 130 (415, [a0, a1, some (.inr x), a3], sk, h) res ↔ X xs L d 130 (416, [a0, a1, some (.inr x), a3], .inr x :: sk, h) res := i_aload_n k_130_415 rfl
theorem e_130_416 {x : Option Nat} {a1 a2 a3 : Option AV} : X xs L d 130 (416, [some (.inr x), a1, a2, a3], sk, h) res ↔ X xs L d 130 (417, [some (.inr x), a1, a2, a3], .inr x :: sk, h) res := i_aload_n k_130_416 rfl
theorem e_130_417 {x : Int32} {a0 a1 a2 : Option AV} : X xs L d 130 (417, [a0, a1, a2, some (.inl x)], sk, h) res ↔ X xs L d 130 (418, [a0, a1, a2, some (.inl x)], .inl x :: sk, h) res := i_iload_n k_130_417 rfl
theorem e_130_418 : X xs L d 130 (418, lo, sk, h) res ↔ X xs L d 130 (419, lo, .inl 1 :: sk, h) res := i_iconst k_130_418
theorem e_130_419 {x y : Int32} : X xs L d 130 (419, lo, .inl y :: .inl x :: sk, h) res ↔ X xs L d 130 (420, lo, .inl (x + y) :: sk, h) res := i_iadd k_130_419
theorem e_130_420 {i : Int32} : X xs L d 130 (420, lo, .inl i :: .inr (some 0) :: sk, h) res ↔ vp_in i L ∧ X xs L d 130 (421, lo, .inl (xs i.toNatClampNeg) :: sk, h) res := i_sld k_130_420
theorem e_130_421 {o : Nat} {v0 : Int32} (hs : sk.length ≤ 8) : X xs L d 130 (421, lo, .inl v0 :: .inr (some o) :: sk, h) res ↔ hK h o = 9 ∧ ∃ q : Res, Rn xs L d 119 [.inr (some o), .inl v0] h q ∧ X xs L d 130 (424, lo, q.1.toList ++ sk, q.2) res := i_callV k_130_421 rfl ⟨Nat.le_add_left 2 sk.length, Nat.le_trans (Nat.add_le_add_right hs 2) (Nat.le_of_eq (Nat.add_comm 8 2))⟩
theorem e_130_424 {x y : Int32} : X xs L d 130 (424, lo, .inl y :: .inl x :: sk, h) res ↔ (if x = y then X xs L d 130 (610, lo, sk, h) res else X xs L d 130 (427, lo, sk, h) res) := i_icmp_eq k_130_424
theorem e_130_427 : X xs L d 130 (427, lo, sk, h) res ↔ X xs L d 130 (428, lo, .inl 0 :: sk, h) res := i_iconst k_130_427
theorem e_130_428 {v : Int32} : X xs L d 130 (428, lo, [.inl v], h) res ↔ (v = 0 ∨ v = 1) ∧ res = (some (.inl v), h) := i_zret k_130_428 rfl
theorem e_130_429 {x : Option Nat} {a0 a2 a3 : Option AV} : X xs L d 130 (429, [a0, some (.inr x), a2, a3], sk, h) res ↔ X xs L d 130 (430, [a0, some (.inr x), a2, a3], .inr x :: sk, h) res := i_aload_n k_130_429 rfl
theorem e_130_430 {x : Option Nat} {a1 a2 a3 : Option AV} : X xs L d 130 (430, [some (.inr x), a1, a2, a3], sk, h) res ↔ X xs L d 130 (431, [some (.inr x), a1, a2, a3], .inr x :: sk, h) res := i_aload_n k_130_430 rfl
theorem e_130_431 {x : Int32} {a0 a1 a2 : Option AV} : X xs L d 130 (431, [a0, a1, a2, some (.inl x)], sk, h) res ↔ X xs L d 130 (432, [a0, a1, a2, some (.inl x)], .inl x :: sk, h) res := i_iload_n k_130_431 rfl
theorem e_130_432 : X xs L d 130 (432, lo, sk, h) res ↔ X xs L d 130 (433, lo, .inl 1 :: sk, h) res := i_iconst k_130_432
theorem e_130_433 {x y : Int32} : X xs L d 130 (433, lo, .inl y :: .inl x :: sk, h) res ↔ X xs L d 130 (434, lo, .inl (x + y) :: sk, h) res := i_iadd k_130_433
theorem e_130_434 {i : Int32} : X xs L d 130 (434, lo, .inl i :: .inr (some 0) :: sk, h) res ↔ vp_in i L ∧ X xs L d 130 (435, lo, .inl (xs i.toNatClampNeg) :: sk, h) res := i_sld k_130_434
theorem e_130_435 {o : Nat} {v0 : Int32} (hs : sk.length ≤ 8) : X xs L d 130 (435, lo, .inl v0 :: .inr (some o) :: sk, h) res ↔ hK h o = 8 ∧ ∃ q : Res, Rn xs L d 64 [.inr (some o), .inl v0] h q ∧ X xs L d 130 (438, lo, q.1.toList ++ sk, q.2) res := i_callV k_130_435 rfl ⟨Nat.le_add_left 2 sk.length, Nat.le_trans (Nat.add_le_add_right hs 2) (Nat.le_of_eq (Nat.add_comm 8 2))⟩
theorem e_130_438 {x : Option Nat} {a0 a1 a3 : Option AV} : X xs L d 130 (438, [a0, a1, some (.inr x), a3], sk, h) res ↔ X xs L d 130 (439, [a0, a1, some (.inr x), a3], .inr x :: sk, h) res := i_aload_n k_130_438 rfl
theorem e_130_439 {x : Option Nat} {a1 a2 a3 : Option AV} : X xs L d 130 (439, [some (.inr x), a1, a2, a3], sk, h) res ↔ X xs L d 130 (440, [some (.inr x), a1, a2, a3], .inr x :: sk, h) res := i_aload_n k_130_439 rfl
theorem e_130_440 {x : Int32} {a0 a1 a2 : Option AV} : X xs L d 130 (440, [a0, a1, a2, some (.inl x)], sk, h) res ↔ X xs L d 130 (441, [a0, a1, a2, some (.inl x)], .inl x :: sk, h) res := i_iload_n k_130_440 rfl
theorem e_130_441 : X xs L d 130 (441, lo, sk, h) res ↔ X xs L d 130 (442, lo, .inl 1 :: sk, h) res := i_iconst k_130_441
theorem e_130_442 {x y : Int32} : X xs L d 130 (442, lo, .inl y :: .inl x :: sk, h) res ↔ X xs L d 130 (443, lo, .inl (x + y) :: sk, h) res := i_iadd k_130_442
theorem e_130_443 {i : Int32} : X xs L d 130 (443, lo, .inl i :: .inr (some 0) :: sk, h) res ↔ vp_in i L ∧ X xs L d 130 (444, lo, .inl (xs i.toNatClampNeg) :: sk, h) res := i_sld k_130_443
theorem e_130_444 {o : Nat} {v0 : Int32} (hs : sk.length ≤ 8) : X xs L d 130 (444, lo, .inl v0 :: .inr (some o) :: sk, h) res ↔ hK h o = 9 ∧ ∃ q : Res, Rn xs L d 120 [.inr (some o), .inl v0] h q ∧ X xs L d 130 (447, lo, q.1.toList ++ sk, q.2) res := i_callV k_130_444 rfl ⟨Nat.le_add_left 2 sk.length, Nat.le_trans (Nat.add_le_add_right hs 2) (Nat.le_of_eq (Nat.add_comm 8 2))⟩
theorem e_130_447 {x y : Int32} : X xs L d 130 (447, lo, .inl y :: .inl x :: sk, h) res ↔ (if x = y then X xs L d 130 (610, lo, sk, h) res else X xs L d 130 (450, lo, sk, h) res) := i_icmp_eq k_130_447
theorem e_130_450 : X xs L d 130 (450, lo, sk, h) res ↔ X xs L d 130 (451, lo, .inl 0 :: sk, h) res := i_iconst k_130_450
theorem e_130_451 {v : Int32} : X xs L d 130 (451, lo, [.inl v], h) res ↔ (v = 0 ∨ v = 1) ∧ res = (some (.inl v), h) := i_zret k_130_451 rfl
theorem e_130_452 {x : Option Nat} {a0 a2 a3 : Option AV} : X xs L d 130 (452, [a0, some (.inr x), a2, a3], sk, h) res ↔ X xs L d 130 (453, [a0, some (.inr x), a2, a3], .inr x :: sk, h) res := i_aload_n k_130_452 rfl
theorem e_130_453 {x : Option Nat} {a1 a2 a3 : Option AV} : X xs L d 130 (453, [some (.inr x), a1, a2, a3], sk, h) res ↔ X xs L d 130 (454, [some (.inr x), a1, a2, a3], .inr x :: sk, h) res := i_aload_n k_130_453 rfl
theorem e_130_454 {x : Int32} {a0 a1 a2 : Option AV} : X xs L d 130 (454, [a0, a1, a2, some (.inl x)], sk, h) res ↔ X xs L d 130 (455, [a0, a1, a2, some (.inl x)], .inl x :: sk, h) res := i_iload_n k_130_454 rfl
theorem e_130_455 : X xs L d 130 (455, lo, sk, h) res ↔ X xs L d 130 (456, lo, .inl 1 :: sk, h) res := i_iconst k_130_455
theorem e_130_456 {x y : Int32} : X xs L d 130 (456, lo, .inl y :: .inl x :: sk, h) res ↔ X xs L d 130 (457, lo, .inl (x + y) :: sk, h) res := i_iadd k_130_456
theorem e_130_457 {i : Int32} : X xs L d 130 (457, lo, .inl i :: .inr (some 0) :: sk, h) res ↔ vp_in i L ∧ X xs L d 130 (458, lo, .inl (xs i.toNatClampNeg) :: sk, h) res := i_sld k_130_457
theorem e_130_458 {x : Option Nat} {a1 a2 a3 : Option AV} : X xs L d 130 (458, [some (.inr x), a1, a2, a3], sk, h) res ↔ X xs L d 130 (459, [some (.inr x), a1, a2, a3], .inr x :: sk, h) res := i_aload_n k_130_458 rfl
theorem e_130_459 {x : Int32} {a0 a1 a2 : Option AV} : X xs L d 130 (459, [a0, a1, a2, some (.inl x)], sk, h) res ↔ X xs L d 130 (460, [a0, a1, a2, some (.inl x)], .inl x :: sk, h) res := i_iload_n k_130_459 rfl
theorem e_130_460 : X xs L d 130 (460, lo, sk, h) res ↔ X xs L d 130 (461, lo, .inl 2 :: sk, h) res := i_iconst k_130_460
theorem e_130_461 {x y : Int32} : X xs L d 130 (461, lo, .inl y :: .inl x :: sk, h) res ↔ X xs L d 130 (462, lo, .inl (x + y) :: sk, h) res := i_iadd k_130_461
theorem e_130_462 {i : Int32} : X xs L d 130 (462, lo, .inl i :: .inr (some 0) :: sk, h) res ↔ vp_in i L ∧ X xs L d 130 (463, lo, .inl (xs i.toNatClampNeg) :: sk, h) res := i_sld k_130_462
theorem e_130_463 {o : Nat} {v0 : Int32} {v1 : Int32} (hs : sk.length ≤ 8) : X xs L d 130 (463, lo, .inl v1 :: .inl v0 :: .inr (some o) :: sk, h) res ↔ hK h o = 8 ∧ ∃ q : Res, Rn xs L d 65 [.inr (some o), .inl v0, .inl v1] h q ∧ X xs L d 130 (466, lo, q.1.toList ++ sk, q.2) res := i_callV k_130_463 rfl ⟨Nat.le_add_left 3 sk.length, Nat.le_trans (Nat.add_le_add_right hs 3) (Nat.le_of_eq (Nat.add_comm 8 3))⟩
theorem e_130_466 {x : Option Nat} {a0 a1 a3 : Option AV} : X xs L d 130 (466, [a0, a1, some (.inr x), a3], sk, h) res ↔ X xs L d 130 (467, [a0, a1, some (.inr x), a3], .inr x :: sk, h) res := i_aload_n k_130_466 rfl
theorem e_130_467 {x : Option Nat} {a1 a2 a3 : Option AV} : X xs L d 130 (467, [some (.inr x), a1, a2, a3], sk, h) res ↔ X xs L d 130 (468, [some (.inr x), a1, a2, a3], .inr x :: sk, h) res := i_aload_n k_130_467 rfl
theorem e_130_468 {x : Int32} {a0 a1 a2 : Option AV} : X xs L d 130 (468, [a0, a1, a2, some (.inl x)], sk, h) res ↔ X xs L d 130 (469, [a0, a1, a2, some (.inl x)], .inl x :: sk, h) res := i_iload_n k_130_468 rfl
theorem e_130_469 : X xs L d 130 (469, lo, sk, h) res ↔ X xs L d 130 (470, lo, .inl 1 :: sk, h) res := i_iconst k_130_469
theorem e_130_470 {x y : Int32} : X xs L d 130 (470, lo, .inl y :: .inl x :: sk, h) res ↔ X xs L d 130 (471, lo, .inl (x + y) :: sk, h) res := i_iadd k_130_470
theorem e_130_471 {i : Int32} : X xs L d 130 (471, lo, .inl i :: .inr (some 0) :: sk, h) res ↔ vp_in i L ∧ X xs L d 130 (472, lo, .inl (xs i.toNatClampNeg) :: sk, h) res := i_sld k_130_471
theorem e_130_472 {x : Option Nat} {a1 a2 a3 : Option AV} : X xs L d 130 (472, [some (.inr x), a1, a2, a3], sk, h) res ↔ X xs L d 130 (473, [some (.inr x), a1, a2, a3], .inr x :: sk, h) res := i_aload_n k_130_472 rfl
theorem e_130_473 {x : Int32} {a0 a1 a2 : Option AV} : X xs L d 130 (473, [a0, a1, a2, some (.inl x)], sk, h) res ↔ X xs L d 130 (474, [a0, a1, a2, some (.inl x)], .inl x :: sk, h) res := i_iload_n k_130_473 rfl
theorem e_130_474 : X xs L d 130 (474, lo, sk, h) res ↔ X xs L d 130 (475, lo, .inl 2 :: sk, h) res := i_iconst k_130_474
theorem e_130_475 {x y : Int32} : X xs L d 130 (475, lo, .inl y :: .inl x :: sk, h) res ↔ X xs L d 130 (476, lo, .inl (x + y) :: sk, h) res := i_iadd k_130_475
theorem e_130_476 {i : Int32} : X xs L d 130 (476, lo, .inl i :: .inr (some 0) :: sk, h) res ↔ vp_in i L ∧ X xs L d 130 (477, lo, .inl (xs i.toNatClampNeg) :: sk, h) res := i_sld k_130_476
theorem e_130_477 {o : Nat} {v0 : Int32} {v1 : Int32} (hs : sk.length ≤ 8) : X xs L d 130 (477, lo, .inl v1 :: .inl v0 :: .inr (some o) :: sk, h) res ↔ hK h o = 9 ∧ ∃ q : Res, Rn xs L d 121 [.inr (some o), .inl v0, .inl v1] h q ∧ X xs L d 130 (480, lo, q.1.toList ++ sk, q.2) res := i_callV k_130_477 rfl ⟨Nat.le_add_left 3 sk.length, Nat.le_trans (Nat.add_le_add_right hs 3) (Nat.le_of_eq (Nat.add_comm 8 3))⟩
theorem e_130_480 {x y : Int32} : X xs L d 130 (480, lo, .inl y :: .inl x :: sk, h) res ↔ (if x = y then X xs L d 130 (610, lo, sk, h) res else X xs L d 130 (483, lo, sk, h) res) := i_icmp_eq k_130_480
theorem e_130_483 : X xs L d 130 (483, lo, sk, h) res ↔ X xs L d 130 (484, lo, .inl 0 :: sk, h) res := i_iconst k_130_483
theorem e_130_484 {v : Int32} : X xs L d 130 (484, lo, [.inl v], h) res ↔ (v = 0 ∨ v = 1) ∧ res = (some (.inl v), h) := i_zret k_130_484 rfl
theorem e_130_485 {x : Option Nat} {a0 a2 a3 : Option AV} : X xs L d 130 (485, [a0, some (.inr x), a2, a3], sk, h) res ↔ X xs L d 130 (486, [a0, some (.inr x), a2, a3], .inr x :: sk, h) res := i_aload_n k_130_485 rfl
theorem e_130_486 {x : Option Nat} {a1 a2 a3 : Option AV} : X xs L d 130 (486, [some (.inr x), a1, a2, a3], sk, h) res ↔ X xs L d 130 (487, [some (.inr x), a1, a2, a3], .inr x :: sk, h) res := i_aload_n k_130_486 rfl
theorem e_130_487 {x : Int32} {a0 a1 a2 : Option AV} : X xs L d 130 (487, [a0, a1, a2, some (.inl x)], sk, h) res ↔ X xs L d 130 (488, [a0, a1, a2, some (.inl x)], .inl x :: sk, h) res := i_iload_n k_130_487 rfl
theorem e_130_488 : X xs L d 130 (488, lo, sk, h) res ↔ X xs L d 130 (489, lo, .inl 1 :: sk, h) res := i_iconst k_130_488
theorem e_130_489 {x y : Int32} : X xs L d 130 (489, lo, .inl y :: .inl x :: sk, h) res ↔ X xs L d 130 (490, lo, .inl (x + y) :: sk, h) res := i_iadd k_130_489
theorem e_130_490 {i : Int32} : X xs L d 130 (490, lo, .inl i :: .inr (some 0) :: sk, h) res ↔ vp_in i L ∧ X xs L d 130 (491, lo, .inl (xs i.toNatClampNeg) :: sk, h) res := i_sld k_130_490
theorem e_130_491 {x : Option Nat} {a1 a2 a3 : Option AV} : X xs L d 130 (491, [some (.inr x), a1, a2, a3], sk, h) res ↔ X xs L d 130 (492, [some (.inr x), a1, a2, a3], .inr x :: sk, h) res := i_aload_n k_130_491 rfl
theorem e_130_492 {x : Int32} {a0 a1 a2 : Option AV} : X xs L d 130 (492, [a0, a1, a2, some (.inl x)], sk, h) res ↔ X xs L d 130 (493, [a0, a1, a2, some (.inl x)], .inl x :: sk, h) res := i_iload_n k_130_492 rfl
theorem e_130_493 : X xs L d 130 (493, lo, sk, h) res ↔ X xs L d 130 (494, lo, .inl 2 :: sk, h) res := i_iconst k_130_493
theorem e_130_494 {x y : Int32} : X xs L d 130 (494, lo, .inl y :: .inl x :: sk, h) res ↔ X xs L d 130 (495, lo, .inl (x + y) :: sk, h) res := i_iadd k_130_494
theorem e_130_495 {i : Int32} : X xs L d 130 (495, lo, .inl i :: .inr (some 0) :: sk, h) res ↔ vp_in i L ∧ X xs L d 130 (496, lo, .inl (xs i.toNatClampNeg) :: sk, h) res := i_sld k_130_495
theorem e_130_496 {x : Option Nat} {a1 a2 a3 : Option AV} : X xs L d 130 (496, [some (.inr x), a1, a2, a3], sk, h) res ↔ X xs L d 130 (497, [some (.inr x), a1, a2, a3], .inr x :: sk, h) res := i_aload_n k_130_496 rfl
theorem e_130_497 {x : Int32} {a0 a1 a2 : Option AV} : X xs L d 130 (497, [a0, a1, a2, some (.inl x)], sk, h) res ↔ X xs L d 130 (498, [a0, a1, a2, some (.inl x)], .inl x :: sk, h) res := i_iload_n k_130_497 rfl
theorem e_130_498 : X xs L d 130 (498, lo, sk, h) res ↔ X xs L d 130 (499, lo, .inl 3 :: sk, h) res := i_iconst k_130_498
theorem e_130_499 {x y : Int32} : X xs L d 130 (499, lo, .inl y :: .inl x :: sk, h) res ↔ X xs L d 130 (500, lo, .inl (x + y) :: sk, h) res := i_iadd k_130_499
theorem e_130_500 {i : Int32} : X xs L d 130 (500, lo, .inl i :: .inr (some 0) :: sk, h) res ↔ vp_in i L ∧ X xs L d 130 (501, lo, .inl (xs i.toNatClampNeg) :: sk, h) res := i_sld k_130_500
theorem e_130_501 {o : Nat} {v0 : Int32} {v1 : Int32} {v2 : Int32} (hs : sk.length ≤ 8) : X xs L d 130 (501, lo, .inl v2 :: .inl v1 :: .inl v0 :: .inr (some o) :: sk, h) res ↔ hK h o = 8 ∧ ∃ q : Res, Rn xs L d 66 [.inr (some o), .inl v0, .inl v1, .inl v2] h q ∧ X xs L d 130 (504, lo, q.1.toList ++ sk, q.2) res := i_callV k_130_501 rfl ⟨Nat.le_add_left 4 sk.length, Nat.le_trans (Nat.add_le_add_right hs 4) (Nat.le_of_eq (Nat.add_comm 8 4))⟩
theorem e_130_504 {x : Option Nat} {a0 a1 a3 : Option AV} : X xs L d 130 (504, [a0, a1, some (.inr x), a3], sk, h) res ↔ X xs L d 130 (505, [a0, a1, some (.inr x), a3], .inr x :: sk, h) res := i_aload_n k_130_504 rfl
theorem e_130_505 {x : Option Nat} {a1 a2 a3 : Option AV} : X xs L d 130 (505, [some (.inr x), a1, a2, a3], sk, h) res ↔ X xs L d 130 (506, [some (.inr x), a1, a2, a3], .inr x :: sk, h) res := i_aload_n k_130_505 rfl
theorem e_130_506 {x : Int32} {a0 a1 a2 : Option AV} : X xs L d 130 (506, [a0, a1, a2, some (.inl x)], sk, h) res ↔ X xs L d 130 (507, [a0, a1, a2, some (.inl x)], .inl x :: sk, h) res := i_iload_n k_130_506 rfl
theorem e_130_507 : X xs L d 130 (507, lo, sk, h) res ↔ X xs L d 130 (508, lo, .inl 1 :: sk, h) res := i_iconst k_130_507
theorem e_130_508 {x y : Int32} : X xs L d 130 (508, lo, .inl y :: .inl x :: sk, h) res ↔ X xs L d 130 (509, lo, .inl (x + y) :: sk, h) res := i_iadd k_130_508
theorem e_130_509 {i : Int32} : X xs L d 130 (509, lo, .inl i :: .inr (some 0) :: sk, h) res ↔ vp_in i L ∧ X xs L d 130 (510, lo, .inl (xs i.toNatClampNeg) :: sk, h) res := i_sld k_130_509
theorem e_130_510 {x : Option Nat} {a1 a2 a3 : Option AV} : X xs L d 130 (510, [some (.inr x), a1, a2, a3], sk, h) res ↔ X xs L d 130 (511, [some (.inr x), a1, a2, a3], .inr x :: sk, h) res := i_aload_n k_130_510 rfl
theorem e_130_511 {x : Int32} {a0 a1 a2 : Option AV} : X xs L d 130 (511, [a0, a1, a2, some (.inl x)], sk, h) res ↔ X xs L d 130 (512, [a0, a1, a2, some (.inl x)], .inl x :: sk, h) res := i_iload_n k_130_511 rfl
theorem e_130_512 : X xs L d 130 (512, lo, sk, h) res ↔ X xs L d 130 (513, lo, .inl 2 :: sk, h) res := i_iconst k_130_512
theorem e_130_513 {x y : Int32} : X xs L d 130 (513, lo, .inl y :: .inl x :: sk, h) res ↔ X xs L d 130 (514, lo, .inl (x + y) :: sk, h) res := i_iadd k_130_513
theorem e_130_514 {i : Int32} : X xs L d 130 (514, lo, .inl i :: .inr (some 0) :: sk, h) res ↔ vp_in i L ∧ X xs L d 130 (515, lo, .inl (xs i.toNatClampNeg) :: sk, h) res := i_sld k_130_514
theorem e_130_515 {x : Option Nat} {a1 a2 a3 : Option AV} : X xs L d 130 (515, [some (.inr x), a1, a2, a3], sk, h) res ↔ X xs L d 130 (516, [some (.inr x), a1, a2, a3], .inr x :: sk, h) res := i_aload_n k_130_515 rfl
theorem e_130_516 {x : Int32} {a0 a1 a2 : Option AV} : X xs L d 130 (516, [a0, a1, a2, some (.inl x)], sk, h) res ↔ X xs L d 130 (517, [a0, a1, a2, some (.inl x)], .inl x :: sk, h) res := i_iload_n k_130_516 rfl
theorem e_130_517 : X xs L d 130 (517, lo, sk, h) res ↔ X xs L d 130 (518, lo, .inl 3 :: sk, h) res := i_iconst k_130_517
theorem e_130_518 {x y : Int32} : X xs L d 130 (518, lo, .inl y :: .inl x :: sk, h) res ↔ X xs L d 130 (519, lo, .inl (x + y) :: sk, h) res := i_iadd k_130_518
theorem e_130_519 {i : Int32} : X xs L d 130 (519, lo, .inl i :: .inr (some 0) :: sk, h) res ↔ vp_in i L ∧ X xs L d 130 (520, lo, .inl (xs i.toNatClampNeg) :: sk, h) res := i_sld k_130_519
theorem e_130_520 {o : Nat} {v0 : Int32} {v1 : Int32} {v2 : Int32} (hs : sk.length ≤ 8) : X xs L d 130 (520, lo, .inl v2 :: .inl v1 :: .inl v0 :: .inr (some o) :: sk, h) res ↔ hK h o = 9 ∧ ∃ q : Res, Rn xs L d 122 [.inr (some o), .inl v0, .inl v1, .inl v2] h q ∧ X xs L d 130 (523, lo, q.1.toList ++ sk, q.2) res := i_callV k_130_520 rfl ⟨Nat.le_add_left 4 sk.length, Nat.le_trans (Nat.add_le_add_right hs 4) (Nat.le_of_eq (Nat.add_comm 8 4))⟩
theorem e_130_523 {x y : Int32} : X xs L d 130 (523, lo, .inl y :: .inl x :: sk, h) res ↔ (if x = y then X xs L d 130 (610, lo, sk, h) res else X xs L d 130 (526, lo, sk, h) res) := i_icmp_eq k_130_523
theorem e_130_526 : X xs L d 130 (526, lo, sk, h) res ↔ X xs L d 130 (527, lo, .inl 0 :: sk, h) res := i_iconst k_130_526
theorem e_130_527 {v : Int32} : X xs L d 130 (527, lo, [.inl v], h) res ↔ (v = 0 ∨ v = 1) ∧ res = (some (.inl v), h) := i_zret k_130_527 rfl
theorem e_130_528 {x : Option Nat} {a0 a2 a3 : Option AV} : X xs L d 130 (528, [a0, some (.inr x), a2, a3], sk, h) res ↔ X xs L d 130 (529, [a0, some (.inr x), a2, a3], .inr x :: sk, h) res := i_aload_n k_130_528 rfl
theorem e_130_529 {x : Option Nat} {a1 a2 a3 : Option AV} : X xs L d 130 (529, [some (.inr x), a1, a2, a3], sk, h) res ↔ X xs L d 130 (530, [some (.inr x), a1, a2, a3], .inr x :: sk, h) res := i_aload_n k_130_529 rfl
theorem e_130_530 {x : Int32} {a0 a1 a2 : Option AV} : X xs L d 130 (530, [a0, a1, a2, some (.inl x)], sk, h) res ↔ X xs L d 130 (531, [a0, a1, a2, some (.inl x)], .inl x :: sk, h) res := i_iload_n k_130_530 rfl
theorem e_130_531 : X xs L d 130 (531, lo, sk, h) res ↔ X xs L d 130 (532, lo, .inl 1 :: sk, h) res := i_iconst k_130_531
theorem e_130_532 {x y : Int32} : X xs L d 130 (532, lo, .inl y :: .inl x :: sk, h) res ↔ X xs L d 130 (533, lo, .inl (x + y) :: sk, h) res := i_iadd k_130_532
theorem e_130_533 {i : Int32} : X xs L d 130 (533, lo, .inl i :: .inr (some 0) :: sk, h) res ↔ vp_in i L ∧ X xs L d 130 (534, lo, .inl (xs i.toNatClampNeg) :: sk, h) res := i_sld k_130_533
theorem e_130_534 {o : Nat} {v0 : Int32} (hs : sk.length ≤ 8) : X xs L d 130 (534, lo, .inl v0 :: .inr (some o) :: sk, h) res ↔ hK h o = 8 ∧ ∃ q : Res, Rn xs L d 67 [.inr (some o), .inl v0] h q ∧ X xs L d 130 (537, lo, q.1.toList ++ sk, q.2) res := i_callV k_130_534 rfl ⟨Nat.le_add_left 2 sk.length, Nat.le_trans (Nat.add_le_add_right hs 2) (Nat.le_of_eq (Nat.add_comm 8 2))⟩
theorem e_130_537 {x : Option Nat} {a0 a1 a3 : Option AV} : X xs L d 130 (537, [a0, a1, some (.inr x), a3], sk, h) res ↔ X xs L d 130 (538, [a0, a1, some (.inr x), a3], .inr x :: sk, h) res := i_aload_n k_130_537 rfl
theorem e_130_538 {x : Option Nat} {a1 a2 a3 : Option AV} : X xs L d 130 (538, [some (.inr x), a1, a2, a3], sk, h) res ↔ X xs L d 130 (539, [some (.inr x), a1, a2, a3], .inr x :: sk, h) res := i_aload_n k_130_538 rfl
theorem e_130_539 {x : Int32} {a0 a1 a2 : Option AV} : X xs L d 130 (539, [a0, a1, a2, some (.inl x)], sk, h) res ↔ X xs L d 130 (540, [a0, a1, a2, some (.inl x)], .inl x :: sk, h) res := i_iload_n k_130_539 rfl
theorem e_130_540 : X xs L d 130 (540, lo, sk, h) res ↔ X xs L d 130 (541, lo, .inl 1 :: sk, h) res := i_iconst k_130_540
theorem e_130_541 {x y : Int32} : X xs L d 130 (541, lo, .inl y :: .inl x :: sk, h) res ↔ X xs L d 130 (542, lo, .inl (x + y) :: sk, h) res := i_iadd k_130_541
theorem e_130_542 {i : Int32} : X xs L d 130 (542, lo, .inl i :: .inr (some 0) :: sk, h) res ↔ vp_in i L ∧ X xs L d 130 (543, lo, .inl (xs i.toNatClampNeg) :: sk, h) res := i_sld k_130_542
theorem e_130_543 {o : Nat} {v0 : Int32} (hs : sk.length ≤ 8) : X xs L d 130 (543, lo, .inl v0 :: .inr (some o) :: sk, h) res ↔ hK h o = 9 ∧ ∃ q : Res, Rn xs L d 123 [.inr (some o), .inl v0] h q ∧ X xs L d 130 (546, lo, q.1.toList ++ sk, q.2) res := i_callV k_130_543 rfl ⟨Nat.le_add_left 2 sk.length, Nat.le_trans (Nat.add_le_add_right hs 2) (Nat.le_of_eq (Nat.add_comm 8 2))⟩
theorem e_130_546 {x y : Int32} : X xs L d 130 (546, lo, .inl y :: .inl x :: sk, h) res ↔ (if x = y then X xs L d 130 (610, lo, sk, h) res else X xs L d 130 (549, lo, sk, h) res) := i_icmp_eq k_130_546
theorem e_130_549 : X xs L d 130 (549, lo, sk, h) res ↔ X xs L d 130 (550, lo, .inl 0 :: sk, h) res := i_iconst k_130_549
theorem e_130_550 {v : Int32} : X xs L d 130 (550, lo, [.inl v], h) res ↔ (v = 0 ∨ v = 1) ∧ res = (some (.inl v), h) := i_zret k_130_550 rfl
theorem e_130_551 {x : Option Nat} {a0 a2 a3 : Option AV} : X xs L d 130 (551, [a0, some (.inr x), a2, a3], sk, h) res ↔ X xs L d 130 (552, [a0, some (.inr x), a2, a3], .inr x :: sk, h) res := i_aload_n k_130_551 rfl
theorem e_130_552 {o : Nat} (hs : sk.length ≤ 8) : X xs L d 130 (552, lo, .inr (some o) :: sk, h) res ↔ hK h o = 8 ∧ ∃ q : Res, Rn xs L d 68 [.inr (some o)] h q ∧ X xs L d 130 (555, lo, q.1.toList ++ sk, q.2) res := i_callV k_130_552 rfl ⟨Nat.le_add_left 1 sk.length, Nat.le_trans (Nat.add_le_add_right hs 1) (Nat.le_of_eq (Nat.add_comm 8 1))⟩
theorem e_130_555 {x : Option Nat} {a0 a1 a3 : Option AV} : X xs L d 130 (555, [a0, a1, some (.inr x), a3], sk, h) res ↔ X xs L d 130 (556, [a0, a1, some (.inr x), a3], .inr x :: sk, h) res := i_aload_n k_130_555 rfl
theorem e_130_556 {o : Nat} (hs : sk.length ≤ 8) : X xs L d 130 (556, lo, .inr (some o) :: sk, h) res ↔ hK h o = 9 ∧ ∃ q : Res, Rn xs L d 124 [.inr (some o)] h q ∧ X xs L d 130 (559, lo, q.1.toList ++ sk, q.2) res := i_callV k_130_556 rfl ⟨Nat.le_add_left 1 sk.length, Nat.le_trans (Nat.add_le_add_right hs 1) (Nat.le_of_eq (Nat.add_comm 8 1))⟩
theorem e_130_559 {x y : Int32} : X xs L d 130 (559, lo, .inl y :: .inl x :: sk, h) res ↔ (if x = y then X xs L d 130 (610, lo, sk, h) res else X xs L d 130 (562, lo, sk, h) res) := i_icmp_eq k_130_559
theorem e_130_562 : X xs L d 130 (562, lo, sk, h) res ↔ X xs L d 130 (563, lo, .inl 0 :: sk, h) res := i_iconst k_130_562
theorem e_130_563 {v : Int32} : X xs L d 130 (563, lo, [.inl v], h) res ↔ (v = 0 ∨ v = 1) ∧ res = (some (.inl v), h) := i_zret k_130_563 rfl
theorem e_130_564 {x : Option Nat} {a0 a2 a3 : Option AV} : X xs L d 130 (564, [a0, some (.inr x), a2, a3], sk, h) res ↔ X xs L d 130 (565, [a0, some (.inr x), a2, a3], .inr x :: sk, h) res := i_aload_n k_130_564 rfl
theorem e_130_565 {x : Option Nat} {a1 a2 a3 : Option AV} : X xs L d 130 (565, [some (.inr x), a1, a2, a3], sk, h) res ↔ X xs L d 130 (566, [some (.inr x), a1, a2, a3], .inr x :: sk, h) res := i_aload_n k_130_565 rfl
theorem e_130_566 {x : Int32} {a0 a1 a2 : Option AV} : X xs L d 130 (566, [a0, a1, a2, some (.inl x)], sk, h) res ↔ X xs L d 130 (567, [a0, a1, a2, some (.inl x)], .inl x :: sk, h) res := i_iload_n k_130_566 rfl
theorem e_130_567 : X xs L d 130 (567, lo, sk, h) res ↔ X xs L d 130 (568, lo, .inl 1 :: sk, h) res := i_iconst k_130_567
theorem e_130_568 {x y : Int32} : X xs L d 130 (568, lo, .inl y :: .inl x :: sk, h) res ↔ X xs L d 130 (569, lo, .inl (x + y) :: sk, h) res := i_iadd k_130_568
theorem e_130_569 {i : Int32} : X xs L d 130 (569, lo, .inl i :: .inr (some 0) :: sk, h) res ↔ vp_in i L ∧ X xs L d 130 (570, lo, .inl (xs i.toNatClampNeg) :: sk, h) res := i_sld k_130_569
theorem e_130_570 {o : Nat} {v0 : Int32} (hs : sk.length ≤ 8) : X xs L d 130 (570, lo, .inl v0 :: .inr (some o) :: sk, h) res ↔ hK h o = 8 ∧ ∃ q : Res, Rn xs L d 69 [.inr (some o), .inl v0] h q ∧ X xs L d 130 (573, lo, q.1.toList ++ sk, q.2) res := i_callV k_130_570 rfl ⟨Nat.le_add_left 2 sk.length, Nat.le_trans (Nat.add_le_add_right hs 2) (Nat.le_of_eq (Nat.add_comm 8 2))⟩
theorem e_130_573 {x : Option Nat} {a0 a1 a3 : Option AV} : X xs L d 130 (573, [a0, a1, some (.inr x), a3], sk, h) res ↔ X xs L d 130 (574, [a0, a1, some (.inr x), a3], .inr x :: sk, h) res := i_aload_n k_130_573 rfl
theorem e_130_574 {x : Option Nat} {a1 a2 a3 : Option AV} : X xs L d 130 (574, [some (.inr x), a1, a2, a3], sk, h) res ↔ X xs L d 130 (575, [some (.inr x), a1, a2, a3], .inr x :: sk, h) res := i_aload_n k_130_574 rfl
theorem e_130_575 {x : Int32} {a0 a1 a2 : Option AV} : X xs L d 130 (575, [a0, a1, a2, some (.inl x)], sk, h) res ↔ X xs L d 130 (576, [a0, a1, a2, some (.inl x)], .inl x :: sk, h) res := i_iload_n k_130_575 rfl
theorem e_130_576 : X xs L d 130 (576, lo, sk, h) res ↔ X xs L d 130 (577, lo, .inl 1 :: sk, h) res := i_iconst k_130_576
theorem e_130_577 {x y : Int32} : X xs L d 130 (577, lo, .inl y :: .inl x :: sk, h) res ↔ X xs L d 130 (578, lo, .inl (x + y) :: sk, h) res := i_iadd k_130_577
theorem e_130_578 {i : Int32} : X xs L d 130 (578, lo, .inl i :: .inr (some 0) :: sk, h) res ↔ vp_in i L ∧ X xs L d 130 (579, lo, .inl (xs i.toNatClampNeg) :: sk, h) res := i_sld k_130_578
theorem e_130_579 {o : Nat} {v0 : Int32} (hs : sk.length ≤ 8) : X xs L d 130 (579, lo, .inl v0 :: .inr (some o) :: sk, h) res ↔ hK h o = 9 ∧ ∃ q : Res, Rn xs L d 125 [.inr (some o), .inl v0] h q ∧ X xs L d 130 (582, lo, q.1.toList ++ sk, q.2) res := i_callV k_130_579 rfl ⟨Nat.le_add_left 2 sk.length, Nat.le_trans (Nat.add_le_add_right hs 2) (Nat.le_of_eq (Nat.add_comm 8 2))⟩
theorem e_130_582 {x y : Int32} : X xs L d 130 (582, lo, .inl y :: .inl x :: sk, h) res ↔ (if x = y then X xs L d 130 (610, lo, sk, h) res else X xs L d 130 (585, lo, sk, h) res) := i_icmp_eq k_130_582
theorem e_130_585 : X xs L d 130 (585, lo, sk, h) res ↔ X xs L d 130 (586, lo, .inl 0 :: sk, h) res := i_iconst k_130_585
theorem e_130_586 {v : Int32} : X xs L d 130 (586, lo, [.inl v], h) res ↔ (v = 0 ∨ v = 1) ∧ res = (some (.inl v), h) := i_zret k_130_586 rfl
theorem e_130_587 {x : Option Nat} {a0 a2 a3 : Option AV} : X xs L d 130 (587, [a0, some (.inr x), a2, a3], sk, h) res ↔ X xs L d 130 (588, [a0, some (.inr x), a2, a3], .inr x :: sk, h) res := i_aload_n k_130_587 rfl
theorem e_130_588 {x : Option Nat} {a1 a2 a3 : Option AV} : X xs L d 130 (588, [some (.inr x), a1, a2, a3], sk, h) res ↔ X xs L d 130 (589, [some (.inr x), a1, a2, a3], .inr x :: sk, h) res := i_aload_n k_130_588 rfl
theorem e_130_589 {x : Int32} {a0 a1 a2 : Option AV} : X xs L d 130 (589, [a0, a1, a2, some (.inl x)], sk, h) res ↔ X xs L d 130 (590, [a0, a1, a2, some (.inl x)], .inl x :: sk, h) res := i_iload_n k_130_589 rfl
theorem e_130_590 : X xs L d 130 (590, lo, sk, h) res ↔ X xs L d 130 (591, lo, .inl 1 :: sk, h) res := i_iconst k_130_590
theorem e_130_591 {x y : Int32} : X xs L d 130 (591, lo, .inl y :: .inl x :: sk, h) res ↔ X xs L d 130 (592, lo, .inl (x + y) :: sk, h) res := i_iadd k_130_591
theorem e_130_592 {i : Int32} : X xs L d 130 (592, lo, .inl i :: .inr (some 0) :: sk, h) res ↔ vp_in i L ∧ X xs L d 130 (593, lo, .inl (xs i.toNatClampNeg) :: sk, h) res := i_sld k_130_592
theorem e_130_593 {o : Nat} {v0 : Int32} (hs : sk.length ≤ 8) : X xs L d 130 (593, lo, .inl v0 :: .inr (some o) :: sk, h) res ↔ hK h o = 8 ∧ ∃ q : Res, Rn xs L d 70 [.inr (some o), .inl v0] h q ∧ X xs L d 130 (596, lo, q.1.toList ++ sk, q.2) res := i_callV k_130_593 rfl ⟨Nat.le_add_left 2 sk.length, Nat.le_trans (Nat.add_le_add_right hs 2) (Nat.le_of_eq (Nat.add_comm 8 2))⟩
theorem e_130_596 {x : Option Nat} {a0 a1 a3 : Option AV} : X xs L d 130 (596, [a0, a1, some (.inr x), a3], sk, h) res ↔ X xs L d 130 (597, [a0, a1, some (.inr x), a3], .inr x :: sk, h) res := i_aload_n k_130_596 rfl
theorem e_130_597 {x : Option Nat} {a1 a2 a3 : Option AV} : X xs L d 130 (597, [some (.inr x), a1, a2, a3], sk, h) res ↔ X xs L d 130 (598, [some (.inr x), a1, a2, a3], .inr x :: sk, h) res := i_aload_n k_130_597 rfl
theorem e_130_598 {x : Int32} {a0 a1 a2 : Option AV} : X xs L d 130 (598, [a0, a1, a2, some (.inl x)], sk, h) res ↔ X xs L d 130 (599, [a0, a1, a2, some (.inl x)], .inl x :: sk, h) res := i_iload_n k_130_598 rfl
theorem e_130_599 : X xs L d 130 (599, lo, sk, h) res ↔ X xs L d 130 (600, lo, .inl 1 :: sk, h) res := i_iconst k_130_599
theorem e_130_600 {x y : Int32} : X xs L d 130 (600, lo, .inl y :: .inl x :: sk, h) res ↔ X xs L d 130 (601, lo, .inl (x + y) :: sk, h) res := i_iadd k_130_600
theorem e_130_601 {i : Int32} : X xs L d 130 (601, lo, .inl i :: .inr (some 0) :: sk, h) res ↔ vp_in i L ∧ X xs L d 130 (602, lo, .inl (xs i.toNatClampNeg) :: sk, h) res := i_sld k_130_601
theorem e_130_602 {o : Nat} {v0 : Int32} (hs : sk.length ≤ 8) : X xs L d 130 (602, lo, .inl v0 :: .inr (some o) :: sk, h) res ↔ hK h o = 9 ∧ ∃ q : Res, Rn xs L d 126 [.inr (some o), .inl v0] h q ∧ X xs L d 130 (605, lo, q.1.toList ++ sk, q.2) res := i_callV k_130_602 rfl ⟨Nat.le_add_left 2 sk.length, Nat.le_trans (Nat.add_le_add_right hs 2) (Nat.le_of_eq (Nat.add_comm 8 2))⟩
theorem e_130_605 {x y : Int32} : X xs L d 130 (605, lo, .inl y :: .inl x :: sk, h) res ↔ (if x = y then X xs L d 130 (610, lo, sk, h) res else X xs L d 130 (608, lo, sk, h) res) := i_icmp_eq k_130_605
theorem e_130_608 : X xs L d 130 (608, lo, sk, h) res ↔ X xs L d 130 (609, lo, .inl 0 :: sk, h) res := i_iconst k_130_608
theorem e_130_609 {v : Int32} : X xs L d 130 (609, lo, [.inl v], h) res ↔ (v = 0 ∨ v = 1) ∧ res = (some (.inl v), h) := i_zret k_130_609 rfl
theorem e_130_610 {x : Int32} {a0 a1 a2 : Option AV} : X xs L d 130 (610, [a0, a1, a2, some (.inl x)], sk, h) res ↔ X xs L d 130 (613, [a0, a1, a2, some (.inl (x + 4))], sk, h) res := i_iinc k_130_610 rfl rfl
theorem e_130_613 : X xs L d 130 (613, lo, sk, h) res ↔ X xs L d 130 (18, lo, sk, h) res := i_goto k_130_613
theorem e_130_616 : X xs L d 130 (616, lo, sk, h) res ↔ X xs L d 130 (617, lo, .inl 1 :: sk, h) res := i_iconst k_130_616
theorem e_130_617 {v : Int32} : X xs L d 130 (617, lo, [.inl v], h) res ↔ (v = 0 ∨ v = 1) ∧ res = (some (.inl v), h) := i_zret k_130_617 rfl
end ER

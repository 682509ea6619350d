set_option maxRecDepth 100000 in
theorem tc_0 : (List.range 1000).all (am_okr 0) = true := by decide +kernel
set_option maxRecDepth 100000 in
theorem tc_1 : (List.range 1000).all (am_okr 1) = true := by decide +kernel
set_option maxRecDepth 100000 in
theorem tc_2 : (List.range 1000).all (am_okr 2) = true := by decide +kernel
set_option maxRecDepth 100000 in
theorem tc_3 : (List.range 1000).all (am_okr 3) = true := by decide +kernel
set_option maxRecDepth 100000 in
theorem tc_4 : (List.range 1000).all (am_okr 4) = true := by decide +kernel
set_option maxRecDepth 100000 in
theorem tc_5 : (List.range 1000).all (am_okr 5) = true := by decide +kernel
set_option maxRecDepth 100000 in
theorem tc_6 : (List.range 1000).all (am_okr 6) = true := by decide +kernel
set_option maxRecDepth 100000 in
theorem tc_7 : (List.range 1000).all (am_okr 7) = true := by decide +kernel
set_option maxRecDepth 100000 in
theorem tc_8 : (List.range 1000).all (am_okr 8) = true := by decide +kernel
set_option maxRecDepth 100000 in
theorem tc_9 : (List.range 1000).all (am_okr 9) = true := by decide +kernel
set_option maxRecDepth 100000 in
theorem tc_10 : (List.range 1000).all (am_okr 10) = true := by decide +kernel
set_option maxRecDepth 100000 in
theorem tc_11 : (List.range 1000).all (am_okr 11) = true := by decide +kernel
set_option maxRecDepth 100000 in
theorem tc_12 : (List.range 1000).all (am_okr 12) = true := by decide +kernel
set_option maxRecDepth 100000 in
theorem tc_13 : (List.range 1000).all (am_okr 13) = true := by decide +kernel
set_option maxRecDepth 100000 in
theorem tc_14 : (List.range 1000).all (am_okr 14) = true := by decide +kernel
set_option maxRecDepth 100000 in
theorem tc_15 : (List.range 1000).all (am_okr 15) = true := by decide +kernel
set_option maxRecDepth 100000 in
theorem tc_16 : (List.range 1000).all (am_okr 16) = true := by decide +kernel
set_option maxRecDepth 100000 in
theorem tc_17 : (List.range 1000).all (am_okr 17) = true := by decide +kernel
set_option maxRecDepth 100000 in
theorem tc_18 : (List.range 1000).all (am_okr 18) = true := by decide +kernel
set_option maxRecDepth 100000 in
theorem tc_19 : (List.range 1000).all (am_okr 19) = true := by decide +kernel
set_option maxRecDepth 100000 in
theorem tc_20 : (List.range 1000).all (am_okr 20) = true := by decide +kernel
set_option maxRecDepth 100000 in
theorem tc_21 : (List.range 1000).all (am_okr 21) = true := by decide +kernel
set_option maxRecDepth 100000 in
theorem tc_22 : (List.range 1000).all (am_okr 22) = true := by decide +kernel
set_option maxRecDepth 100000 in
theorem tc_23 : (List.range 1000).all (am_okr 23) = true := by decide +kernel
set_option maxRecDepth 100000 in
theorem tc_24 : (List.range 1000).all (am_okr 24) = true := by decide +kernel
set_option maxRecDepth 100000 in
theorem tc_25 : (List.range 1000).all (am_okr 25) = true := by decide +kernel
set_option maxRecDepth 100000 in
theorem tc_26 : (List.range 1000).all (am_okr 26) = true := by decide +kernel
set_option maxRecDepth 100000 in
theorem tc_27 : (List.range 1000).all (am_okr 27) = true := by decide +kernel
set_option maxRecDepth 100000 in
theorem tc_28 : (List.range 1000).all (am_okr 28) = true := by decide +kernel
set_option maxRecDepth 100000 in
theorem tc_29 : (List.range 1000).all (am_okr 29) = true := by decide +kernel
set_option maxRecDepth 100000 in
theorem tc_30 : (List.range 1000).all (am_okr 30) = true := by decide +kernel
set_option maxRecDepth 100000 in
theorem tc_31 : (List.range 1000).all (am_okr 31) = true := by decide +kernel
set_option maxRecDepth 100000 in
theorem tc_32 : (List.range 1000).all (am_okr 32) = true := by decide +kernel
set_option maxRecDepth 100000 in
theorem tc_33 : (List.range 1000).all (am_okr 33) = true := by decide +kernel
set_option maxRecDepth 100000 in
theorem tc_34 : (List.range 1000).all (am_okr 34) = true := by decide +kernel
set_option maxRecDepth 100000 in
theorem tc_35 : (List.range 1000).all (am_okr 35) = true := by decide +kernel
set_option maxRecDepth 100000 in
theorem tc_36 : (List.range 1000).all (am_okr 36) = true := by decide +kernel
set_option maxRecDepth 100000 in
theorem tc_37 : (List.range 1000).all (am_okr 37) = true := by decide +kernel
set_option maxRecDepth 100000 in
theorem tc_38 : (List.range 1000).all (am_okr 38) = true := by decide +kernel
set_option maxRecDepth 100000 in
theorem tc_39 : (List.range 1000).all (am_okr 39) = true := by decide +kernel
set_option maxRecDepth 100000 in
theorem tc_40 : (List.range 1000).all (am_okr 40) = true := by decide +kernel
set_option maxRecDepth 100000 in
theorem tc_41 : (List.range 1000).all (am_okr 41) = true := by decide +kernel
set_option maxRecDepth 100000 in
theorem tc_42 : (List.range 1000).all (am_okr 42) = true := by decide +kernel
set_option maxRecDepth 100000 in
theorem tc_43 : (List.range 1000).all (am_okr 43) = true := by decide +kernel
set_option maxRecDepth 100000 in
theorem tc_44 : (List.range 1000).all (am_okr 44) = true := by decide +kernel
set_option maxRecDepth 100000 in
theorem tc_45 : (List.range 1000).all (am_okr 45) = true := by decide +kernel
set_option maxRecDepth 100000 in
theorem tc_46 : (List.range 1000).all (am_okr 46) = true := by decide +kernel
set_option maxRecDepth 100000 in
theorem tc_47 : (List.range 1000).all (am_okr 47) = true := by decide +kernel
set_option maxRecDepth 100000 in
theorem tc_48 : (List.range 1000).all (am_okr 48) = true := by decide +kernel
set_option maxRecDepth 100000 in
theorem tc_49 : (List.range 1000).all (am_okr 49) = true := by decide +kernel
set_option maxRecDepth 100000 in
theorem tc_50 : (List.range 1000).all (am_okr 50) = true := by decide +kernel
set_option maxRecDepth 100000 in
theorem tc_51 : (List.range 1000).all (am_okr 51) = true := by decide +kernel
set_option maxRecDepth 100000 in
theorem tc_52 : (List.range 1000).all (am_okr 52) = true := by decide +kernel
set_option maxRecDepth 100000 in
theorem tc_53 : (List.range 1000).all (am_okr 53) = true := by decide +kernel
set_option maxRecDepth 100000 in
theorem tc_54 : (List.range 1000).all (am_okr 54) = true := by decide +kernel
set_option maxRecDepth 100000 in
theorem tc_55 : (List.range 1000).all (am_okr 55) = true := by decide +kernel
set_option maxRecDepth 100000 in
theorem tc_56 : (List.range 1000).all (am_okr 56) = true := by decide +kernel
set_option maxRecDepth 100000 in
theorem tc_57 : (List.range 1000).all (am_okr 57) = true := by decide +kernel
set_option maxRecDepth 100000 in
theorem tc_58 : (List.range 1000).all (am_okr 58) = true := by decide +kernel
set_option maxRecDepth 100000 in
theorem tc_59 : (List.range 1000).all (am_okr 59) = true := by decide +kernel
set_option maxRecDepth 100000 in
theorem tc_60 : (List.range 1000).all (am_okr 60) = true := by decide +kernel
set_option maxRecDepth 100000 in
theorem tc_61 : (List.range 1000).all (am_okr 61) = true := by decide +kernel
set_option maxRecDepth 100000 in
theorem tc_62 : (List.range 1000).all (am_okr 62) = true := by decide +kernel
set_option maxRecDepth 100000 in
theorem tc_63 : (List.range 1000).all (am_okr 63) = true := by decide +kernel
set_option maxRecDepth 100000 in
theorem tc_64 : (List.range 1000).all (am_okr 64) = true := by decide +kernel
set_option maxRecDepth 100000 in
theorem tc_65 : (List.range 1000).all (am_okr 65) = true := by decide +kernel
set_option maxRecDepth 100000 in
theorem tc_66 : (List.range 1000).all (am_okr 66) = true := by decide +kernel
set_option maxRecDepth 100000 in
theorem tc_67 : (List.range 1000).all (am_okr 67) = true := by decide +kernel
set_option maxRecDepth 100000 in
theorem tc_68 : (List.range 1000).all (am_okr 68) = true := by decide +kernel
set_option maxRecDepth 100000 in
theorem tc_69 : (List.range 1000).all (am_okr 69) = true := by decide +kernel
set_option maxRecDepth 100000 in
theorem tc_70 : (List.range 1000).all (am_okr 70) = true := by decide +kernel
set_option maxRecDepth 100000 in
theorem tc_71 : (List.range 1000).all (am_okr 71) = true := by decide +kernel
set_option maxRecDepth 100000 in
theorem tc_72 : (List.range 1000).all (am_okr 72) = true := by decide +kernel
set_option maxRecDepth 100000 in
theorem tc_73 : (List.range 1000).all (am_okr 73) = true := by decide +kernel
set_option maxRecDepth 100000 in
theorem tc_74 : (List.range 1000).all (am_okr 74) = true := by decide +kernel
set_option maxRecDepth 100000 in
theorem tc_75 : (List.range 1000).all (am_okr 75) = true := by decide +kernel
set_option maxRecDepth 100000 in
theorem tc_76 : (List.range 1000).all (am_okr 76) = true := by decide +kernel
set_option maxRecDepth 100000 in
theorem tc_77 : (List.range 1000).all (am_okr 77) = true := by decide +kernel
set_option maxRecDepth 100000 in
theorem tc_78 : (List.range 1000).all (am_okr 78) = true := by decide +kernel
set_option maxRecDepth 100000 in
theorem tc_79 : (List.range 1000).all (am_okr 79) = true := by decide +kernel
set_option maxRecDepth 100000 in
theorem tc_80 : (List.range 1000).all (am_okr 80) = true := by decide +kernel
set_option maxRecDepth 100000 in
theorem tc_81 : (List.range 1000).all (am_okr 81) = true := by decide +kernel
set_option maxRecDepth 100000 in
theorem tc_82 : (List.range 1000).all (am_okr 82) = true := by decide +kernel
set_option maxRecDepth 100000 in
theorem tc_83 : (List.range 1000).all (am_okr 83) = true := by decide +kernel
set_option maxRecDepth 100000 in
theorem tc_84 : (List.range 1000).all (am_okr 84) = true := by decide +kernel
set_option maxRecDepth 100000 in
theorem tc_85 : (List.range 1000).all (am_okr 85) = true := by decide +kernel
set_option maxRecDepth 100000 in
theorem tc_86 : (List.range 1000).all (am_okr 86) = true := by decide +kernel
set_option maxRecDepth 100000 in
theorem tc_87 : (List.range 1000).all (am_okr 87) = true := by decide +kernel
set_option maxRecDepth 100000 in
theorem tc_88 : (List.range 1000).all (am_okr 88) = true := by decide +kernel
set_option maxRecDepth 100000 in
theorem tc_89 : (List.range 1000).all (am_okr 89) = true := by decide +kernel
set_option maxRecDepth 100000 in
theorem tc_90 : (List.range 1000).all (am_okr 90) = true := by decide +kernel
set_option maxRecDepth 100000 in
theorem tc_91 : (List.range 1000).all (am_okr 91) = true := by decide +kernel
set_option maxRecDepth 100000 in
theorem tc_92 : (List.range 1000).all (am_okr 92) = true := by decide +kernel
set_option maxRecDepth 100000 in
theorem tc_93 : (List.range 1000).all (am_okr 93) = true := by decide +kernel
set_option maxRecDepth 100000 in
theorem tc_94 : (List.range 1000).all (am_okr 94) = true := by decide +kernel
set_option maxRecDepth 100000 in
theorem tc_95 : (List.range 1000).all (am_okr 95) = true := by decide +kernel
set_option maxRecDepth 100000 in
theorem tc_96 : (List.range 1000).all (am_okr 96) = true := by decide +kernel
set_option maxRecDepth 100000 in
theorem tc_97 : (List.range 1000).all (am_okr 97) = true := by decide +kernel
set_option maxRecDepth 100000 in
theorem tc_98 : (List.range 1000).all (am_okr 98) = true := by decide +kernel
set_option maxRecDepth 100000 in
theorem tc_99 : (List.range 1000).all (am_okr 99) = true := by decide +kernel
set_option maxRecDepth 100000 in
theorem tc_100 : (List.range 1000).all (am_okr 100) = true := by decide +kernel
set_option maxRecDepth 100000 in
theorem tc_101 : (List.range 1000).all (am_okr 101) = true := by decide +kernel
set_option maxRecDepth 100000 in
theorem tc_102 : (List.range 1000).all (am_okr 102) = true := by decide +kernel
set_option maxRecDepth 100000 in
theorem tc_103 : (List.range 1000).all (am_okr 103) = true := by decide +kernel
set_option maxRecDepth 100000 in
theorem tc_104 : (List.range 1000).all (am_okr 104) = true := by decide +kernel
set_option maxRecDepth 100000 in
theorem tc_105 : (List.range 1000).all (am_okr 105) = true := by decide +kernel
set_option maxRecDepth 100000 in
theorem tc_106 : (List.range 1000).all (am_okr 106) = true := by decide +kernel
set_option maxRecDepth 100000 in
theorem tc_107 : (List.range 1000).all (am_okr 107) = true := by decide +kernel
set_option maxRecDepth 100000 in
theorem tc_108 : (List.range 1000).all (am_okr 108) = true := by decide +kernel
set_option maxRecDepth 100000 in
theorem tc_109 : (List.range 1000).all (am_okr 109) = true := by decide +kernel
set_option maxRecDepth 100000 in
theorem tc_110 : (List.range 1000).all (am_okr 110) = true := by decide +kernel
set_option maxRecDepth 100000 in
theorem tc_111 : (List.range 1000).all (am_okr 111) = true := by decide +kernel
set_option maxRecDepth 100000 in
theorem tc_112 : (List.range 1000).all (am_okr 112) = true := by decide +kernel
set_option maxRecDepth 100000 in
theorem tc_113 : (List.range 1000).all (am_okr 113) = true := by decide +kernel
set_option maxRecDepth 100000 in
theorem tc_114 : (List.range 1000).all (am_okr 114) = true := by decide +kernel
set_option maxRecDepth 100000 in
theorem tc_115 : (List.range 1000).all (am_okr 115) = true := by decide +kernel
set_option maxRecDepth 100000 in
theorem tc_116 : (List.range 1000).all (am_okr 116) = true := by decide +kernel
set_option maxRecDepth 100000 in
theorem tc_117 : (List.range 1000).all (am_okr 117) = true := by decide +kernel
set_option maxRecDepth 100000 in
theorem tc_118 : (List.range 1000).all (am_okr 118) = true := by decide +kernel
set_option maxRecDepth 100000 in
theorem tc_119 : (List.range 1000).all (am_okr 119) = true := by decide +kernel
set_option maxRecDepth 100000 in
theorem tc_120 : (List.range 1000).all (am_okr 120) = true := by decide +kernel
set_option maxRecDepth 100000 in
theorem tc_121 : (List.range 1000).all (am_okr 121) = true := by decide +kernel
set_option maxRecDepth 100000 in
theorem tc_122 : (List.range 1000).all (am_okr 122) = true := by decide +kernel
set_option maxRecDepth 100000 in
theorem tc_123 : (List.range 1000).all (am_okr 123) = true := by decide +kernel
set_option maxRecDepth 100000 in
theorem tc_124 : (List.range 1000).all (am_okr 124) = true := by decide +kernel
set_option maxRecDepth 100000 in
theorem tc_125 : (List.range 1000).all (am_okr 125) = true := by decide +kernel
set_option maxRecDepth 100000 in
theorem tc_126 : (List.range 1000).all (am_okr 126) = true := by decide +kernel
set_option maxRecDepth 100000 in
theorem tc_127 : (List.range 1000).all (am_okr 127) = true := by decide +kernel
set_option maxRecDepth 100000 in
theorem tc_128 : (List.range 1000).all (am_okr 128) = true := by decide +kernel
set_option maxRecDepth 100000 in
theorem tc_129 : (List.range 1000).all (am_okr 129) = true := by decide +kernel
set_option maxRecDepth 100000 in
theorem tc_130 : (List.range 1000).all (am_okr 130) = true := by decide +kernel
set_option maxRecDepth 100000 in
theorem am_tc : ∀ mi, mi ≤ am_n → (List.range 1000).all (am_okr mi) = true
  | 0, _ => tc_0
  | 1, _ => tc_1
  | 2, _ => tc_2
  | 3, _ => tc_3
  | 4, _ => tc_4
  | 5, _ => tc_5
  | 6, _ => tc_6
  | 7, _ => tc_7
  | 8, _ => tc_8
  | 9, _ => tc_9
  | 10, _ => tc_10
  | 11, _ => tc_11
  | 12, _ => tc_12
  | 13, _ => tc_13
  | 14, _ => tc_14
  | 15, _ => tc_15
  | 16, _ => tc_16
  | 17, _ => tc_17
  | 18, _ => tc_18
  | 19, _ => tc_19
  | 20, _ => tc_20
  | 21, _ => tc_21
  | 22, _ => tc_22
  | 23, _ => tc_23
  | 24, _ => tc_24
  | 25, _ => tc_25
  | 26, _ => tc_26
  | 27, _ => tc_27
  | 28, _ => tc_28
  | 29, _ => tc_29
  | 30, _ => tc_30
  | 31, _ => tc_31
  | 32, _ => tc_32
  | 33, _ => tc_33
  | 34, _ => tc_34
  | 35, _ => tc_35
  | 36, _ => tc_36
  | 37, _ => tc_37
  | 38, _ => tc_38
  | 39, _ => tc_39
  | 40, _ => tc_40
  | 41, _ => tc_41
  | 42, _ => tc_42
  | 43, _ => tc_43
  | 44, _ => tc_44
  | 45, _ => tc_45
  | 46, _ => tc_46
  | 47, _ => tc_47
  | 48, _ => tc_48
  | 49, _ => tc_49
  | 50, _ => tc_50
  | 51, _ => tc_51
  | 52, _ => tc_52
  | 53, _ => tc_53
  | 54, _ => tc_54
  | 55, _ => tc_55
  | 56, _ => tc_56
  | 57, _ => tc_57
  | 58, _ => tc_58
  | 59, _ => tc_59
  | 60, _ => tc_60
  | 61, _ => tc_61
  | 62, _ => tc_62
  | 63, _ => tc_63
  | 64, _ => tc_64
  | 65, _ => tc_65
  | 66, _ => tc_66
  | 67, _ => tc_67
  | 68, _ => tc_68
  | 69, _ => tc_69
  | 70, _ => tc_70
  | 71, _ => tc_71
  | 72, _ => tc_72
  | 73, _ => tc_73
  | 74, _ => tc_74
  | 75, _ => tc_75
  | 76, _ => tc_76
  | 77, _ => tc_77
  | 78, _ => tc_78
  | 79, _ => tc_79
  | 80, _ => tc_80
  | 81, _ => tc_81
  | 82, _ => tc_82
  | 83, _ => tc_83
  | 84, _ => tc_84
  | 85, _ => tc_85
  | 86, _ => tc_86
  | 87, _ => tc_87
  | 88, _ => tc_88
  | 89, _ => tc_89
  | 90, _ => tc_90
  | 91, _ => tc_91
  | 92, _ => tc_92
  | 93, _ => tc_93
  | 94, _ => tc_94
  | 95, _ => tc_95
  | 96, _ => tc_96
  | 97, _ => tc_97
  | 98, _ => tc_98
  | 99, _ => tc_99
  | 100, _ => tc_100
  | 101, _ => tc_101
  | 102, _ => tc_102
  | 103, _ => tc_103
  | 104, _ => tc_104
  | 105, _ => tc_105
  | 106, _ => tc_106
  | 107, _ => tc_107
  | 108, _ => tc_108
  | 109, _ => tc_109
  | 110, _ => tc_110
  | 111, _ => tc_111
  | 112, _ => tc_112
  | 113, _ => tc_113
  | 114, _ => tc_114
  | 115, _ => tc_115
  | 116, _ => tc_116
  | 117, _ => tc_117
  | 118, _ => tc_118
  | 119, _ => tc_119
  | 120, _ => tc_120
  | 121, _ => tc_121
  | 122, _ => tc_122
  | 123, _ => tc_123
  | 124, _ => tc_124
  | 125, _ => tc_125
  | 126, _ => tc_126
  | 127, _ => tc_127
  | 128, _ => tc_128
  | 129, _ => tc_129
  | 130, _ => tc_130
  | n + 131, h => absurd h (by unfold am_n; omega)
theorem am_all (mi : Nat) (hmi : mi ≤ am_n) (pc : Nat) (e : En) (h : am_cd mi pc = some e) : decode (am_b mi) pc = .ok (e.1, e.2.1) ∧ am_chk mi pc e.1 e.2.1 e.2.2.1 e.2.2.2 = true := by
  unfold am_cd at h
  cases hb : Nat.blt pc 1000 with
  | false => rw [hb] at h; cases h
  | true =>
    rw [hb] at h
    have h0 : am_ct mi pc = some e := h
    have hlt : pc < 1000 := Nat.le_of_ble_eq_true hb
    have h1 := List.all_eq_true.mp (am_tc mi hmi) pc (List.mem_range.mpr hlt)
    unfold am_okr at h1
    rw [h0] at h1
    simp only [Bool.and_eq_true, decide_eq_true_eq] at h1
    exact h1

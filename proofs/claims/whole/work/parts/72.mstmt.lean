-- THE MODEL's reading: its tables; statement
def kB (h : Hp) (u : TB) (Bg : Nat → Int32) : Hp := sA (sA (sA (sA (sI h 49 5 (nI u.2.2.2)) 53 u.1) 54 u.2.1) 55 u.2.2.1) 59 Bg
def kH (h : Hp) (u : TB) (Bg F G : Nat → Int32) : Hp := eH (kB h u Bg) F G
section MV
variable {xs : Nat → Int32} {L d : Nat} {h : Hp} {res : Res} {u : TB} {Bg F G ar T : Nat → Int32} {n p dep : Nat}
theorem kH_o {o k : Nat} (h1 : ¬ o = 49) (h2 : ¬ o = 53) (h3 : ¬ o = 54) (h4 : ¬ o = 55) (h5 : ¬ o = 59) (h6 : ¬ o = 60) (h7 : ¬ o = 61) : hI (kH h u Bg F G) o k = hI h o k := by
  unfold kH eH kB
  rw [hI_sA, if_neg h7, hI_sA, if_neg h6, hI_sA, if_neg h5, hI_sA, if_neg h4, hI_sA, if_neg h3, hI_sA, if_neg h2, hI_sI, if_neg (fun z => h1 z.1)]
theorem kH_51 {k : Nat} : hI (kH h u Bg F G) 51 k = hI h 51 k := kH_o (by decide) (by decide) (by decide) (by decide) (by decide) (by decide) (by decide)
theorem kH_56 {k : Nat} : hI (kH h u Bg F G) 56 k = hI h 56 k := kH_o (by decide) (by decide) (by decide) (by decide) (by decide) (by decide) (by decide)
theorem kH_57 {k : Nat} : hI (kH h u Bg F G) 57 k = hI h 57 k := kH_o (by decide) (by decide) (by decide) (by decide) (by decide) (by decide) (by decide)
theorem kH_49 {k : Nat} (hk : ¬ k = 5) : hI (kH h u Bg F G) 49 k = hI h 49 k := by
  unfold kH eH kB
  rw [hI_sA, if_neg (by decide), hI_sA, if_neg (by decide), hI_sA, if_neg (by decide), hI_sA, if_neg (by decide), hI_sA, if_neg (by decide), hI_sA, if_neg (by decide), hI_sI, if_neg (fun z => hk z.2)]
theorem kH_ln : hI (kH h u Bg F G) 49 5 = nI u.2.2.2 := by
  unfold kH eH kB
  rw [hI_sA, if_neg (by decide), hI_sA, if_neg (by decide), hI_sA, if_neg (by decide), hI_sA, if_neg (by decide), hI_sA, if_neg (by decide), hI_sA, if_neg (by decide), hI_sI, if_pos ⟨rfl, rfl⟩]
theorem kH_53 {k : Nat} : hI (kH h u Bg F G) 53 k = u.1 k := by
  unfold kH eH kB
  rw [hI_sA, if_neg (by decide), hI_sA, if_neg (by decide), hI_sA, if_neg (by decide), hI_sA, if_neg (by decide), hI_sA, if_neg (by decide), hI_sA, if_pos rfl]
theorem kH_54 {k : Nat} : hI (kH h u Bg F G) 54 k = u.2.1 k := by
  unfold kH eH kB
  rw [hI_sA, if_neg (by decide), hI_sA, if_neg (by decide), hI_sA, if_neg (by decide), hI_sA, if_neg (by decide), hI_sA, if_pos rfl]
theorem kH_55 {k : Nat} : hI (kH h u Bg F G) 55 k = u.2.2.1 k := by
  unfold kH eH kB
  rw [hI_sA, if_neg (by decide), hI_sA, if_neg (by decide), hI_sA, if_neg (by decide), hI_sA, if_pos rfl]
theorem kH_59 {k : Nat} : hI (kH h u Bg F G) 59 k = Bg k := by
  unfold kH eH kB
  rw [hI_sA, if_neg (by decide), hI_sA, if_neg (by decide), hI_sA, if_pos rfl]
theorem kW_ln {m : Nat} : sI (kH h u Bg F G) 49 5 (nI m) = kH h (u.1, u.2.1, u.2.2.1, m) Bg F G := by
  unfold kH eH kB
  rw [sI_sAo (by decide), sI_sAo (by decide), sI_sAo (by decide), sI_sAo (by decide), sI_sAo (by decide), sI_sAo (by decide), sI_same]
theorem kW_53 {k : Nat} {v : Int32} : sI (kH h u Bg F G) 53 k v = kH h (up u.1 k v, u.2) Bg F G := by
  unfold kH eH kB
  rw [sI_sAo (by decide), sI_sAo (by decide), sI_sAo (by decide), sI_sAo (by decide), sI_sAo (by decide), sI_sAs]
theorem kW_54 {k : Nat} {v : Int32} : sI (kH h u Bg F G) 54 k v = kH h (u.1, up u.2.1 k v, u.2.2) Bg F G := by
  unfold kH eH kB
  rw [sI_sAo (by decide), sI_sAo (by decide), sI_sAo (by decide), sI_sAo (by decide), sI_sAs]
theorem kW_55 {k : Nat} {v : Int32} : sI (kH h u Bg F G) 55 k v = kH h (u.1, u.2.1, up u.2.2.1 k v, u.2.2.2) Bg F G := by
  unfold kH eH kB
  rw [sI_sAo (by decide), sI_sAo (by decide), sI_sAo (by decide), sI_sAs]
theorem kW_59 {k : Nat} {v : Int32} : sI (kH h u Bg F G) 59 k v = kH h u (up Bg k v) F G := by
  unfold kH eH kB
  rw [sI_sAo (by decide), sI_sAo (by decide), sI_sAs]
theorem sA_same {o : Nat} {f g : Nat → Int32} : sA (sA h o f) o g = sA h o g := by
  refine hp_ext rfl rfl (fun _ => rfl) (fun _ => rfl) (fun a b => ?_) (fun _ _ => rfl)
  rw [hI_sA, hI_sA, hI_sA]
  split
  · rfl
  · rfl
theorem kH_eH {F' G' : Nat → Int32} : eH (kH h u Bg F G) F' G' = kH h u Bg F' G' := by
  unfold kH eH
  rw [sA_sAo (o := 60) (o2 := 61) (by decide), sA_same, sA_same]
theorem kH_id {m : Nat} : kH h (hI h 53, hI h 54, hI h 55, m) (hI h 59) (hI h 60) (hI h 61) = sI h 49 5 (nI m) := by
  unfold kH eH kB
  have e : ∀ o : Nat, ¬ o = 49 → sA (sI h 49 5 (nI m)) o (hI h o) = sI h 49 5 (nI m) := fun o ho => sA_id (fun j => by rw [hI_sI, if_neg (fun z => ho z.1)])
  show sA (sA (sA (sA (sA (sA (sI h 49 5 (nI m)) 53 (hI h 53)) 54 (hI h 54)) 55 (hI h 55)) 59 (hI h 59)) 60 (hI h 60)) 61 (hI h 61) = _
  rw [e 53 (by decide), e 54 (by decide), e 55 (by decide), e 59 (by decide), e 60 (by decide), e 61 (by decide)]
theorem kH_AR (hA : AR h ar) : AR (kH h u Bg F G) ar := fun f hf => by
  rw [kH_56, kH_57]
  exact hA f hf
/-- behind a statement's expression -/
theorem st_no {c : Int32} (hO : MO h) : X xs L d 85 (112, [some (.inr (some 49)), some (.inl (nI p)), some (.inl (nI dep)), some (.inl c), some (.inl (-1))], [], kH h u Bg F G) (some (.inl (-1)), kH h u Bg F G) := by
  simp only [e_85_112, e_85_114, e_85_126, e_85_127, true_and, and_true, and_self, false_and, and_false, if_true, if_false, ↓reduceIte, Nat.add_eq_left, Nat.left_eq_add, Nat.add_left_cancel_iff, not_false_eq_true, not_true_eq_false, i_pc, List.cons_append, List.nil_append, List.length_cons, List.length_nil, Nat.reduceEqDiff, Nat.reduceAdd, Nat.reduceMul, Nat.reduceSub, Nat.reduceLeDiff, Nat.reduceLT, Int32.reduceLT, Int32.reduceLE, Int32.reduceAdd, Int32.reduceSub, reduceCtorEq, true_or, or_true, or_false, false_or, ne_eq, Nat.zero_le, show ((-1 : Int32) < 0) = True from by decide]
theorem stm_pre {c : Int32} {q : Nat} (hO : MO h) (hq : q < 152) (hl : u.2.2.2 ≤ 41) (h41 : u.2.2.2 = 41 → res = (some (.inl (-1)), kH h u Bg F G)) (hX : ¬ u.2.2.2 = 41 → X xs L d 85 (128, [some (.inr (some 49)), some (.inl (nI p)), some (.inl (nI dep)), some (.inl c), some (.inl (nI q))], [], kH h u Bg F G) res) : X xs L d 85 (112, [some (.inr (some 49)), some (.inl (nI p)), some (.inl (nI dep)), some (.inl c), some (.inl (nI q))], [], kH h u Bg F G) res := by
  have hO2 : MO (kH h u Bg F G) := hO
  have h1 : ¬ nI q < 0 := nI_pos (by omega)
  by_cases c1 : u.2.2.2 = 41
  · have h2 : ¬ nI u.2.2.2 ≤ 40 := by rw [c1]; decide
    rw [h41 c1]
    simp only [e_85_112, e_85_114, e_85_117, e_85_118, e_85_121, e_85_123, e_85_126, e_85_127, true_and, and_true, and_self, false_and, and_false, if_true, if_false, ↓reduceIte, Nat.add_eq_left, Nat.left_eq_add, Nat.add_left_cancel_iff, not_false_eq_true, not_true_eq_false, i_pc, List.cons_append, List.nil_append, List.length_cons, List.length_nil, Nat.reduceEqDiff, Nat.reduceAdd, Nat.reduceMul, Nat.reduceSub, Nat.reduceLeDiff, Nat.reduceLT, Int32.reduceLT, Int32.reduceLE, Int32.reduceAdd, Int32.reduceSub, reduceCtorEq, true_or, or_true, or_false, false_or, ne_eq, Nat.zero_le, h1, mo_k hO2, kH_ln, h2]
  · have h2 : nI u.2.2.2 ≤ 40 := nI_le (b := 40) (by omega) (by decide)
    simp only [e_85_112, e_85_114, e_85_117, e_85_118, e_85_121, e_85_123, true_and, and_true, and_self, false_and, and_false, if_true, if_false, ↓reduceIte, Nat.add_eq_left, Nat.left_eq_add, Nat.add_left_cancel_iff, not_false_eq_true, not_true_eq_false, i_pc, List.cons_append, List.nil_append, List.length_cons, List.length_nil, Nat.reduceEqDiff, Nat.reduceAdd, Nat.reduceMul, Nat.reduceSub, Nat.reduceLeDiff, Nat.reduceLT, Int32.reduceLT, Int32.reduceLE, Int32.reduceAdd, Int32.reduceSub, reduceCtorEq, true_or, or_true, or_false, false_or, ne_eq, Nat.zero_le, h1, mo_k hO2, kH_ln, h2]
    exact hX c1
theorem st_sim {c : Int32} {q : Nat} (hO : MO h) (hq : q < 152) (hn : hI h 49 3 = nI n) (hn2 : n ≤ 150) (hc1 : ¬ c = 126) (hc2 : ¬ c = 63) (hc3 : ¬ c = 64) : X xs L d 85 (128, [some (.inr (some 49)), some (.inl (nI p)), some (.inl (nI dep)), some (.inl c), some (.inl (nI q))], [], kH h u Bg F G) (some (.inl (if hI h 51 q = 59 ∧ q < n then nI (q + 1) else -1)), kH h u Bg F G) := by
  have hO2 : MO (kH h u Bg F G) := hO
  have h1 : vp_in (nI q) 6384 := vin (by omega) (by decide)
  by_cases c1 : hI h 51 q = 59
  · by_cases c2 : q < n
    · have c3 : ¬ nI n ≤ nI q := nI_ge c2 (by omega)
      simp only [e_85_128, e_85_129, e_85_131, e_85_134, e_85_135, e_85_137, e_85_140, e_85_141, e_85_143, e_85_146, e_85_147, e_85_150, e_85_152, e_85_153, e_85_155, e_85_158, e_85_160, e_85_161, e_85_164, e_85_167, e_85_169, e_85_170, e_85_171, e_85_174, e_85_175, true_and, and_true, and_self, false_and, and_false, if_true, if_false, ↓reduceIte, Nat.add_eq_left, Nat.left_eq_add, Nat.add_left_cancel_iff, not_false_eq_true, not_true_eq_false, i_pc, List.cons_append, List.nil_append, List.length_cons, List.length_nil, Nat.reduceEqDiff, Nat.reduceAdd, Nat.reduceMul, Nat.reduceSub, Nat.reduceLeDiff, Nat.reduceLT, Int32.reduceLT, Int32.reduceLE, Int32.reduceAdd, Int32.reduceSub, reduceCtorEq, true_or, or_true, or_false, false_or, ne_eq, Nat.zero_le, mo_k hO2, mo_r51 hO2, mo_k51 hO2, mo_l51 hO2, kH_51, kH_49 (show ¬ 3 = 5 by decide), hn, hc1, hc2, hc3, h1, c1, c2, c3, nI_1, nI_cl (show q < 2 ^ 31 by omega)]
    · have c3 : nI n ≤ nI q := nI_le (by omega) (by omega)
      simp only [e_85_128, e_85_129, e_85_131, e_85_134, e_85_135, e_85_137, e_85_140, e_85_141, e_85_143, e_85_146, e_85_147, e_85_150, e_85_152, e_85_153, e_85_155, e_85_158, e_85_160, e_85_161, e_85_164, e_85_167, e_85_169, e_85_170, e_85_171, e_85_174, e_85_175, true_and, and_true, and_self, false_and, and_false, if_true, if_false, ↓reduceIte, Nat.add_eq_left, Nat.left_eq_add, Nat.add_left_cancel_iff, not_false_eq_true, not_true_eq_false, i_pc, List.cons_append, List.nil_append, List.length_cons, List.length_nil, Nat.reduceEqDiff, Nat.reduceAdd, Nat.reduceMul, Nat.reduceSub, Nat.reduceLeDiff, Nat.reduceLT, Int32.reduceLT, Int32.reduceLE, Int32.reduceAdd, Int32.reduceSub, reduceCtorEq, true_or, or_true, or_false, false_or, ne_eq, Nat.zero_le, mo_k hO2, mo_r51 hO2, mo_k51 hO2, mo_l51 hO2, kH_51, kH_49 (show ¬ 3 = 5 by decide), hn, hc1, hc2, hc3, h1, c1, c2, c3, nI_cl (show q < 2 ^ 31 by omega)]
  · simp only [e_85_128, e_85_129, e_85_131, e_85_134, e_85_135, e_85_137, e_85_140, e_85_141, e_85_143, e_85_146, e_85_147, e_85_150, e_85_152, e_85_153, e_85_155, e_85_158, e_85_160, e_85_161, e_85_164, e_85_167, e_85_169, e_85_170, e_85_171, e_85_174, e_85_175, true_and, and_true, and_self, false_and, and_false, if_true, if_false, ↓reduceIte, Nat.add_eq_left, Nat.left_eq_add, Nat.add_left_cancel_iff, not_false_eq_true, not_true_eq_false, i_pc, List.cons_append, List.nil_append, List.length_cons, List.length_nil, Nat.reduceEqDiff, Nat.reduceAdd, Nat.reduceMul, Nat.reduceSub, Nat.reduceLeDiff, Nat.reduceLT, Int32.reduceLT, Int32.reduceLE, Int32.reduceAdd, Int32.reduceSub, reduceCtorEq, true_or, or_true, or_false, false_or, ne_eq, Nat.zero_le, mo_k hO2, mo_r51 hO2, mo_k51 hO2, mo_l51 hO2, kH_51, hc1, hc2, hc3, h1, c1, nI_cl (show q < 2 ^ 31 by omega)]
theorem st_blk {c : Int32} {q : Nat} (hO : MO h) (hq : q < 152) (hd : dep < 8) (hc : c = 126 ∨ c = 63 ∨ c = 64) : X xs L d 85 (128, [some (.inr (some 49)), some (.inl (nI p)), some (.inl (nI dep)), some (.inl c), some (.inl (nI q))], [], kH h u Bg F G) (if hI h 51 q = 123 then (some (.inl (nI (q + 1))), kH h (up u.1 q (nI (if c = 63 then 1 else if c = 64 then 2 else 3)), up u.2.1 q (nI p), u.2.2) (up Bg dep (nI q)) F G) else (some (.inl (-1)), kH h u Bg F G)) := by
  have hO2 : ∀ (u : TB) (Bg : Nat → Int32), MO (kH h u Bg F G) := fun _ _ => hO
  have h1 : vp_in (nI q) 6384 := vin (by omega) (by decide)
  have h2 : vp_in (nI q) 152 := vin (by omega) (by decide)
  have h3 : vp_in (nI dep) 8 := vin hd (by decide)
  have h4 : ∀ (a b : Hp), hK (sI a 53 q 1) = hK a := fun _ _ => rfl
  by_cases c1 : hI h 51 q = 123
  · rw [if_pos c1]
    rcases hc with rfl | rfl | rfl
    · simp only [e_85_128, e_85_129, e_85_131, e_85_176, e_85_177, e_85_180, e_85_182, e_85_183, e_85_185, e_85_188, e_85_189, e_85_190, e_85_191, e_85_194, e_85_196, e_85_197, e_85_199, e_85_202, e_85_203, e_85_206, e_85_207, e_85_209, e_85_212, e_85_213, e_85_216, e_85_217, e_85_218, e_85_219, e_85_222, e_85_224, e_85_225, e_85_226, e_85_227, e_85_230, e_85_231, e_85_233, e_85_234, e_85_236, e_85_237, e_85_238, true_and, and_true, and_self, false_and, and_false, if_true, if_false, ↓reduceIte, Nat.add_eq_left, Nat.left_eq_add, Nat.add_left_cancel_iff, not_false_eq_true, not_true_eq_false, i_pc, List.cons_append, List.nil_append, List.length_cons, List.length_nil, Nat.reduceEqDiff, Nat.reduceAdd, Nat.reduceMul, Nat.reduceSub, Nat.reduceLeDiff, Nat.reduceLT, Int32.reduceLT, Int32.reduceLE, Int32.reduceAdd, Int32.reduceSub, reduceCtorEq, true_or, or_true, or_false, false_or, ne_eq, Nat.zero_le, hK_sI, hL_sI, hR_sI, mo_k (hO2 _ _), mo_r51 (hO2 _ _), mo_k51 (hO2 _ _), mo_l51 (hO2 _ _), mo_r53 (hO2 _ _), mo_k53 (hO2 _ _), mo_l53 (hO2 _ _), mo_r54 (hO2 _ _), mo_k54 (hO2 _ _), mo_l54 (hO2 _ _), mo_r59 (hO2 _ _), mo_k59 (hO2 _ _), mo_l59 (hO2 _ _), kH_51, h1, h2, h3, c1, kW_53, kW_54, kW_59, nI_1, nI_cl (show q < 2 ^ 31 by omega), nI_cl (show dep < 2 ^ 31 by omega), show ((126 : Int32) = 63) = False from by decide, show ((126 : Int32) = 64) = False from by decide, show nI 3 = 3 from rfl]
    · simp only [e_85_128, e_85_129, e_85_131, e_85_134, e_85_135, e_85_137, e_85_176, e_85_177, e_85_180, e_85_182, e_85_183, e_85_185, e_85_188, e_85_189, e_85_190, e_85_191, e_85_194, e_85_196, e_85_197, e_85_199, e_85_202, e_85_203, e_85_206, e_85_207, e_85_209, e_85_212, e_85_213, e_85_216, e_85_217, e_85_218, e_85_219, e_85_222, e_85_224, e_85_225, e_85_226, e_85_227, e_85_230, e_85_231, e_85_233, e_85_234, e_85_236, e_85_237, e_85_238, true_and, and_true, and_self, false_and, and_false, if_true, if_false, ↓reduceIte, Nat.add_eq_left, Nat.left_eq_add, Nat.add_left_cancel_iff, not_false_eq_true, not_true_eq_false, i_pc, List.cons_append, List.nil_append, List.length_cons, List.length_nil, Nat.reduceEqDiff, Nat.reduceAdd, Nat.reduceMul, Nat.reduceSub, Nat.reduceLeDiff, Nat.reduceLT, Int32.reduceLT, Int32.reduceLE, Int32.reduceAdd, Int32.reduceSub, reduceCtorEq, true_or, or_true, or_false, false_or, ne_eq, Nat.zero_le, hK_sI, hL_sI, hR_sI, mo_k (hO2 _ _), mo_r51 (hO2 _ _), mo_k51 (hO2 _ _), mo_l51 (hO2 _ _), mo_r53 (hO2 _ _), mo_k53 (hO2 _ _), mo_l53 (hO2 _ _), mo_r54 (hO2 _ _), mo_k54 (hO2 _ _), mo_l54 (hO2 _ _), mo_r59 (hO2 _ _), mo_k59 (hO2 _ _), mo_l59 (hO2 _ _), kH_51, h1, h2, h3, c1, kW_53, kW_54, kW_59, nI_1, nI_cl (show q < 2 ^ 31 by omega), nI_cl (show dep < 2 ^ 31 by omega), show ((63 : Int32) = 126) = False from by decide, show nI 1 = 1 from rfl]
    · simp only [e_85_128, e_85_129, e_85_131, e_85_134, e_85_135, e_85_137, e_85_140, e_85_141, e_85_143, e_85_176, e_85_177, e_85_180, e_85_182, e_85_183, e_85_185, e_85_188, e_85_189, e_85_190, e_85_191, e_85_194, e_85_196, e_85_197, e_85_199, e_85_202, e_85_203, e_85_206, e_85_207, e_85_209, e_85_212, e_85_213, e_85_216, e_85_217, e_85_218, e_85_219, e_85_222, e_85_224, e_85_225, e_85_226, e_85_227, e_85_230, e_85_231, e_85_233, e_85_234, e_85_236, e_85_237, e_85_238, true_and, and_true, and_self, false_and, and_false, if_true, if_false, ↓reduceIte, Nat.add_eq_left, Nat.left_eq_add, Nat.add_left_cancel_iff, not_false_eq_true, not_true_eq_false, i_pc, List.cons_append, List.nil_append, List.length_cons, List.length_nil, Nat.reduceEqDiff, Nat.reduceAdd, Nat.reduceMul, Nat.reduceSub, Nat.reduceLeDiff, Nat.reduceLT, Int32.reduceLT, Int32.reduceLE, Int32.reduceAdd, Int32.reduceSub, reduceCtorEq, true_or, or_true, or_false, false_or, ne_eq, Nat.zero_le, hK_sI, hL_sI, hR_sI, mo_k (hO2 _ _), mo_r51 (hO2 _ _), mo_k51 (hO2 _ _), mo_l51 (hO2 _ _), mo_r53 (hO2 _ _), mo_k53 (hO2 _ _), mo_l53 (hO2 _ _), mo_r54 (hO2 _ _), mo_k54 (hO2 _ _), mo_l54 (hO2 _ _), mo_r59 (hO2 _ _), mo_k59 (hO2 _ _), mo_l59 (hO2 _ _), kH_51, h1, h2, h3, c1, kW_53, kW_54, kW_59, nI_1, nI_cl (show q < 2 ^ 31 by omega), nI_cl (show dep < 2 ^ 31 by omega), show ((64 : Int32) = 126) = False from by decide, show ((64 : Int32) = 63) = False from by decide, show nI 2 = 2 from rfl]
  · rw [if_neg c1]
    rcases hc with rfl | rfl | rfl
    · simp only [e_85_128, e_85_129, e_85_131, e_85_176, e_85_177, e_85_180, e_85_182, e_85_183, e_85_185, e_85_188, e_85_189, true_and, and_true, and_self, false_and, and_false, if_true, if_false, ↓reduceIte, Nat.add_eq_left, Nat.left_eq_add, Nat.add_left_cancel_iff, not_false_eq_true, not_true_eq_false, i_pc, List.cons_append, List.nil_append, List.length_cons, List.length_nil, Nat.reduceEqDiff, Nat.reduceAdd, Nat.reduceMul, Nat.reduceSub, Nat.reduceLeDiff, Nat.reduceLT, Int32.reduceLT, Int32.reduceLE, Int32.reduceAdd, Int32.reduceSub, reduceCtorEq, true_or, or_true, or_false, false_or, ne_eq, Nat.zero_le, mo_k (hO2 _ _), mo_r51 (hO2 _ _), mo_k51 (hO2 _ _), mo_l51 (hO2 _ _), kH_51, h1, c1, nI_cl (show q < 2 ^ 31 by omega)]
    · simp only [e_85_128, e_85_129, e_85_131, e_85_134, e_85_135, e_85_137, e_85_176, e_85_177, e_85_180, e_85_182, e_85_183, e_85_185, e_85_188, e_85_189, true_and, and_true, and_self, false_and, and_false, if_true, if_false, ↓reduceIte, Nat.add_eq_left, Nat.left_eq_add, Nat.add_left_cancel_iff, not_false_eq_true, not_true_eq_false, i_pc, List.cons_append, List.nil_append, List.length_cons, List.length_nil, Nat.reduceEqDiff, Nat.reduceAdd, Nat.reduceMul, Nat.reduceSub, Nat.reduceLeDiff, Nat.reduceLT, Int32.reduceLT, Int32.reduceLE, Int32.reduceAdd, Int32.reduceSub, reduceCtorEq, true_or, or_true, or_false, false_or, ne_eq, Nat.zero_le, mo_k (hO2 _ _), mo_r51 (hO2 _ _), mo_k51 (hO2 _ _), mo_l51 (hO2 _ _), kH_51, h1, c1, nI_cl (show q < 2 ^ 31 by omega), show ((63 : Int32) = 126) = False from by decide]
    · simp only [e_85_128, e_85_129, e_85_131, e_85_134, e_85_135, e_85_137, e_85_140, e_85_141, e_85_143, e_85_176, e_85_177, e_85_180, e_85_182, e_85_183, e_85_185, e_85_188, e_85_189, true_and, and_true, and_self, false_and, and_false, if_true, if_false, ↓reduceIte, Nat.add_eq_left, Nat.left_eq_add, Nat.add_left_cancel_iff, not_false_eq_true, not_true_eq_false, i_pc, List.cons_append, List.nil_append, List.length_cons, List.length_nil, Nat.reduceEqDiff, Nat.reduceAdd, Nat.reduceMul, Nat.reduceSub, Nat.reduceLeDiff, Nat.reduceLT, Int32.reduceLT, Int32.reduceLE, Int32.reduceAdd, Int32.reduceSub, reduceCtorEq, true_or, or_true, or_false, false_or, ne_eq, Nat.zero_le, mo_k (hO2 _ _), mo_r51 (hO2 _ _), mo_k51 (hO2 _ _), mo_l51 (hO2 _ _), kH_51, h1, c1, nI_cl (show q < 2 ^ 31 by omega), show ((64 : Int32) = 126) = False from by decide, show ((64 : Int32) = 63) = False from by decide]
end MV

theorem a_call_r {ns : List Nat} {pn : Nat} {lo : Lo} {sk : List AV} {h : Hp} {rs : Res} (hd : a_call ns pn lo sk h = some (.inr (.inr rs))) : False := by
  unfold a_call at hd
  repeat' split at hd
  all_goals cases hd
theorem a_callv_r {ns : List Nat} {pn : Nat} {lo : Lo} {sk : List AV} {h : Hp} {rs : Res} (hd : a_callv ns pn lo sk h = some (.inr (.inr rs))) : False := by
  unfold a_callv at hd
  repeat' split at hd
  all_goals cases hd
-- A BODY, A METHOD: what the small machine runs, the machine runs
theorem am_do_mono {xs : Nat → Int32} {L : Nat} {ret : Option FieldType} {i : Instr} {ns : List Nat} {sw : List (Int32 × Nat)} {pn : Nat} {lo : Lo} {sk : List AV} {h : Hp} {st' : St} (hdo : am_do xs L ret i ns sw pn lo sk h = some (.inl st')) : hN h ≤ hN st'.2.2.2 ∧ hU h ≤ hU st'.2.2.2 := by
  cases i
  case iconst n =>
    obtain ⟨v, z, r, rfl, rfl⟩ := a_cst_i hdo
    exact ⟨Nat.le_refl _, Nat.le_refl _⟩
  case bipush n =>
    obtain ⟨v, z, r, rfl, rfl⟩ := a_cst_i hdo
    exact ⟨Nat.le_refl _, Nat.le_refl _⟩
  case sipush n =>
    obtain ⟨v, z, r, rfl, rfl⟩ := a_cst_i hdo
    exact ⟨Nat.le_refl _, Nat.le_refl _⟩
  case ldc idx =>
    rcases sw with _ | ⟨⟨v, z⟩, r⟩
    · simp only [am_do] at hdo
      unfold a_lds at hdo
      split at hdo
      · split at hdo
        · cases hdo; exact ⟨Nat.le_refl _, Nat.le_refl _⟩
        · cases hdo
      · cases hdo
    · have hdo2 : a_cst ((v, z) :: r) pn lo sk h = some (.inl st') := hdo
      obtain ⟨v, z, r, e1, rfl⟩ := a_cst_i hdo2
      exact ⟨Nat.le_refl _, Nat.le_refl _⟩
  case iload k =>
    obtain ⟨x, hl, rfl⟩ := a_ild_i hdo
    exact ⟨Nat.le_refl _, Nat.le_refl _⟩
  case iload_n k =>
    obtain ⟨x, hl, rfl⟩ := a_ild_i hdo
    exact ⟨Nat.le_refl _, Nat.le_refl _⟩
  case aload k =>
    obtain ⟨x, hl, rfl⟩ := a_ald_i hdo
    exact ⟨Nat.le_refl _, Nat.le_refl _⟩
  case aload_n k =>
    obtain ⟨x, hl, rfl⟩ := a_ald_i hdo
    exact ⟨Nat.le_refl _, Nat.le_refl _⟩
  case istore k =>
    obtain ⟨x, r, e1, hk, rfl⟩ := a_ist_i hdo
    exact ⟨Nat.le_refl _, Nat.le_refl _⟩
  case istore_n k =>
    obtain ⟨x, r, e1, hk, rfl⟩ := a_ist_i hdo
    exact ⟨Nat.le_refl _, Nat.le_refl _⟩
  case astore k =>
    obtain ⟨x, r, e1, hk, rfl⟩ := a_ast_i hdo
    exact ⟨Nat.le_refl _, Nat.le_refl _⟩
  case astore_n k =>
    obtain ⟨x, r, e1, hk, rfl⟩ := a_ast_i hdo
    exact ⟨Nat.le_refl _, Nat.le_refl _⟩
  case iinc k n =>
    obtain ⟨x, v, z, r, hl, e1, rfl⟩ := a_inc_i hdo
    exact ⟨Nat.le_refl _, Nat.le_refl _⟩
  case iadd =>
    obtain ⟨y, x, r, e1, rfl⟩ := a_bin_i hdo
    exact ⟨Nat.le_refl _, Nat.le_refl _⟩
  case isub =>
    obtain ⟨y, x, r, e1, rfl⟩ := a_bin_i hdo
    exact ⟨Nat.le_refl _, Nat.le_refl _⟩
  case imul =>
    obtain ⟨y, x, r, e1, rfl⟩ := a_bin_i hdo
    exact ⟨Nat.le_refl _, Nat.le_refl _⟩
  case iand =>
    obtain ⟨y, x, r, e1, rfl⟩ := a_bin_i hdo
    exact ⟨Nat.le_refl _, Nat.le_refl _⟩
  case ior =>
    obtain ⟨y, x, r, e1, rfl⟩ := a_bin_i hdo
    exact ⟨Nat.le_refl _, Nat.le_refl _⟩
  case ishl =>
    obtain ⟨y, x, r, e1, rfl⟩ := a_bin_i hdo
    exact ⟨Nat.le_refl _, Nat.le_refl _⟩
  case ishr =>
    obtain ⟨y, x, r, e1, rfl⟩ := a_bin_i hdo
    exact ⟨Nat.le_refl _, Nat.le_refl _⟩
  case idiv =>
    obtain ⟨y, x, r, e1, hy, rfl⟩ := a_dvd_i hdo
    exact ⟨Nat.le_refl _, Nat.le_refl _⟩
  case irem =>
    obtain ⟨y, x, r, e1, hy, rfl⟩ := a_dvd_i hdo
    exact ⟨Nat.le_refl _, Nat.le_refl _⟩
  case i2c =>
    obtain ⟨x, r, e1, rfl⟩ := a_un_i hdo
    exact ⟨Nat.le_refl _, Nat.le_refl _⟩
  case ifCond cd off =>
    cases cd <;> (obtain ⟨x, r, t, e1, e2, rfl⟩ := a_if_i hdo; exact ⟨Nat.le_refl _, Nat.le_refl _⟩)
  case if_icmp cd off =>
    cases cd <;> (obtain ⟨y, x, r, t, e1, e2, rfl⟩ := a_cmp_i hdo; exact ⟨Nat.le_refl _, Nat.le_refl _⟩)
  case ifnull off =>
    obtain ⟨x, r, t, e1, e2, rfl⟩ := a_nul_i hdo
    exact ⟨Nat.le_refl _, Nat.le_refl _⟩
  case ifnonnull off =>
    obtain ⟨x, r, t, e1, e2, rfl⟩ := a_nul_i hdo
    exact ⟨Nat.le_refl _, Nat.le_refl _⟩
  case goto off =>
    obtain ⟨t, e1, rfl⟩ := a_goto_i hdo
    exact ⟨Nat.le_refl _, Nat.le_refl _⟩
  case tableswitch a b c d =>
    obtain ⟨x, r, t, e1, e2, rfl⟩ := a_sw_i hdo
    exact ⟨Nat.le_refl _, Nat.le_refl _⟩
  case lookupswitch a b =>
    obtain ⟨x, r, t, e1, e2, rfl⟩ := a_sw_i hdo
    exact ⟨Nat.le_refl _, Nat.le_refl _⟩
  case aconst_null =>
    cases hdo
    exact ⟨Nat.le_refl _, Nat.le_refl _⟩
  case pop =>
    rcases sk with _ | ⟨v, r⟩
    · simp [am_do, a_stk] at hdo
    · cases hdo; exact ⟨Nat.le_refl _, Nat.le_refl _⟩
  case dup =>
    rcases sk with _ | ⟨v, r⟩
    · simp [am_do, a_stk] at hdo
    · cases hdo; exact ⟨Nat.le_refl _, Nat.le_refl _⟩
  case dup2 =>
    rcases sk with _ | ⟨v, _ | ⟨w, r⟩⟩
    · simp [am_do, a_stk] at hdo
    · simp [am_do, a_stk] at hdo
    · cases hdo; exact ⟨Nat.le_refl _, Nat.le_refl _⟩
  case getfield idx =>
    obtain ⟨o, r, ci, k, t, e1, e2, hk, rfl⟩ := a_get_i hdo
    exact ⟨Nat.le_refl _, Nat.le_refl _⟩
  case putfield idx =>
    obtain ⟨o, r, ci, k, t, e1, hk, hcase⟩ := a_put_i hdo
    rcases hcase with ⟨e2, v, e3, rfl⟩ | ⟨ht, v, e3, hz, rfl⟩ <;> exact ⟨Nat.le_refl _, Nat.le_refl _⟩
  case iaload =>
    rcases ns with _ | ⟨n1, ns⟩
    · obtain ⟨i, o, r, e1, hk, hi, rfl⟩ := a_ixl_i hdo
      exact ⟨Nat.le_refl _, Nat.le_refl _⟩
    · obtain ⟨i, r, e1, hi, rfl⟩ := a_scl_i hdo
      exact ⟨Nat.le_refl _, Nat.le_refl _⟩
  case arraylength =>
    rcases ns with _ | ⟨n1, ns⟩
    · obtain ⟨o, r, e1, hk, rfl⟩ := a_len_i hdo
      exact ⟨Nat.le_refl _, Nat.le_refl _⟩
    · obtain ⟨r, e1, rfl⟩ := a_scn_i hdo
      exact ⟨Nat.le_refl _, Nat.le_refl _⟩
  case caload =>
    obtain ⟨i, o, r, e1, hk, hi, rfl⟩ := a_ixl_i hdo
    exact ⟨Nat.le_refl _, Nat.le_refl _⟩
  case baload =>
    obtain ⟨i, o, r, e1, hk, hi, rfl⟩ := a_ixl_i hdo
    exact ⟨Nat.le_refl _, Nat.le_refl _⟩
  case aaload =>
    obtain ⟨i, o, r, e1, hk, hi, rfl⟩ := a_axl_i hdo
    exact ⟨Nat.le_refl _, Nat.le_refl _⟩
  case iastore =>
    obtain ⟨v, i, o, r, e1, hk, hi, rfl⟩ := a_ixs_i hdo
    exact ⟨Nat.le_refl _, Nat.le_refl _⟩
  case castore =>
    obtain ⟨v, i, o, r, e1, hk, hi, rfl⟩ := a_ixs_i hdo
    exact ⟨Nat.le_refl _, Nat.le_refl _⟩
  case bastore =>
    obtain ⟨v, i, o, r, e1, hk, hi, rfl⟩ := a_ixs_i hdo
    exact ⟨Nat.le_refl _, Nat.le_refl _⟩
  case aastore =>
    obtain ⟨i, o, r, kd, ke, e1, hk, hi, hcase⟩ := a_axs_i hdo
    rcases hcase with ⟨e2, rfl⟩ | ⟨v, e2, hv, rfl⟩ <;> exact ⟨Nat.le_refl _, Nat.le_refl _⟩
  case new idx =>
    obtain ⟨ci, n, e1, rfl⟩ := a_new_i hdo
    exact ⟨Nat.le_succ _, Nat.le_add_right _ _⟩
  case newarray idx =>
    obtain ⟨n, r, kd, e1, e2, hn, hm, rfl⟩ := a_arr_i hdo
    exact ⟨Nat.le_succ _, Nat.le_add_right _ _⟩
  case anewarray idx =>
    obtain ⟨n, r, kd, e1, e2, hn, hm, rfl⟩ := a_arr_i hdo
    exact ⟨Nat.le_succ _, Nat.le_add_right _ _⟩
  case invokespecial idx =>
    rcases ns with _ | ⟨n1, ns⟩
    · obtain ⟨o, r, e1, hr8, rfl⟩ := a_obj_i hdo
      exact ⟨Nat.le_refl _, Nat.le_refl _⟩
    · exact absurd hdo a_callv_n
  case invokestatic idx =>
    rcases ns with _ | ⟨n1, ns⟩
    · obtain ⟨n, dp, d9, sp, o, r, e1, hk, h1, h2, hr8, rfl⟩ := a_cpy_i hdo
      exact ⟨Nat.le_refl _, Nat.le_refl _⟩
    · exact absurd hdo a_call_n
  case invokevirtual idx =>
    rcases ns with _ | ⟨n1, _ | ⟨n2, ns⟩⟩
    · simp only [am_do] at hdo
      unfold a_idx at hdo
      split at hdo
      · split at hdo
        · cases hdo; exact ⟨Nat.le_refl _, Nat.le_refl _⟩
        · cases hdo
      · cases hdo
    · obtain ⟨o, r, e1, hk, hr8, rfl⟩ := a_cln_i hdo
      exact ⟨Nat.le_succ _, Nat.le_add_right _ _⟩
    · exact absurd hdo a_callv_n
  case checkcast idx =>
    obtain ⟨o, r, e1, hk, rfl⟩ := a_cch_i hdo
    exact ⟨Nat.le_refl _, Nat.le_refl _⟩
  case ireturn =>
    exact absurd hdo a_iret_n
  case areturn =>
    exact absurd hdo a_aret_n
  case return_ =>
    exact absurd hdo a_vret_n
  all_goals exact absurd hdo (fun hd => by cases hd)
/-- which instructions call: a static one, a constructor, a virtual one -/
theorem am_do_call {xs : Nat → Int32} {L : Nat} {ret : Option FieldType} {i : Instr} {ns : List Nat} {sw : List (Int32 × Nat)} {pn : Nat} {lo : Lo} {sk : List AV} {h : Hp} {cl : Nat × List AV × St} (hdo : am_do xs L ret i ns sw pn lo sk h = some (.inr (.inl cl))) : (∃ idx, i = .invokestatic idx ∧ a_call ns pn lo sk h = some (.inr (.inl cl))) ∨ (∃ idx, i = .invokespecial idx ∧ a_callv ns pn lo sk h = some (.inr (.inl cl))) ∨ (∃ idx, i = .invokevirtual idx ∧ a_callv ns pn lo sk h = some (.inr (.inl cl))) := by
  cases i
  case iconst n =>
    exfalso
    simp only [am_do] at hdo
    unfold a_cst at hdo
    repeat' split at hdo
    all_goals cases hdo
  case bipush n =>
    exfalso
    simp only [am_do] at hdo
    unfold a_cst at hdo
    repeat' split at hdo
    all_goals cases hdo
  case sipush n =>
    exfalso
    simp only [am_do] at hdo
    unfold a_cst at hdo
    repeat' split at hdo
    all_goals cases hdo
  case ldc n =>
    exfalso
    rcases sw with _ | ⟨⟨v, z⟩, r⟩
    · simp only [am_do] at hdo
      unfold a_lds at hdo
      repeat' split at hdo
      all_goals cases hdo
    · cases hdo
  case iload k =>
    exfalso
    simp only [am_do] at hdo
    unfold a_ild at hdo
    repeat' split at hdo
    all_goals cases hdo
  case iload_n k =>
    exfalso
    simp only [am_do] at hdo
    unfold a_ild at hdo
    repeat' split at hdo
    all_goals cases hdo
  case aload k =>
    exfalso
    simp only [am_do] at hdo
    unfold a_ald at hdo
    repeat' split at hdo
    all_goals cases hdo
  case aload_n k =>
    exfalso
    simp only [am_do] at hdo
    unfold a_ald at hdo
    repeat' split at hdo
    all_goals cases hdo
  case istore k =>
    exfalso
    simp only [am_do] at hdo
    unfold a_ist at hdo
    repeat' split at hdo
    all_goals cases hdo
  case istore_n k =>
    exfalso
    simp only [am_do] at hdo
    unfold a_ist at hdo
    repeat' split at hdo
    all_goals cases hdo
  case astore k =>
    exfalso
    simp only [am_do] at hdo
    unfold a_ast at hdo
    repeat' split at hdo
    all_goals cases hdo
  case astore_n k =>
    exfalso
    simp only [am_do] at hdo
    unfold a_ast at hdo
    repeat' split at hdo
    all_goals cases hdo
  case iinc k n =>
    exfalso
    simp only [am_do] at hdo
    unfold a_inc at hdo
    repeat' split at hdo
    all_goals cases hdo
  case iadd =>
    exfalso
    simp only [am_do] at hdo
    unfold a_bin at hdo
    repeat' split at hdo
    all_goals cases hdo
  case isub =>
    exfalso
    simp only [am_do] at hdo
    unfold a_bin at hdo
    repeat' split at hdo
    all_goals cases hdo
  case imul =>
    exfalso
    simp only [am_do] at hdo
    unfold a_bin at hdo
    repeat' split at hdo
    all_goals cases hdo
  case iand =>
    exfalso
    simp only [am_do] at hdo
    unfold a_bin at hdo
    repeat' split at hdo
    all_goals cases hdo
  case ior =>
    exfalso
    simp only [am_do] at hdo
    unfold a_bin at hdo
    repeat' split at hdo
    all_goals cases hdo
  case ishl =>
    exfalso
    simp only [am_do] at hdo
    unfold a_bin at hdo
    repeat' split at hdo
    all_goals cases hdo
  case ishr =>
    exfalso
    simp only [am_do] at hdo
    unfold a_bin at hdo
    repeat' split at hdo
    all_goals cases hdo
  case idiv =>
    exfalso
    simp only [am_do] at hdo
    unfold a_dvd at hdo
    repeat' split at hdo
    all_goals cases hdo
  case irem =>
    exfalso
    simp only [am_do] at hdo
    unfold a_dvd at hdo
    repeat' split at hdo
    all_goals cases hdo
  case i2c =>
    exfalso
    simp only [am_do] at hdo
    unfold a_un at hdo
    repeat' split at hdo
    all_goals cases hdo
  case ifCond cd off =>
    exfalso
    cases cd <;> (simp only [am_do] at hdo; unfold a_if at hdo; split at hdo <;> cases hdo)
  case if_icmp cd off =>
    exfalso
    cases cd <;> (simp only [am_do] at hdo; unfold a_cmp at hdo; split at hdo <;> cases hdo)
  case ifnull off =>
    exfalso
    simp only [am_do] at hdo
    unfold a_nul at hdo
    repeat' split at hdo
    all_goals cases hdo
  case ifnonnull off =>
    exfalso
    simp only [am_do] at hdo
    unfold a_nul at hdo
    repeat' split at hdo
    all_goals cases hdo
  case goto off =>
    exfalso
    simp only [am_do] at hdo
    unfold a_goto at hdo
    repeat' split at hdo
    all_goals cases hdo
  case tableswitch a b c d =>
    exfalso
    simp only [am_do] at hdo
    unfold a_sw at hdo
    repeat' split at hdo
    all_goals cases hdo
  case lookupswitch a b =>
    exfalso
    simp only [am_do] at hdo
    unfold a_sw at hdo
    repeat' split at hdo
    all_goals cases hdo
  case aconst_null =>
    cases hdo
  case pop =>
    exfalso
    simp only [am_do] at hdo
    unfold a_stk at hdo
    repeat' split at hdo
    all_goals cases hdo
  case dup =>
    exfalso
    simp only [am_do] at hdo
    unfold a_stk at hdo
    repeat' split at hdo
    all_goals cases hdo
  case dup2 =>
    exfalso
    simp only [am_do] at hdo
    unfold a_stk at hdo
    repeat' split at hdo
    all_goals cases hdo
  case getfield idx =>
    exfalso
    simp only [am_do] at hdo
    unfold a_get at hdo
    repeat' split at hdo
    all_goals cases hdo
  case putfield idx =>
    exfalso
    simp only [am_do] at hdo
    unfold a_put at hdo
    repeat' split at hdo
    all_goals cases hdo
  case iaload =>
    exfalso
    rcases ns with _ | ⟨n1, ns⟩
    · simp only [am_do] at hdo
      unfold a_ixl at hdo
      repeat' split at hdo
      all_goals cases hdo
    · simp only [am_do] at hdo
      unfold a_scl at hdo
      repeat' split at hdo
      all_goals cases hdo
  case arraylength =>
    exfalso
    rcases ns with _ | ⟨n1, ns⟩
    · simp only [am_do] at hdo
      unfold a_len at hdo
      repeat' split at hdo
      all_goals cases hdo
    · simp only [am_do] at hdo
      unfold a_scn at hdo
      repeat' split at hdo
      all_goals cases hdo
  case caload =>
    exfalso
    simp only [am_do] at hdo
    unfold a_ixl at hdo
    repeat' split at hdo
    all_goals cases hdo
  case baload =>
    exfalso
    simp only [am_do] at hdo
    unfold a_ixl at hdo
    repeat' split at hdo
    all_goals cases hdo
  case aaload =>
    exfalso
    simp only [am_do] at hdo
    unfold a_axl at hdo
    repeat' split at hdo
    all_goals cases hdo
  case iastore =>
    exfalso
    simp only [am_do] at hdo
    unfold a_ixs at hdo
    repeat' split at hdo
    all_goals cases hdo
  case castore =>
    exfalso
    simp only [am_do] at hdo
    unfold a_ixs at hdo
    repeat' split at hdo
    all_goals cases hdo
  case bastore =>
    exfalso
    simp only [am_do] at hdo
    unfold a_ixs at hdo
    repeat' split at hdo
    all_goals cases hdo
  case aastore =>
    exfalso
    simp only [am_do] at hdo
    unfold a_axs at hdo
    repeat' split at hdo
    all_goals cases hdo
  case new idx =>
    exfalso
    simp only [am_do] at hdo
    unfold a_new at hdo
    repeat' split at hdo
    all_goals cases hdo
  case newarray idx =>
    exfalso
    simp only [am_do] at hdo
    unfold a_arr at hdo
    repeat' split at hdo
    all_goals cases hdo
  case anewarray idx =>
    exfalso
    simp only [am_do] at hdo
    unfold a_arr at hdo
    repeat' split at hdo
    all_goals cases hdo
  case invokespecial idx =>
    rcases ns with _ | ⟨n1, ns⟩
    · exfalso
      simp only [am_do] at hdo
      unfold a_obj at hdo
      repeat' split at hdo
      all_goals cases hdo
    · exact Or.inr (Or.inl ⟨idx, rfl, hdo⟩)
  case invokestatic idx =>
    rcases ns with _ | ⟨n1, ns⟩
    · exfalso
      simp only [am_do] at hdo
      unfold a_cpy at hdo
      repeat' split at hdo
      all_goals cases hdo
    · exact Or.inl ⟨idx, rfl, hdo⟩
  case checkcast idx =>
    exfalso
    simp only [am_do] at hdo
    unfold a_cch at hdo
    repeat' split at hdo
    all_goals cases hdo
  case invokevirtual idx =>
    rcases ns with _ | ⟨n1, _ | ⟨n2, ns⟩⟩
    · exfalso
      simp only [am_do] at hdo
      unfold a_idx at hdo
      repeat' split at hdo
      all_goals cases hdo
    · exfalso
      simp only [am_do] at hdo
      unfold a_cln at hdo
      repeat' split at hdo
      all_goals cases hdo
    · exact Or.inr (Or.inr ⟨idx, rfl, hdo⟩)
  case ireturn =>
    exfalso
    simp only [am_do] at hdo
    unfold a_iret at hdo
    repeat' split at hdo
    all_goals cases hdo
  case areturn =>
    exfalso
    simp only [am_do] at hdo
    unfold a_aret at hdo
    repeat' split at hdo
    all_goals cases hdo
  case return_ =>
    exfalso
    simp only [am_do] at hdo
    unfold a_vret at hdo
    repeat' split at hdo
    all_goals cases hdo
  all_goals exact absurd hdo (fun hd => by cases hd)
/-- which instructions return -/
theorem am_do_ret {xs : Nat → Int32} {L : Nat} {ret : Option FieldType} {i : Instr} {ns : List Nat} {sw : List (Int32 × Nat)} {pn : Nat} {lo : Lo} {sk : List AV} {h : Hp} {rs : Res} (hdo : am_do xs L ret i ns sw pn lo sk h = some (.inr (.inr rs))) : (i = .ireturn ∧ a_iret ret sk h = some (.inr (.inr rs))) ∨ (i = .areturn ∧ a_aret ret sk h = some (.inr (.inr rs))) ∨ (i = .return_ ∧ a_vret ret sk h = some (.inr (.inr rs))) := by
  cases i
  case iconst n =>
    exfalso
    simp only [am_do] at hdo
    unfold a_cst at hdo
    repeat' split at hdo
    all_goals cases hdo
  case bipush n =>
    exfalso
    simp only [am_do] at hdo
    unfold a_cst at hdo
    repeat' split at hdo
    all_goals cases hdo
  case sipush n =>
    exfalso
    simp only [am_do] at hdo
    unfold a_cst at hdo
    repeat' split at hdo
    all_goals cases hdo
  case ldc n =>
    exfalso
    rcases sw with _ | ⟨⟨v, z⟩, r⟩
    · simp only [am_do] at hdo
      unfold a_lds at hdo
      repeat' split at hdo
      all_goals cases hdo
    · cases hdo
  case iload k =>
    exfalso
    simp only [am_do] at hdo
    unfold a_ild at hdo
    repeat' split at hdo
    all_goals cases hdo
  case iload_n k =>
    exfalso
    simp only [am_do] at hdo
    unfold a_ild at hdo
    repeat' split at hdo
    all_goals cases hdo
  case aload k =>
    exfalso
    simp only [am_do] at hdo
    unfold a_ald at hdo
    repeat' split at hdo
    all_goals cases hdo
  case aload_n k =>
    exfalso
    simp only [am_do] at hdo
    unfold a_ald at hdo
    repeat' split at hdo
    all_goals cases hdo
  case istore k =>
    exfalso
    simp only [am_do] at hdo
    unfold a_ist at hdo
    repeat' split at hdo
    all_goals cases hdo
  case istore_n k =>
    exfalso
    simp only [am_do] at hdo
    unfold a_ist at hdo
    repeat' split at hdo
    all_goals cases hdo
  case astore k =>
    exfalso
    simp only [am_do] at hdo
    unfold a_ast at hdo
    repeat' split at hdo
    all_goals cases hdo
  case astore_n k =>
    exfalso
    simp only [am_do] at hdo
    unfold a_ast at hdo
    repeat' split at hdo
    all_goals cases hdo
  case iinc k n =>
    exfalso
    simp only [am_do] at hdo
    unfold a_inc at hdo
    repeat' split at hdo
    all_goals cases hdo
  case iadd =>
    exfalso
    simp only [am_do] at hdo
    unfold a_bin at hdo
    repeat' split at hdo
    all_goals cases hdo
  case isub =>
    exfalso
    simp only [am_do] at hdo
    unfold a_bin at hdo
    repeat' split at hdo
    all_goals cases hdo
  case imul =>
    exfalso
    simp only [am_do] at hdo
    unfold a_bin at hdo
    repeat' split at hdo
    all_goals cases hdo
  case iand =>
    exfalso
    simp only [am_do] at hdo
    unfold a_bin at hdo
    repeat' split at hdo
    all_goals cases hdo
  case ior =>
    exfalso
    simp only [am_do] at hdo
    unfold a_bin at hdo
    repeat' split at hdo
    all_goals cases hdo
  case ishl =>
    exfalso
    simp only [am_do] at hdo
    unfold a_bin at hdo
    repeat' split at hdo
    all_goals cases hdo
  case ishr =>
    exfalso
    simp only [am_do] at hdo
    unfold a_bin at hdo
    repeat' split at hdo
    all_goals cases hdo
  case idiv =>
    exfalso
    simp only [am_do] at hdo
    unfold a_dvd at hdo
    repeat' split at hdo
    all_goals cases hdo
  case irem =>
    exfalso
    simp only [am_do] at hdo
    unfold a_dvd at hdo
    repeat' split at hdo
    all_goals cases hdo
  case i2c =>
    exfalso
    simp only [am_do] at hdo
    unfold a_un at hdo
    repeat' split at hdo
    all_goals cases hdo
  case ifCond cd off =>
    exfalso
    cases cd <;> (simp only [am_do] at hdo; unfold a_if at hdo; split at hdo <;> cases hdo)
  case if_icmp cd off =>
    exfalso
    cases cd <;> (simp only [am_do] at hdo; unfold a_cmp at hdo; split at hdo <;> cases hdo)
  case ifnull off =>
    exfalso
    simp only [am_do] at hdo
    unfold a_nul at hdo
    repeat' split at hdo
    all_goals cases hdo
  case ifnonnull off =>
    exfalso
    simp only [am_do] at hdo
    unfold a_nul at hdo
    repeat' split at hdo
    all_goals cases hdo
  case goto off =>
    exfalso
    simp only [am_do] at hdo
    unfold a_goto at hdo
    repeat' split at hdo
    all_goals cases hdo
  case tableswitch a b c d =>
    exfalso
    simp only [am_do] at hdo
    unfold a_sw at hdo
    repeat' split at hdo
    all_goals cases hdo
  case lookupswitch a b =>
    exfalso
    simp only [am_do] at hdo
    unfold a_sw at hdo
    repeat' split at hdo
    all_goals cases hdo
  case aconst_null =>
    cases hdo
  case pop =>
    exfalso
    simp only [am_do] at hdo
    unfold a_stk at hdo
    repeat' split at hdo
    all_goals cases hdo
  case dup =>
    exfalso
    simp only [am_do] at hdo
    unfold a_stk at hdo
    repeat' split at hdo
    all_goals cases hdo
  case dup2 =>
    exfalso
    simp only [am_do] at hdo
    unfold a_stk at hdo
    repeat' split at hdo
    all_goals cases hdo
  case getfield idx =>
    exfalso
    simp only [am_do] at hdo
    unfold a_get at hdo
    repeat' split at hdo
    all_goals cases hdo
  case putfield idx =>
    exfalso
    simp only [am_do] at hdo
    unfold a_put at hdo
    repeat' split at hdo
    all_goals cases hdo
  case iaload =>
    exfalso
    rcases ns with _ | ⟨n1, ns⟩
    · simp only [am_do] at hdo
      unfold a_ixl at hdo
      repeat' split at hdo
      all_goals cases hdo
    · simp only [am_do] at hdo
      unfold a_scl at hdo
      repeat' split at hdo
      all_goals cases hdo
  case arraylength =>
    exfalso
    rcases ns with _ | ⟨n1, ns⟩
    · simp only [am_do] at hdo
      unfold a_len at hdo
      repeat' split at hdo
      all_goals cases hdo
    · simp only [am_do] at hdo
      unfold a_scn at hdo
      repeat' split at hdo
      all_goals cases hdo
  case caload =>
    exfalso
    simp only [am_do] at hdo
    unfold a_ixl at hdo
    repeat' split at hdo
    all_goals cases hdo
  case baload =>
    exfalso
    simp only [am_do] at hdo
    unfold a_ixl at hdo
    repeat' split at hdo
    all_goals cases hdo
  case aaload =>
    exfalso
    simp only [am_do] at hdo
    unfold a_axl at hdo
    repeat' split at hdo
    all_goals cases hdo
  case iastore =>
    exfalso
    simp only [am_do] at hdo
    unfold a_ixs at hdo
    repeat' split at hdo
    all_goals cases hdo
  case castore =>
    exfalso
    simp only [am_do] at hdo
    unfold a_ixs at hdo
    repeat' split at hdo
    all_goals cases hdo
  case bastore =>
    exfalso
    simp only [am_do] at hdo
    unfold a_ixs at hdo
    repeat' split at hdo
    all_goals cases hdo
  case aastore =>
    exfalso
    simp only [am_do] at hdo
    unfold a_axs at hdo
    repeat' split at hdo
    all_goals cases hdo
  case new idx =>
    exfalso
    simp only [am_do] at hdo
    unfold a_new at hdo
    repeat' split at hdo
    all_goals cases hdo
  case newarray idx =>
    exfalso
    simp only [am_do] at hdo
    unfold a_arr at hdo
    repeat' split at hdo
    all_goals cases hdo
  case anewarray idx =>
    exfalso
    simp only [am_do] at hdo
    unfold a_arr at hdo
    repeat' split at hdo
    all_goals cases hdo
  case invokespecial idx =>
    rcases ns with _ | ⟨n1, ns⟩
    · exfalso
      simp only [am_do] at hdo
      unfold a_obj at hdo
      repeat' split at hdo
      all_goals cases hdo
    · exfalso
      exact a_callv_r hdo
  case invokestatic idx =>
    rcases ns with _ | ⟨n1, ns⟩
    · exfalso
      simp only [am_do] at hdo
      unfold a_cpy at hdo
      repeat' split at hdo
      all_goals cases hdo
    · exfalso
      exact a_call_r hdo
  case checkcast idx =>
    exfalso
    simp only [am_do] at hdo
    unfold a_cch at hdo
    repeat' split at hdo
    all_goals cases hdo
  case invokevirtual idx =>
    rcases ns with _ | ⟨n1, _ | ⟨n2, ns⟩⟩
    · exfalso
      simp only [am_do] at hdo
      unfold a_idx at hdo
      repeat' split at hdo
      all_goals cases hdo
    · exfalso
      simp only [am_do] at hdo
      unfold a_cln at hdo
      repeat' split at hdo
      all_goals cases hdo
    · exfalso
      exact a_callv_r hdo
  case ireturn =>
    exact Or.inl ⟨rfl, hdo⟩
  case areturn =>
    exact Or.inr (Or.inl ⟨rfl, hdo⟩)
  case return_ =>
    exact Or.inr (Or.inr ⟨rfl, hdo⟩)
  all_goals exact absurd hdo (fun hd => by cases hd)

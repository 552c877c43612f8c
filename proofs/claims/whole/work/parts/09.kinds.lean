theorem az_pf_n {sh : az_H} {σ σ' : az_S} {r ci k : Nat} {v : Value} (h : az_pf sh σ r ci k v = some σ') : σ.1 ≤ σ'.1 := by
  obtain ⟨_, _, _, _, h3, _⟩ := az_pf_spec (fun x => x) (fun x => x) h
  omega
theorem az_si_n {sh : az_H} {σ σ' : az_S} {r : Nat} {i x : Int32} (h : az_si sh σ r i x = some σ') : σ.1 ≤ σ'.1 := by
  unfold az_si at h
  repeat' split at h
  all_goals first | (cases h; exact Nat.le_refl _) | cases h
theorem az_sz_n {sh : az_H} {σ σ' : az_S} {r : Nat} {i x : Int32} (h : az_sz sh σ r i x = some σ') : σ.1 ≤ σ'.1 := by
  unfold az_sz at h
  repeat' split at h
  all_goals first | (cases h; exact Nat.le_refl _) | cases h
theorem az_sl_n {sh : az_H} {σ σ' : az_S} {r : Nat} {i : Int32} {x : Int64} (h : az_sl sh σ r i x = some σ') : σ.1 ≤ σ'.1 := by
  unfold az_sl at h
  repeat' split at h
  all_goals first | (cases h; exact Nat.le_refl _) | cases h
theorem az_sa_n {sh : az_H} {σ σ' : az_S} {r : Nat} {i : Int32} {x : Nat} (h : az_sa sh σ r i x = some σ') : σ.1 ≤ σ'.1 := by
  unfold az_sa at h
  repeat' split at h
  all_goals first | (cases h; exact Nat.le_refl _) | cases h
theorem az_cp_n {sh : az_H} {σ σ' : az_S} {a b : Nat} {sp dp n : Int32} (h : az_cp sh σ a sp b dp n = some σ') : σ.1 ≤ σ'.1 := by
  unfold az_cp at h
  repeat' split at h
  all_goals first | (cases h; exact Nat.le_refl _) | cases h
theorem az_nw_n {sh : az_H} {σ σ' : az_S} {tg c : Nat} (h : az_nw sh σ tg c = some σ') : σ.1 ≤ σ'.1 := by
  obtain ⟨_, _, _, rfl⟩ := az_nw_spec h
  exact Nat.le_succ _
theorem az_cl_nr {sh : az_H} {kind k pc : Nat} {S : List Value} {σ : az_S} {x : Option Value × az_S} : ¬ az_cl sh kind k pc S σ = some (.inr (.inl x)) := by
  intro h
  unfold az_cl at h
  dsimp only at h
  by_cases h0 : kind = 0
  · simp only [if_pos h0] at h
    split at h <;> cases h
  · simp only [if_neg h0] at h
    split at h
    · split at h
      · split at h
        · cases h
        · split at h
          · split at h <;> cases h
          · cases h
      · cases h
    · cases h
set_option maxHeartbeats 4000000 in
theorem az_i_ge {sh : az_H} {ex : az_X} {d pc : Nat} {L S : List Value} {σ : az_S} {rt : Option FieldType} {i : Instr} {a b z : Nat} {pc' : Nat} {L' S' : List Value} {σ' : az_S} (hst : az_i sh ex d rt (i, a, b, z) pc L S σ = some (.inl (pc', L', S', σ'))) : σ.1 ≤ σ'.1 := by
  cases i
  case iconst q =>
    cases hst; exact Nat.le_refl _
  case bipush q =>
    cases hst; exact Nat.le_refl _
  case sipush q =>
    cases hst; exact Nat.le_refl _
  case lconst q =>
    cases hst; exact Nat.le_refl _
  case ldc q =>
    cases hst; exact Nat.le_refl _
  case ldc_w q =>
    cases hst; exact Nat.le_refl _
  case ldc2_w q =>
    cases hst; exact Nat.le_refl _
  case aconst_null =>
    cases hst; exact Nat.le_refl _
  case iload_n q =>
    replace hst : az_li L q.val 1 pc S σ = _ := hst
    unfold az_li at hst
    repeat' split at hst
    all_goals (first | (cases hst; exact Nat.le_refl _) | cases hst)
  case iload q =>
    replace hst : az_li L q 2 pc S σ = _ := hst
    unfold az_li at hst
    repeat' split at hst
    all_goals (first | (cases hst; exact Nat.le_refl _) | cases hst)
  case lload_n q =>
    replace hst : az_ll L q.val 1 pc S σ = _ := hst
    unfold az_ll at hst
    repeat' split at hst
    all_goals (first | (cases hst; exact Nat.le_refl _) | cases hst)
  case lload q =>
    replace hst : az_ll L q 2 pc S σ = _ := hst
    unfold az_ll at hst
    repeat' split at hst
    all_goals (first | (cases hst; exact Nat.le_refl _) | cases hst)
  case aload_n q =>
    replace hst : az_la L q.val 1 pc S σ = _ := hst
    unfold az_la at hst
    repeat' split at hst
    all_goals (first | (cases hst; exact Nat.le_refl _) | cases hst)
  case aload q =>
    replace hst : az_la L q 2 pc S σ = _ := hst
    unfold az_la at hst
    repeat' split at hst
    all_goals (first | (cases hst; exact Nat.le_refl _) | cases hst)
  case istore_n q =>
    replace hst : az_wi L q.val 1 pc S σ = _ := hst
    unfold az_wi at hst
    repeat' split at hst
    all_goals (first | (cases hst; exact Nat.le_refl _) | cases hst)
  case istore q =>
    replace hst : az_wi L q 2 pc S σ = _ := hst
    unfold az_wi at hst
    repeat' split at hst
    all_goals (first | (cases hst; exact Nat.le_refl _) | cases hst)
  case astore_n q =>
    replace hst : az_wa L q.val 1 pc S σ = _ := hst
    unfold az_wa at hst
    repeat' split at hst
    all_goals (first | (cases hst; exact Nat.le_refl _) | cases hst)
  case astore q =>
    replace hst : az_wa L q 2 pc S σ = _ := hst
    unfold az_wa at hst
    repeat' split at hst
    all_goals (first | (cases hst; exact Nat.le_refl _) | cases hst)
  case iinc q w =>
    replace hst : az_inc q w pc L S σ = _ := hst
    unfold az_inc at hst
    repeat' split at hst
    all_goals (first | (cases hst; exact Nat.le_refl _) | cases hst)
  case iadd =>
    replace hst : az_b2 (fun x y => x + y) L pc S σ = _ := hst
    unfold az_b2 at hst
    repeat' split at hst
    all_goals (first | (cases hst; exact Nat.le_refl _) | cases hst)
  case isub =>
    replace hst : az_b2 (fun x y => x - y) L pc S σ = _ := hst
    unfold az_b2 at hst
    repeat' split at hst
    all_goals (first | (cases hst; exact Nat.le_refl _) | cases hst)
  case imul =>
    replace hst : az_b2 (fun x y => x * y) L pc S σ = _ := hst
    unfold az_b2 at hst
    repeat' split at hst
    all_goals (first | (cases hst; exact Nat.le_refl _) | cases hst)
  case iand =>
    replace hst : az_b2 (fun x y => x &&& y) L pc S σ = _ := hst
    unfold az_b2 at hst
    repeat' split at hst
    all_goals (first | (cases hst; exact Nat.le_refl _) | cases hst)
  case ior =>
    replace hst : az_b2 (fun x y => x ||| y) L pc S σ = _ := hst
    unfold az_b2 at hst
    repeat' split at hst
    all_goals (first | (cases hst; exact Nat.le_refl _) | cases hst)
  case ixor =>
    replace hst : az_b2 (fun x y => x ^^^ y) L pc S σ = _ := hst
    unfold az_b2 at hst
    repeat' split at hst
    all_goals (first | (cases hst; exact Nat.le_refl _) | cases hst)
  case ishl =>
    replace hst : az_b2 (fun x y => x <<< (y &&& 31)) L pc S σ = _ := hst
    unfold az_b2 at hst
    repeat' split at hst
    all_goals (first | (cases hst; exact Nat.le_refl _) | cases hst)
  case ishr =>
    replace hst : az_b2 (fun x y => x >>> (y &&& 31)) L pc S σ = _ := hst
    unfold az_b2 at hst
    repeat' split at hst
    all_goals (first | (cases hst; exact Nat.le_refl _) | cases hst)
  case iushr =>
    replace hst : az_b2 (fun x y => (x.toUInt32 >>> (y.toUInt32 &&& Int32.toUInt32 31)).toInt32) L pc S σ = _ := hst
    unfold az_b2 at hst
    repeat' split at hst
    all_goals (first | (cases hst; exact Nat.le_refl _) | cases hst)
  case ineg =>
    replace hst : az_b1 (fun x => -x) L pc S σ = _ := hst
    unfold az_b1 at hst
    repeat' split at hst
    all_goals (first | (cases hst; exact Nat.le_refl _) | cases hst)
  case i2b =>
    replace hst : az_b1 (fun x => x.toInt8.toInt32) L pc S σ = _ := hst
    unfold az_b1 at hst
    repeat' split at hst
    all_goals (first | (cases hst; exact Nat.le_refl _) | cases hst)
  case i2s =>
    replace hst : az_b1 (fun x => x.toInt16.toInt32) L pc S σ = _ := hst
    unfold az_b1 at hst
    repeat' split at hst
    all_goals (first | (cases hst; exact Nat.le_refl _) | cases hst)
  case land =>
    replace hst : az_b2l (fun x y => x &&& y) L pc S σ = _ := hst
    unfold az_b2l at hst
    repeat' split at hst
    all_goals (first | (cases hst; exact Nat.le_refl _) | cases hst)
  case lor =>
    replace hst : az_b2l (fun x y => x ||| y) L pc S σ = _ := hst
    unfold az_b2l at hst
    repeat' split at hst
    all_goals (first | (cases hst; exact Nat.le_refl _) | cases hst)
  case idiv =>
    replace hst : az_div pc L S σ = _ := hst
    unfold az_div at hst
    repeat' split at hst
    all_goals (first | (cases hst; exact Nat.le_refl _) | cases hst)
  case irem =>
    replace hst : az_rem pc L S σ = _ := hst
    unfold az_rem at hst
    repeat' split at hst
    all_goals (first | (cases hst; exact Nat.le_refl _) | cases hst)
  case lshl =>
    replace hst : az_lsh pc L S σ = _ := hst
    unfold az_lsh at hst
    repeat' split at hst
    all_goals (first | (cases hst; exact Nat.le_refl _) | cases hst)
  case lcmp =>
    replace hst : az_lcm pc L S σ = _ := hst
    unfold az_lcm at hst
    repeat' split at hst
    all_goals (first | (cases hst; exact Nat.le_refl _) | cases hst)
  case i2l =>
    replace hst : az_i2l pc L S σ = _ := hst
    unfold az_i2l at hst
    repeat' split at hst
    all_goals (first | (cases hst; exact Nat.le_refl _) | cases hst)
  case l2i =>
    replace hst : az_l2i pc L S σ = _ := hst
    unfold az_l2i at hst
    repeat' split at hst
    all_goals (first | (cases hst; exact Nat.le_refl _) | cases hst)
  case dup =>
    replace hst : az_dup pc L S σ = _ := hst
    unfold az_dup at hst
    repeat' split at hst
    all_goals (first | (cases hst; exact Nat.le_refl _) | cases hst)
  case pop =>
    replace hst : az_pop pc L S σ = _ := hst
    unfold az_pop at hst
    repeat' split at hst
    all_goals (first | (cases hst; exact Nat.le_refl _) | cases hst)
  case dup_x1 =>
    replace hst : az_dx1 pc L S σ = _ := hst
    unfold az_dx1 at hst
    repeat' split at hst
    all_goals (first | (cases hst; exact Nat.le_refl _) | cases hst)
  case dup2 =>
    replace hst : az_dp2 pc L S σ = _ := hst
    unfold az_dp2 at hst
    repeat' split at hst
    all_goals (first | (cases hst; exact Nat.le_refl _) | cases hst)
  case ifnull q =>
    replace hst : az_nul a pc L S σ = _ := hst
    unfold az_nul at hst
    repeat' split at hst
    all_goals (first | (cases hst; exact Nat.le_refl _) | cases hst)
  case ifnonnull q =>
    replace hst : az_nnl a pc L S σ = _ := hst
    unfold az_nnl at hst
    repeat' split at hst
    all_goals (first | (cases hst; exact Nat.le_refl _) | cases hst)
  case goto q =>
    cases hst; exact Nat.le_refl _
  case tableswitch df lo hi offs =>
    replace hst : az_tsw a lo hi offs pc L S σ = _ := hst
    unfold az_tsw at hst
    try unfold az_jp at hst
    repeat' split at hst
    all_goals (first | (cases hst; exact Nat.le_refl _) | cases hst)
  case lookupswitch df ps =>
    replace hst : az_lsw df ps pc L S σ = _ := hst
    unfold az_lsw at hst
    try unfold az_jp at hst
    repeat' split at hst
    all_goals (first | (cases hst; exact Nat.le_refl _) | cases hst)
  case getfield q =>
    replace hst : az_get sh a b pc L S σ = _ := hst
    unfold az_get at hst
    try unfold az_ov at hst
    repeat' split at hst
    all_goals (first | (cases hst; exact Nat.le_refl _) | cases hst)
  case getstatic q =>
    cases hst; exact Nat.le_refl _
  case iaload =>
    replace hst : az_ild sh ex pc L S σ = _ := hst
    unfold az_ild at hst
    try unfold az_oi at hst
    repeat' split at hst
    all_goals (first | (cases hst; exact Nat.le_refl _) | cases hst)
  case baload =>
    replace hst : az_bld sh pc L S σ = _ := hst
    unfold az_bld at hst
    try unfold az_oi at hst
    repeat' split at hst
    all_goals (first | (cases hst; exact Nat.le_refl _) | cases hst)
  case laload =>
    replace hst : az_lld sh pc L S σ = _ := hst
    unfold az_lld at hst
    try unfold az_ol at hst
    repeat' split at hst
    all_goals (first | (cases hst; exact Nat.le_refl _) | cases hst)
  case aaload =>
    replace hst : az_rld sh pc L S σ = _ := hst
    unfold az_rld at hst
    try unfold az_ov at hst
    repeat' split at hst
    all_goals (first | (cases hst; exact Nat.le_refl _) | cases hst)
  case arraylength =>
    replace hst : az_aln sh ex pc L S σ = _ := hst
    unfold az_aln at hst
    try unfold az_oi at hst
    repeat' split at hst
    all_goals (first | (cases hst; exact Nat.le_refl _) | cases hst)
  case ifCond cnd off =>
    cases cnd
    case eq =>
      replace hst : az_if_eq a pc L S σ = _ := hst
      unfold az_if_eq at hst
      try unfold az_br at hst
      repeat' split at hst
      all_goals (first | (cases hst; exact Nat.le_refl _) | cases hst)
    case ne =>
      replace hst : az_if_ne a pc L S σ = _ := hst
      unfold az_if_ne at hst
      try unfold az_br at hst
      repeat' split at hst
      all_goals (first | (cases hst; exact Nat.le_refl _) | cases hst)
    case lt =>
      replace hst : az_if_lt a pc L S σ = _ := hst
      unfold az_if_lt at hst
      try unfold az_br at hst
      repeat' split at hst
      all_goals (first | (cases hst; exact Nat.le_refl _) | cases hst)
    case ge =>
      replace hst : az_if_ge a pc L S σ = _ := hst
      unfold az_if_ge at hst
      try unfold az_br at hst
      repeat' split at hst
      all_goals (first | (cases hst; exact Nat.le_refl _) | cases hst)
    case gt =>
      replace hst : az_if_gt a pc L S σ = _ := hst
      unfold az_if_gt at hst
      try unfold az_br at hst
      repeat' split at hst
      all_goals (first | (cases hst; exact Nat.le_refl _) | cases hst)
    case le =>
      replace hst : az_if_le a pc L S σ = _ := hst
      unfold az_if_le at hst
      try unfold az_br at hst
      repeat' split at hst
      all_goals (first | (cases hst; exact Nat.le_refl _) | cases hst)
  case if_icmp cnd off =>
    cases cnd
    case eq =>
      replace hst : az_ic_eq a pc L S σ = _ := hst
      unfold az_ic_eq at hst
      try unfold az_br at hst
      repeat' split at hst
      all_goals (first | (cases hst; exact Nat.le_refl _) | cases hst)
    case ne =>
      replace hst : az_ic_ne a pc L S σ = _ := hst
      unfold az_ic_ne at hst
      try unfold az_br at hst
      repeat' split at hst
      all_goals (first | (cases hst; exact Nat.le_refl _) | cases hst)
    case lt =>
      replace hst : az_ic_lt a pc L S σ = _ := hst
      unfold az_ic_lt at hst
      try unfold az_br at hst
      repeat' split at hst
      all_goals (first | (cases hst; exact Nat.le_refl _) | cases hst)
    case ge =>
      replace hst : az_ic_ge a pc L S σ = _ := hst
      unfold az_ic_ge at hst
      try unfold az_br at hst
      repeat' split at hst
      all_goals (first | (cases hst; exact Nat.le_refl _) | cases hst)
    case gt =>
      replace hst : az_ic_gt a pc L S σ = _ := hst
      unfold az_ic_gt at hst
      try unfold az_br at hst
      repeat' split at hst
      all_goals (first | (cases hst; exact Nat.le_refl _) | cases hst)
    case le =>
      replace hst : az_ic_le a pc L S σ = _ := hst
      unfold az_ic_le at hst
      try unfold az_br at hst
      repeat' split at hst
      all_goals (first | (cases hst; exact Nat.le_refl _) | cases hst)
  case putfield q =>
    replace hst : az_put sh a b pc L S σ = _ := hst
    unfold az_put at hst
    try unfold az_o at hst
    repeat' split at hst
    all_goals first | (rename_i hv; cases hst; exact az_pf_n hv) | cases hst
  case iastore =>
    replace hst : az_ist sh pc L S σ = _ := hst
    unfold az_ist at hst
    try unfold az_o at hst
    repeat' split at hst
    all_goals first | (rename_i hv; cases hst; exact az_si_n hv) | cases hst
  case bastore =>
    replace hst : az_bst sh pc L S σ = _ := hst
    unfold az_bst at hst
    try unfold az_o at hst
    repeat' split at hst
    all_goals first | (rename_i hv; cases hst; exact az_sz_n hv) | cases hst
  case lastore =>
    replace hst : az_lst sh pc L S σ = _ := hst
    unfold az_lst at hst
    try unfold az_o at hst
    repeat' split at hst
    all_goals first | (rename_i hv; cases hst; exact az_sl_n hv) | cases hst
  case aastore =>
    replace hst : az_rst sh pc L S σ = _ := hst
    unfold az_rst at hst
    try unfold az_o at hst
    repeat' split at hst
    all_goals first | (rename_i hv; cases hst; exact az_sa_n hv) | cases hst
  case new q =>
    replace hst : az_nwo sh a pc L S σ = _ := hst
    unfold az_nwo at hst
    try unfold az_o at hst
    repeat' split at hst
    all_goals first | (rename_i hv; cases hst; exact az_nw_n hv) | cases hst
  case newarray q =>
    replace hst : az_nwa sh a 2 pc L S σ = _ := hst
    unfold az_nwa at hst
    try unfold az_o at hst
    repeat' split at hst
    all_goals first | (rename_i hv; cases hst; exact az_nw_n hv) | cases hst
  case anewarray q =>
    replace hst : az_nwa sh 4 3 pc L S σ = _ := hst
    unfold az_nwa at hst
    try unfold az_o at hst
    repeat' split at hst
    all_goals first | (rename_i hv; cases hst; exact az_nw_n hv) | cases hst
  case return_ =>
    replace hst : az_rv S σ = _ := hst
    unfold az_rv at hst
    repeat' split at hst
    all_goals (cases hst)
  case ireturn =>
    replace hst : az_ri rt S σ = _ := hst
    unfold az_ri at hst
    repeat' split at hst
    all_goals (cases hst)
  case lreturn =>
    replace hst : az_rl S σ = _ := hst
    unfold az_rl at hst
    repeat' split at hst
    all_goals (cases hst)
  case areturn =>
    replace hst : az_ra S σ = _ := hst
    unfold az_ra at hst
    repeat' split at hst
    all_goals (cases hst)
  case invokestatic q =>
    replace hst : (if a = 9999 then az_cpi sh d pc L S σ else if a = 9997 then az_max d pc L S σ else if a = 9996 then az_min d pc L S σ else az_cl sh 0 a pc S σ) = _ := hst
    by_cases h1 : a = 9999
    · rw [if_pos h1] at hst
      unfold az_cpi at hst
      try unfold az_o at hst
      repeat' split at hst
      all_goals first | (rename_i hv; cases hst; exact az_cp_n hv) | cases hst
    · rw [if_neg h1] at hst
      by_cases h2 : a = 9997
      · rw [if_pos h2] at hst
        unfold az_max at hst
        split at hst
        · split at hst
          · cases hst; exact Nat.le_refl _
          · cases hst
        · cases hst
      · rw [if_neg h2] at hst
        by_cases h3 : a = 9996
        · rw [if_pos h3] at hst
          unfold az_min at hst
          split at hst
          · split at hst
            · cases hst; exact Nat.le_refl _
            · cases hst
          · cases hst
        · rw [if_neg h3] at hst
          exact absurd hst az_cl_no
  case invokespecial q =>
    replace hst : (if a = 9998 then az_obj d pc L S σ else az_cl sh 2 a pc S σ) = _ := hst
    by_cases h1 : a = 9998
    · rw [if_pos h1] at hst
      unfold az_obj at hst
      repeat' split at hst
      all_goals (first | (cases hst; exact Nat.le_refl _) | cases hst)
    · rw [if_neg h1] at hst
      exact absurd hst az_cl_no
  case invokevirtual q =>
    replace hst : az_cl sh 1 a pc S σ = _ := hst
    exact absurd hst az_cl_no
  all_goals cases hst
set_option maxHeartbeats 4000000 in
theorem az_i_ret {sh : az_H} {ex : az_X} {d pc : Nat} {L S : List Value} {σ : az_S} {rt : Option FieldType} {i : Instr} {a b z : Nat} {r : Option Value × az_S} (hst : az_i sh ex d rt (i, a, b, z) pc L S σ = some (.inr (.inl r))) : r.2 = σ ∧ ((i = .return_ ∧ S = [] ∧ r.1 = none) ∨ (i = .ireturn ∧ ∃ x, S = [.int x] ∧ r.1 = some (.int x) ∧ (rt = some .boolean → x = 0 ∨ x = 1)) ∨ (i = .lreturn ∧ ∃ x, S = [.long x] ∧ r.1 = some (.long x)) ∨ (i = .areturn ∧ ((∃ x, S = [.ref x] ∧ r.1 = some (.ref x)) ∨ (S = [.null] ∧ r.1 = some .null)))) := by
  cases i
  case iconst q =>
    cases hst
  case bipush q =>
    cases hst
  case sipush q =>
    cases hst
  case lconst q =>
    cases hst
  case ldc q =>
    cases hst
  case ldc_w q =>
    cases hst
  case ldc2_w q =>
    cases hst
  case aconst_null =>
    cases hst
  case iload_n q =>
    replace hst : az_li L q.val 1 pc S σ = _ := hst
    unfold az_li at hst
    repeat' split at hst
    all_goals (cases hst)
  case iload q =>
    replace hst : az_li L q 2 pc S σ = _ := hst
    unfold az_li at hst
    repeat' split at hst
    all_goals (cases hst)
  case lload_n q =>
    replace hst : az_ll L q.val 1 pc S σ = _ := hst
    unfold az_ll at hst
    repeat' split at hst
    all_goals (cases hst)
  case lload q =>
    replace hst : az_ll L q 2 pc S σ = _ := hst
    unfold az_ll at hst
    repeat' split at hst
    all_goals (cases hst)
  case aload_n q =>
    replace hst : az_la L q.val 1 pc S σ = _ := hst
    unfold az_la at hst
    repeat' split at hst
    all_goals (cases hst)
  case aload q =>
    replace hst : az_la L q 2 pc S σ = _ := hst
    unfold az_la at hst
    repeat' split at hst
    all_goals (cases hst)
  case istore_n q =>
    replace hst : az_wi L q.val 1 pc S σ = _ := hst
    unfold az_wi at hst
    repeat' split at hst
    all_goals (cases hst)
  case istore q =>
    replace hst : az_wi L q 2 pc S σ = _ := hst
    unfold az_wi at hst
    repeat' split at hst
    all_goals (cases hst)
  case astore_n q =>
    replace hst : az_wa L q.val 1 pc S σ = _ := hst
    unfold az_wa at hst
    repeat' split at hst
    all_goals (cases hst)
  case astore q =>
    replace hst : az_wa L q 2 pc S σ = _ := hst
    unfold az_wa at hst
    repeat' split at hst
    all_goals (cases hst)
  case iinc q w =>
    replace hst : az_inc q w pc L S σ = _ := hst
    unfold az_inc at hst
    repeat' split at hst
    all_goals (cases hst)
  case iadd =>
    replace hst : az_b2 (fun x y => x + y) L pc S σ = _ := hst
    unfold az_b2 at hst
    repeat' split at hst
    all_goals (cases hst)
  case isub =>
    replace hst : az_b2 (fun x y => x - y) L pc S σ = _ := hst
    unfold az_b2 at hst
    repeat' split at hst
    all_goals (cases hst)
  case imul =>
    replace hst : az_b2 (fun x y => x * y) L pc S σ = _ := hst
    unfold az_b2 at hst
    repeat' split at hst
    all_goals (cases hst)
  case iand =>
    replace hst : az_b2 (fun x y => x &&& y) L pc S σ = _ := hst
    unfold az_b2 at hst
    repeat' split at hst
    all_goals (cases hst)
  case ior =>
    replace hst : az_b2 (fun x y => x ||| y) L pc S σ = _ := hst
    unfold az_b2 at hst
    repeat' split at hst
    all_goals (cases hst)
  case ixor =>
    replace hst : az_b2 (fun x y => x ^^^ y) L pc S σ = _ := hst
    unfold az_b2 at hst
    repeat' split at hst
    all_goals (cases hst)
  case ishl =>
    replace hst : az_b2 (fun x y => x <<< (y &&& 31)) L pc S σ = _ := hst
    unfold az_b2 at hst
    repeat' split at hst
    all_goals (cases hst)
  case ishr =>
    replace hst : az_b2 (fun x y => x >>> (y &&& 31)) L pc S σ = _ := hst
    unfold az_b2 at hst
    repeat' split at hst
    all_goals (cases hst)
  case iushr =>
    replace hst : az_b2 (fun x y => (x.toUInt32 >>> (y.toUInt32 &&& Int32.toUInt32 31)).toInt32) L pc S σ = _ := hst
    unfold az_b2 at hst
    repeat' split at hst
    all_goals (cases hst)
  case ineg =>
    replace hst : az_b1 (fun x => -x) L pc S σ = _ := hst
    unfold az_b1 at hst
    repeat' split at hst
    all_goals (cases hst)
  case i2b =>
    replace hst : az_b1 (fun x => x.toInt8.toInt32) L pc S σ = _ := hst
    unfold az_b1 at hst
    repeat' split at hst
    all_goals (cases hst)
  case i2s =>
    replace hst : az_b1 (fun x => x.toInt16.toInt32) L pc S σ = _ := hst
    unfold az_b1 at hst
    repeat' split at hst
    all_goals (cases hst)
  case land =>
    replace hst : az_b2l (fun x y => x &&& y) L pc S σ = _ := hst
    unfold az_b2l at hst
    repeat' split at hst
    all_goals (cases hst)
  case lor =>
    replace hst : az_b2l (fun x y => x ||| y) L pc S σ = _ := hst
    unfold az_b2l at hst
    repeat' split at hst
    all_goals (cases hst)
  case idiv =>
    replace hst : az_div pc L S σ = _ := hst
    unfold az_div at hst
    repeat' split at hst
    all_goals (cases hst)
  case irem =>
    replace hst : az_rem pc L S σ = _ := hst
    unfold az_rem at hst
    repeat' split at hst
    all_goals (cases hst)
  case lshl =>
    replace hst : az_lsh pc L S σ = _ := hst
    unfold az_lsh at hst
    repeat' split at hst
    all_goals (cases hst)
  case lcmp =>
    replace hst : az_lcm pc L S σ = _ := hst
    unfold az_lcm at hst
    repeat' split at hst
    all_goals (cases hst)
  case i2l =>
    replace hst : az_i2l pc L S σ = _ := hst
    unfold az_i2l at hst
    repeat' split at hst
    all_goals (cases hst)
  case l2i =>
    replace hst : az_l2i pc L S σ = _ := hst
    unfold az_l2i at hst
    repeat' split at hst
    all_goals (cases hst)
  case dup =>
    replace hst : az_dup pc L S σ = _ := hst
    unfold az_dup at hst
    repeat' split at hst
    all_goals (cases hst)
  case pop =>
    replace hst : az_pop pc L S σ = _ := hst
    unfold az_pop at hst
    repeat' split at hst
    all_goals (cases hst)
  case dup_x1 =>
    replace hst : az_dx1 pc L S σ = _ := hst
    unfold az_dx1 at hst
    repeat' split at hst
    all_goals (cases hst)
  case dup2 =>
    replace hst : az_dp2 pc L S σ = _ := hst
    unfold az_dp2 at hst
    repeat' split at hst
    all_goals (cases hst)
  case ifnull q =>
    replace hst : az_nul a pc L S σ = _ := hst
    unfold az_nul at hst
    repeat' split at hst
    all_goals (cases hst)
  case ifnonnull q =>
    replace hst : az_nnl a pc L S σ = _ := hst
    unfold az_nnl at hst
    repeat' split at hst
    all_goals (cases hst)
  case goto q =>
    cases hst
  case tableswitch df lo hi offs =>
    replace hst : az_tsw a lo hi offs pc L S σ = _ := hst
    unfold az_tsw at hst
    try unfold az_jp at hst
    repeat' split at hst
    all_goals (cases hst)
  case lookupswitch df ps =>
    replace hst : az_lsw df ps pc L S σ = _ := hst
    unfold az_lsw at hst
    try unfold az_jp at hst
    repeat' split at hst
    all_goals (cases hst)
  case getfield q =>
    replace hst : az_get sh a b pc L S σ = _ := hst
    unfold az_get at hst
    try unfold az_ov at hst
    repeat' split at hst
    all_goals (cases hst)
  case getstatic q =>
    cases hst
  case iaload =>
    replace hst : az_ild sh ex pc L S σ = _ := hst
    unfold az_ild at hst
    try unfold az_oi at hst
    repeat' split at hst
    all_goals (cases hst)
  case baload =>
    replace hst : az_bld sh pc L S σ = _ := hst
    unfold az_bld at hst
    try unfold az_oi at hst
    repeat' split at hst
    all_goals (cases hst)
  case laload =>
    replace hst : az_lld sh pc L S σ = _ := hst
    unfold az_lld at hst
    try unfold az_ol at hst
    repeat' split at hst
    all_goals (cases hst)
  case aaload =>
    replace hst : az_rld sh pc L S σ = _ := hst
    unfold az_rld at hst
    try unfold az_ov at hst
    repeat' split at hst
    all_goals (cases hst)
  case arraylength =>
    replace hst : az_aln sh ex pc L S σ = _ := hst
    unfold az_aln at hst
    try unfold az_oi at hst
    repeat' split at hst
    all_goals (cases hst)
  case ifCond cnd off =>
    cases cnd
    case eq =>
      replace hst : az_if_eq a pc L S σ = _ := hst
      unfold az_if_eq at hst
      try unfold az_br at hst
      repeat' split at hst
      all_goals (cases hst)
    case ne =>
      replace hst : az_if_ne a pc L S σ = _ := hst
      unfold az_if_ne at hst
      try unfold az_br at hst
      repeat' split at hst
      all_goals (cases hst)
    case lt =>
      replace hst : az_if_lt a pc L S σ = _ := hst
      unfold az_if_lt at hst
      try unfold az_br at hst
      repeat' split at hst
      all_goals (cases hst)
    case ge =>
      replace hst : az_if_ge a pc L S σ = _ := hst
      unfold az_if_ge at hst
      try unfold az_br at hst
      repeat' split at hst
      all_goals (cases hst)
    case gt =>
      replace hst : az_if_gt a pc L S σ = _ := hst
      unfold az_if_gt at hst
      try unfold az_br at hst
      repeat' split at hst
      all_goals (cases hst)
    case le =>
      replace hst : az_if_le a pc L S σ = _ := hst
      unfold az_if_le at hst
      try unfold az_br at hst
      repeat' split at hst
      all_goals (cases hst)
  case if_icmp cnd off =>
    cases cnd
    case eq =>
      replace hst : az_ic_eq a pc L S σ = _ := hst
      unfold az_ic_eq at hst
      try unfold az_br at hst
      repeat' split at hst
      all_goals (cases hst)
    case ne =>
      replace hst : az_ic_ne a pc L S σ = _ := hst
      unfold az_ic_ne at hst
      try unfold az_br at hst
      repeat' split at hst
      all_goals (cases hst)
    case lt =>
      replace hst : az_ic_lt a pc L S σ = _ := hst
      unfold az_ic_lt at hst
      try unfold az_br at hst
      repeat' split at hst
      all_goals (cases hst)
    case ge =>
      replace hst : az_ic_ge a pc L S σ = _ := hst
      unfold az_ic_ge at hst
      try unfold az_br at hst
      repeat' split at hst
      all_goals (cases hst)
    case gt =>
      replace hst : az_ic_gt a pc L S σ = _ := hst
      unfold az_ic_gt at hst
      try unfold az_br at hst
      repeat' split at hst
      all_goals (cases hst)
    case le =>
      replace hst : az_ic_le a pc L S σ = _ := hst
      unfold az_ic_le at hst
      try unfold az_br at hst
      repeat' split at hst
      all_goals (cases hst)
  case putfield q =>
    replace hst : az_put sh a b pc L S σ = _ := hst
    unfold az_put at hst
    try unfold az_o at hst
    repeat' split at hst
    all_goals (cases hst)
  case iastore =>
    replace hst : az_ist sh pc L S σ = _ := hst
    unfold az_ist at hst
    try unfold az_o at hst
    repeat' split at hst
    all_goals (cases hst)
  case bastore =>
    replace hst : az_bst sh pc L S σ = _ := hst
    unfold az_bst at hst
    try unfold az_o at hst
    repeat' split at hst
    all_goals (cases hst)
  case lastore =>
    replace hst : az_lst sh pc L S σ = _ := hst
    unfold az_lst at hst
    try unfold az_o at hst
    repeat' split at hst
    all_goals (cases hst)
  case aastore =>
    replace hst : az_rst sh pc L S σ = _ := hst
    unfold az_rst at hst
    try unfold az_o at hst
    repeat' split at hst
    all_goals (cases hst)
  case new q =>
    replace hst : az_nwo sh a pc L S σ = _ := hst
    unfold az_nwo at hst
    try unfold az_o at hst
    repeat' split at hst
    all_goals (cases hst)
  case newarray q =>
    replace hst : az_nwa sh a 2 pc L S σ = _ := hst
    unfold az_nwa at hst
    try unfold az_o at hst
    repeat' split at hst
    all_goals (cases hst)
  case anewarray q =>
    replace hst : az_nwa sh 4 3 pc L S σ = _ := hst
    unfold az_nwa at hst
    try unfold az_o at hst
    repeat' split at hst
    all_goals (cases hst)
  case invokestatic q =>
    replace hst : (if a = 9999 then az_cpi sh d pc L S σ else if a = 9997 then az_max d pc L S σ else if a = 9996 then az_min d pc L S σ else az_cl sh 0 a pc S σ) = _ := hst
    by_cases h1 : a = 9999
    · rw [if_pos h1] at hst
      unfold az_cpi at hst
      try unfold az_o at hst
      repeat' split at hst
      all_goals (cases hst)
    · rw [if_neg h1] at hst
      by_cases h2 : a = 9997
      · rw [if_pos h2] at hst
        unfold az_max at hst
        split at hst
        · split at hst
          · cases hst
          · cases hst
        · cases hst
      · rw [if_neg h2] at hst
        by_cases h3 : a = 9996
        · rw [if_pos h3] at hst
          unfold az_min at hst
          split at hst
          · split at hst
            · cases hst
            · cases hst
          · cases hst
        · rw [if_neg h3] at hst
          exact absurd hst az_cl_nr
  case invokespecial q =>
    replace hst : (if a = 9998 then az_obj d pc L S σ else az_cl sh 2 a pc S σ) = _ := hst
    by_cases h1 : a = 9998
    · rw [if_pos h1] at hst
      unfold az_obj at hst
      repeat' split at hst
      all_goals (cases hst)
    · rw [if_neg h1] at hst
      exact absurd hst az_cl_nr
  case invokevirtual q =>
    replace hst : az_cl sh 1 a pc S σ = _ := hst
    exact absurd hst az_cl_nr
  case return_ =>
    replace hst : az_rv S σ = _ := hst
    unfold az_rv at hst
    split at hst
    · cases hst; exact ⟨rfl, Or.inl ⟨rfl, rfl, rfl⟩⟩
    · cases hst
  case ireturn =>
    replace hst : az_ri rt S σ = _ := hst
    unfold az_ri at hst
    split at hst
    · split at hst
      · split at hst
        · rename_i hx
          cases hst; exact ⟨rfl, Or.inr (Or.inl ⟨rfl, _, rfl, rfl, fun _ => hx⟩)⟩
        · cases hst
      · rename_i hx
        cases hst; exact ⟨rfl, Or.inr (Or.inl ⟨rfl, _, rfl, rfl, fun h => absurd h hx⟩)⟩
    · cases hst
  case lreturn =>
    replace hst : az_rl S σ = _ := hst
    unfold az_rl at hst
    split at hst
    · cases hst; exact ⟨rfl, Or.inr (Or.inr (Or.inl ⟨rfl, _, rfl, rfl⟩))⟩
    · cases hst
  case areturn =>
    replace hst : az_ra S σ = _ := hst
    unfold az_ra at hst
    split at hst
    · cases hst; exact ⟨rfl, Or.inr (Or.inr (Or.inr ⟨rfl, Or.inl ⟨_, rfl, rfl⟩⟩))⟩
    · cases hst; exact ⟨rfl, Or.inr (Or.inr (Or.inr ⟨rfl, Or.inr ⟨rfl, rfl⟩⟩))⟩
    · cases hst
  all_goals cases hst
set_option maxHeartbeats 4000000 in
theorem az_i_call {sh : az_H} {ex : az_X} {d pc : Nat} {L S : List Value} {σ : az_S} {rt : Option FieldType} {i : Instr} {a b z : Nat} {x : Nat × List Value × Nat × List Value} (hst : az_i sh ex d rt (i, a, b, z) pc L S σ = some (.inr (.inr x))) : (∃ q, i = .invokestatic q ∧ ¬ a = 9999 ∧ ¬ a = 9997 ∧ ¬ a = 9996 ∧ az_cl sh 0 a pc S σ = some (.inr (.inr x))) ∨ (∃ q, i = .invokespecial q ∧ ¬ a = 9998 ∧ az_cl sh 2 a pc S σ = some (.inr (.inr x))) ∨ (∃ q, i = .invokevirtual q ∧ az_cl sh 1 a pc S σ = some (.inr (.inr x))) := by
  cases i
  case iconst q =>
    cases hst
  case bipush q =>
    cases hst
  case sipush q =>
    cases hst
  case lconst q =>
    cases hst
  case ldc q =>
    cases hst
  case ldc_w q =>
    cases hst
  case ldc2_w q =>
    cases hst
  case aconst_null =>
    cases hst
  case iload_n q =>
    replace hst : az_li L q.val 1 pc S σ = _ := hst
    unfold az_li at hst
    repeat' split at hst
    all_goals (cases hst)
  case iload q =>
    replace hst : az_li L q 2 pc S σ = _ := hst
    unfold az_li at hst
    repeat' split at hst
    all_goals (cases hst)
  case lload_n q =>
    replace hst : az_ll L q.val 1 pc S σ = _ := hst
    unfold az_ll at hst
    repeat' split at hst
    all_goals (cases hst)
  case lload q =>
    replace hst : az_ll L q 2 pc S σ = _ := hst
    unfold az_ll at hst
    repeat' split at hst
    all_goals (cases hst)
  case aload_n q =>
    replace hst : az_la L q.val 1 pc S σ = _ := hst
    unfold az_la at hst
    repeat' split at hst
    all_goals (cases hst)
  case aload q =>
    replace hst : az_la L q 2 pc S σ = _ := hst
    unfold az_la at hst
    repeat' split at hst
    all_goals (cases hst)
  case istore_n q =>
    replace hst : az_wi L q.val 1 pc S σ = _ := hst
    unfold az_wi at hst
    repeat' split at hst
    all_goals (cases hst)
  case istore q =>
    replace hst : az_wi L q 2 pc S σ = _ := hst
    unfold az_wi at hst
    repeat' split at hst
    all_goals (cases hst)
  case astore_n q =>
    replace hst : az_wa L q.val 1 pc S σ = _ := hst
    unfold az_wa at hst
    repeat' split at hst
    all_goals (cases hst)
  case astore q =>
    replace hst : az_wa L q 2 pc S σ = _ := hst
    unfold az_wa at hst
    repeat' split at hst
    all_goals (cases hst)
  case iinc q w =>
    replace hst : az_inc q w pc L S σ = _ := hst
    unfold az_inc at hst
    repeat' split at hst
    all_goals (cases hst)
  case iadd =>
    replace hst : az_b2 (fun x y => x + y) L pc S σ = _ := hst
    unfold az_b2 at hst
    repeat' split at hst
    all_goals (cases hst)
  case isub =>
    replace hst : az_b2 (fun x y => x - y) L pc S σ = _ := hst
    unfold az_b2 at hst
    repeat' split at hst
    all_goals (cases hst)
  case imul =>
    replace hst : az_b2 (fun x y => x * y) L pc S σ = _ := hst
    unfold az_b2 at hst
    repeat' split at hst
    all_goals (cases hst)
  case iand =>
    replace hst : az_b2 (fun x y => x &&& y) L pc S σ = _ := hst
    unfold az_b2 at hst
    repeat' split at hst
    all_goals (cases hst)
  case ior =>
    replace hst : az_b2 (fun x y => x ||| y) L pc S σ = _ := hst
    unfold az_b2 at hst
    repeat' split at hst
    all_goals (cases hst)
  case ixor =>
    replace hst : az_b2 (fun x y => x ^^^ y) L pc S σ = _ := hst
    unfold az_b2 at hst
    repeat' split at hst
    all_goals (cases hst)
  case ishl =>
    replace hst : az_b2 (fun x y => x <<< (y &&& 31)) L pc S σ = _ := hst
    unfold az_b2 at hst
    repeat' split at hst
    all_goals (cases hst)
  case ishr =>
    replace hst : az_b2 (fun x y => x >>> (y &&& 31)) L pc S σ = _ := hst
    unfold az_b2 at hst
    repeat' split at hst
    all_goals (cases hst)
  case iushr =>
    replace hst : az_b2 (fun x y => (x.toUInt32 >>> (y.toUInt32 &&& Int32.toUInt32 31)).toInt32) L pc S σ = _ := hst
    unfold az_b2 at hst
    repeat' split at hst
    all_goals (cases hst)
  case ineg =>
    replace hst : az_b1 (fun x => -x) L pc S σ = _ := hst
    unfold az_b1 at hst
    repeat' split at hst
    all_goals (cases hst)
  case i2b =>
    replace hst : az_b1 (fun x => x.toInt8.toInt32) L pc S σ = _ := hst
    unfold az_b1 at hst
    repeat' split at hst
    all_goals (cases hst)
  case i2s =>
    replace hst : az_b1 (fun x => x.toInt16.toInt32) L pc S σ = _ := hst
    unfold az_b1 at hst
    repeat' split at hst
    all_goals (cases hst)
  case land =>
    replace hst : az_b2l (fun x y => x &&& y) L pc S σ = _ := hst
    unfold az_b2l at hst
    repeat' split at hst
    all_goals (cases hst)
  case lor =>
    replace hst : az_b2l (fun x y => x ||| y) L pc S σ = _ := hst
    unfold az_b2l at hst
    repeat' split at hst
    all_goals (cases hst)
  case idiv =>
    replace hst : az_div pc L S σ = _ := hst
    unfold az_div at hst
    repeat' split at hst
    all_goals (cases hst)
  case irem =>
    replace hst : az_rem pc L S σ = _ := hst
    unfold az_rem at hst
    repeat' split at hst
    all_goals (cases hst)
  case lshl =>
    replace hst : az_lsh pc L S σ = _ := hst
    unfold az_lsh at hst
    repeat' split at hst
    all_goals (cases hst)
  case lcmp =>
    replace hst : az_lcm pc L S σ = _ := hst
    unfold az_lcm at hst
    repeat' split at hst
    all_goals (cases hst)
  case i2l =>
    replace hst : az_i2l pc L S σ = _ := hst
    unfold az_i2l at hst
    repeat' split at hst
    all_goals (cases hst)
  case l2i =>
    replace hst : az_l2i pc L S σ = _ := hst
    unfold az_l2i at hst
    repeat' split at hst
    all_goals (cases hst)
  case dup =>
    replace hst : az_dup pc L S σ = _ := hst
    unfold az_dup at hst
    repeat' split at hst
    all_goals (cases hst)
  case pop =>
    replace hst : az_pop pc L S σ = _ := hst
    unfold az_pop at hst
    repeat' split at hst
    all_goals (cases hst)
  case dup_x1 =>
    replace hst : az_dx1 pc L S σ = _ := hst
    unfold az_dx1 at hst
    repeat' split at hst
    all_goals (cases hst)
  case dup2 =>
    replace hst : az_dp2 pc L S σ = _ := hst
    unfold az_dp2 at hst
    repeat' split at hst
    all_goals (cases hst)
  case ifnull q =>
    replace hst : az_nul a pc L S σ = _ := hst
    unfold az_nul at hst
    repeat' split at hst
    all_goals (cases hst)
  case ifnonnull q =>
    replace hst : az_nnl a pc L S σ = _ := hst
    unfold az_nnl at hst
    repeat' split at hst
    all_goals (cases hst)
  case goto q =>
    cases hst
  case tableswitch df lo hi offs =>
    replace hst : az_tsw a lo hi offs pc L S σ = _ := hst
    unfold az_tsw at hst
    try unfold az_jp at hst
    repeat' split at hst
    all_goals (cases hst)
  case lookupswitch df ps =>
    replace hst : az_lsw df ps pc L S σ = _ := hst
    unfold az_lsw at hst
    try unfold az_jp at hst
    repeat' split at hst
    all_goals (cases hst)
  case getfield q =>
    replace hst : az_get sh a b pc L S σ = _ := hst
    unfold az_get at hst
    try unfold az_ov at hst
    repeat' split at hst
    all_goals (cases hst)
  case getstatic q =>
    cases hst
  case iaload =>
    replace hst : az_ild sh ex pc L S σ = _ := hst
    unfold az_ild at hst
    try unfold az_oi at hst
    repeat' split at hst
    all_goals (cases hst)
  case baload =>
    replace hst : az_bld sh pc L S σ = _ := hst
    unfold az_bld at hst
    try unfold az_oi at hst
    repeat' split at hst
    all_goals (cases hst)
  case laload =>
    replace hst : az_lld sh pc L S σ = _ := hst
    unfold az_lld at hst
    try unfold az_ol at hst
    repeat' split at hst
    all_goals (cases hst)
  case aaload =>
    replace hst : az_rld sh pc L S σ = _ := hst
    unfold az_rld at hst
    try unfold az_ov at hst
    repeat' split at hst
    all_goals (cases hst)
  case arraylength =>
    replace hst : az_aln sh ex pc L S σ = _ := hst
    unfold az_aln at hst
    try unfold az_oi at hst
    repeat' split at hst
    all_goals (cases hst)
  case ifCond cnd off =>
    cases cnd
    case eq =>
      replace hst : az_if_eq a pc L S σ = _ := hst
      unfold az_if_eq at hst
      try unfold az_br at hst
      repeat' split at hst
      all_goals (cases hst)
    case ne =>
      replace hst : az_if_ne a pc L S σ = _ := hst
      unfold az_if_ne at hst
      try unfold az_br at hst
      repeat' split at hst
      all_goals (cases hst)
    case lt =>
      replace hst : az_if_lt a pc L S σ = _ := hst
      unfold az_if_lt at hst
      try unfold az_br at hst
      repeat' split at hst
      all_goals (cases hst)
    case ge =>
      replace hst : az_if_ge a pc L S σ = _ := hst
      unfold az_if_ge at hst
      try unfold az_br at hst
      repeat' split at hst
      all_goals (cases hst)
    case gt =>
      replace hst : az_if_gt a pc L S σ = _ := hst
      unfold az_if_gt at hst
      try unfold az_br at hst
      repeat' split at hst
      all_goals (cases hst)
    case le =>
      replace hst : az_if_le a pc L S σ = _ := hst
      unfold az_if_le at hst
      try unfold az_br at hst
      repeat' split at hst
      all_goals (cases hst)
  case if_icmp cnd off =>
    cases cnd
    case eq =>
      replace hst : az_ic_eq a pc L S σ = _ := hst
      unfold az_ic_eq at hst
      try unfold az_br at hst
      repeat' split at hst
      all_goals (cases hst)
    case ne =>
      replace hst : az_ic_ne a pc L S σ = _ := hst
      unfold az_ic_ne at hst
      try unfold az_br at hst
      repeat' split at hst
      all_goals (cases hst)
    case lt =>
      replace hst : az_ic_lt a pc L S σ = _ := hst
      unfold az_ic_lt at hst
      try unfold az_br at hst
      repeat' split at hst
      all_goals (cases hst)
    case ge =>
      replace hst : az_ic_ge a pc L S σ = _ := hst
      unfold az_ic_ge at hst
      try unfold az_br at hst
      repeat' split at hst
      all_goals (cases hst)
    case gt =>
      replace hst : az_ic_gt a pc L S σ = _ := hst
      unfold az_ic_gt at hst
      try unfold az_br at hst
      repeat' split at hst
      all_goals (cases hst)
    case le =>
      replace hst : az_ic_le a pc L S σ = _ := hst
      unfold az_ic_le at hst
      try unfold az_br at hst
      repeat' split at hst
      all_goals (cases hst)
  case putfield q =>
    replace hst : az_put sh a b pc L S σ = _ := hst
    unfold az_put at hst
    try unfold az_o at hst
    repeat' split at hst
    all_goals (cases hst)
  case iastore =>
    replace hst : az_ist sh pc L S σ = _ := hst
    unfold az_ist at hst
    try unfold az_o at hst
    repeat' split at hst
    all_goals (cases hst)
  case bastore =>
    replace hst : az_bst sh pc L S σ = _ := hst
    unfold az_bst at hst
    try unfold az_o at hst
    repeat' split at hst
    all_goals (cases hst)
  case lastore =>
    replace hst : az_lst sh pc L S σ = _ := hst
    unfold az_lst at hst
    try unfold az_o at hst
    repeat' split at hst
    all_goals (cases hst)
  case aastore =>
    replace hst : az_rst sh pc L S σ = _ := hst
    unfold az_rst at hst
    try unfold az_o at hst
    repeat' split at hst
    all_goals (cases hst)
  case new q =>
    replace hst : az_nwo sh a pc L S σ = _ := hst
    unfold az_nwo at hst
    try unfold az_o at hst
    repeat' split at hst
    all_goals (cases hst)
  case newarray q =>
    replace hst : az_nwa sh a 2 pc L S σ = _ := hst
    unfold az_nwa at hst
    try unfold az_o at hst
    repeat' split at hst
    all_goals (cases hst)
  case anewarray q =>
    replace hst : az_nwa sh 4 3 pc L S σ = _ := hst
    unfold az_nwa at hst
    try unfold az_o at hst
    repeat' split at hst
    all_goals (cases hst)
  case return_ =>
    replace hst : az_rv S σ = _ := hst
    unfold az_rv at hst
    repeat' split at hst
    all_goals (cases hst)
  case ireturn =>
    replace hst : az_ri rt S σ = _ := hst
    unfold az_ri at hst
    repeat' split at hst
    all_goals (cases hst)
  case lreturn =>
    replace hst : az_rl S σ = _ := hst
    unfold az_rl at hst
    repeat' split at hst
    all_goals (cases hst)
  case areturn =>
    replace hst : az_ra S σ = _ := hst
    unfold az_ra at hst
    repeat' split at hst
    all_goals (cases hst)
  case invokestatic q =>
    replace hst : (if a = 9999 then az_cpi sh d pc L S σ else if a = 9997 then az_max d pc L S σ else if a = 9996 then az_min d pc L S σ else az_cl sh 0 a pc S σ) = _ := hst
    by_cases h1 : a = 9999
    · rw [if_pos h1] at hst
      unfold az_cpi at hst
      try unfold az_o at hst
      repeat' split at hst
      all_goals (cases hst)
    · rw [if_neg h1] at hst
      by_cases h2 : a = 9997
      · rw [if_pos h2] at hst
        unfold az_max at hst
        split at hst
        · split at hst
          · cases hst
          · cases hst
        · cases hst
      · rw [if_neg h2] at hst
        by_cases h3 : a = 9996
        · rw [if_pos h3] at hst
          unfold az_min at hst
          split at hst
          · split at hst
            · cases hst
            · cases hst
          · cases hst
        · rw [if_neg h3] at hst
          exact Or.inl ⟨q, rfl, h1, h2, h3, hst⟩
  case invokespecial q =>
    replace hst : (if a = 9998 then az_obj d pc L S σ else az_cl sh 2 a pc S σ) = _ := hst
    by_cases h1 : a = 9998
    · rw [if_pos h1] at hst
      unfold az_obj at hst
      repeat' split at hst
      all_goals (cases hst)
    · rw [if_neg h1] at hst
      exact Or.inr (Or.inl ⟨q, rfl, h1, hst⟩)
  case invokevirtual q =>
    replace hst : az_cl sh 1 a pc S σ = _ := hst
    exact Or.inr (Or.inr ⟨q, rfl, hst⟩)
  all_goals cases hst

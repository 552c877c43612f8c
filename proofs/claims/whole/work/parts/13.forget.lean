/-! FEWER LOCALS KNOWN: a run that does with fewer does with more -/
def az_nl : Value → Prop
  | .long _ => False
  | .double _ => False
  | _ => True
def az_leb : List Value → List Value → Prop
  | [], [] => True
  | .retAddr _ :: L, v :: L' => az_nl v ∧ az_leb L L'
  | w :: L, v :: L' => w = v ∧ az_leb L L'
  | _, _ => False
theorem az_leb_cons {w v : Value} {L L' : List Value} (h : az_leb (w :: L) (v :: L')) : ((∃ q, w = .retAddr q) ∧ az_nl v ∨ w = v) ∧ az_leb L L' := by
  cases w <;> first | exact ⟨Or.inl ⟨⟨_, rfl⟩, h.1⟩, h.2⟩ | exact ⟨Or.inr h.1, h.2⟩
theorem az_leb_mk {w v : Value} {L L' : List Value} (h : w = v ∧ (∀ q, w ≠ .retAddr q)) (g : az_leb L L') : az_leb (w :: L) (v :: L') := by
  obtain ⟨rfl, h⟩ := h
  cases w <;> first | exact ⟨rfl, g⟩ | exact absurd rfl (h _)
theorem az_leb_len : ∀ {L L' : List Value}, az_leb L L' → L.length = L'.length
  | [], [], _ => rfl
  | w :: L, v :: L', h => by rw [List.length_cons, List.length_cons, az_leb_len (az_leb_cons h).2]
  | [], _ :: _, h => absurd h (by simp [az_leb])
  | w :: _, [], h => absurd h (by cases w <;> simp [az_leb])
theorem az_leb_at : ∀ {L L' : List Value} {i : Nat} {v : Value}, az_leb L L' → L[i]? = some v → (∀ q, v ≠ .retAddr q) → L'[i]? = some v
  | [], _, i, v, _, h, _ => by simp at h
  | w :: L, [], _, _, h, _, _ => absurd h (by cases w <;> simp [az_leb])
  | w :: L, v' :: L', 0, v, h, h1, hv => by
    simp only [List.getElem?_cons_zero, Option.some.injEq] at h1 ⊢
    subst h1
    rcases (az_leb_cons h).1 with ⟨⟨q, e⟩, -⟩ | e
    · exact absurd e (hv q)
    · exact e.symm
  | w :: L, v' :: L', i + 1, v, h, h1, hv => by
    simp only [List.getElem?_cons_succ] at h1 ⊢
    exact az_leb_at (az_leb_cons h).2 h1 hv
theorem az_leb_nl : ∀ {L L' : List Value} {i : Nat} {v : Value}, az_leb L L' → L'[i]? = some v → ¬ az_nl v → L[i]? = some v
  | _, [], i, v, _, h, _ => by simp at h
  | [], _ :: _, _, _, h, _, _ => absurd h (by simp [az_leb])
  | w :: L, v' :: L', 0, v, h, h1, hv => by
    simp only [List.getElem?_cons_zero, Option.some.injEq] at h1 ⊢
    subst h1
    rcases (az_leb_cons h).1 with ⟨-, e⟩ | e
    · exact absurd e hv
    · exact e
  | w :: L, v' :: L', i + 1, v, h, h1, hv => by
    simp only [List.getElem?_cons_succ] at h1 ⊢
    exact az_leb_nl (az_leb_cons h).2 h1 hv
theorem az_leb_set {v : Value} (hv : ∀ q, v ≠ .retAddr q) : ∀ {L L' : List Value} {i : Nat}, az_leb L L' → az_leb (L.set i v) (L'.set i v)
  | [], [], i, h => by simpa using h
  | [], _ :: _, _, h => absurd h (by simp [az_leb])
  | w :: _, [], _, h => absurd h (by cases w <;> simp [az_leb])
  | w :: L, v' :: L', 0, h => by
    simp only [List.set_cons_zero]
    exact az_leb_mk ⟨rfl, hv⟩ (az_leb_cons h).2
  | w :: L, v' :: L', i + 1, h => by
    simp only [List.set_cons_succ]
    have g := az_leb_set hv (i := i) (az_leb_cons h).2
    cases w <;> first | exact ⟨h.1, g⟩
theorem az_leb_st {v : Value} (hv : ∀ q, v ≠ .retAddr q) {L L2 L' : List Value} {i : Nat} (h : az_leb L L2) (hst : az_st L i v = some L') : ∃ L2', az_st L2 i v = some L2' ∧ az_leb L' L2' := by
  unfold az_st at hst ⊢
  split at hst
  · rename_i hlt
    rw [if_pos (by rw [← az_leb_len h]; exact hlt)]
    cases i with
    | zero => cases hst; exact ⟨_, rfl, az_leb_set hv h⟩
    | succ j =>
      dsimp only at hst ⊢
      split at hst
      · cases hst
      · cases hst
      · rename_i h1 h2
        cases hst
        refine ⟨L2.set (j + 1) v, ?_, az_leb_set hv h⟩
        split
        · rename_i x hx
          exact absurd (az_leb_nl h hx (fun e => e)) (h1 x)
        · rename_i x hx
          exact absurd (az_leb_nl h hx (fun e => e)) (h2 x)
        · rfl
  · cases hst
/-- the locals put in -/
def az_sL (L : List Value) : az_T → az_T
  | .inl (pc, _, S, σ) => .inl (pc, L, S, σ)
  | .inr x => .inr x
def az_nli (i : Instr) : Prop := match i with
  | .iload_n _ => False
  | .iload _ => False
  | .lload_n _ => False
  | .lload _ => False
  | .aload_n _ => False
  | .aload _ => False
  | .istore_n _ => False
  | .istore _ => False
  | .astore_n _ => False
  | .astore _ => False
  | .iinc _ _ => False
  | _ => True
theorem az_cl_L {sh : az_H} {kind k pc : Nat} {S : List Value} {σ : az_S} {L : List Value} : az_cl sh kind k pc S σ = (az_cl sh kind k pc S σ).map (az_sL L) := by
  cases h : az_cl sh kind k pc S σ with
  | none => rfl
  | some r =>
    cases r with
    | inl x => exact absurd h az_cl_no
    | inr x => rfl
set_option maxHeartbeats 4000000 in
theorem az_i_L {sh : az_H} {ex : az_X} {d pc : Nat} {S : List Value} {σ : az_S} {rt : Option FieldType} {i : Instr} {a b z : Nat} (hni : az_nli i) (L : List Value) : az_i sh ex d rt (i, a, b, z) pc L S σ = (az_i sh ex d rt (i, a, b, z) pc [] S σ).map (az_sL L) := by
  cases i
  case iconst q =>
    rfl
  case bipush q =>
    rfl
  case sipush q =>
    rfl
  case lconst q =>
    rfl
  case ldc q =>
    rfl
  case ldc_w q =>
    rfl
  case ldc2_w q =>
    rfl
  case aconst_null =>
    rfl
  case iload_n q =>
    exact False.elim hni
  case iload q =>
    exact False.elim hni
  case lload_n q =>
    exact False.elim hni
  case lload q =>
    exact False.elim hni
  case aload_n q =>
    exact False.elim hni
  case aload q =>
    exact False.elim hni
  case istore_n q =>
    exact False.elim hni
  case istore q =>
    exact False.elim hni
  case astore_n q =>
    exact False.elim hni
  case astore q =>
    exact False.elim hni
  case iinc q w =>
    exact False.elim hni
  case iadd =>
    show az_b2 (fun x y => x + y) L pc S σ = (az_b2 (fun x y => x + y) [] pc S σ).map (az_sL L)
    unfold az_b2
    repeat' split
    all_goals first | rfl | simp_all
  case isub =>
    show az_b2 (fun x y => x - y) L pc S σ = (az_b2 (fun x y => x - y) [] pc S σ).map (az_sL L)
    unfold az_b2
    repeat' split
    all_goals first | rfl | simp_all
  case imul =>
    show az_b2 (fun x y => x * y) L pc S σ = (az_b2 (fun x y => x * y) [] pc S σ).map (az_sL L)
    unfold az_b2
    repeat' split
    all_goals first | rfl | simp_all
  case iand =>
    show az_b2 (fun x y => x &&& y) L pc S σ = (az_b2 (fun x y => x &&& y) [] pc S σ).map (az_sL L)
    unfold az_b2
    repeat' split
    all_goals first | rfl | simp_all
  case ior =>
    show az_b2 (fun x y => x ||| y) L pc S σ = (az_b2 (fun x y => x ||| y) [] pc S σ).map (az_sL L)
    unfold az_b2
    repeat' split
    all_goals first | rfl | simp_all
  case ixor =>
    show az_b2 (fun x y => x ^^^ y) L pc S σ = (az_b2 (fun x y => x ^^^ y) [] pc S σ).map (az_sL L)
    unfold az_b2
    repeat' split
    all_goals first | rfl | simp_all
  case ishl =>
    show az_b2 (fun x y => x <<< (y &&& 31)) L pc S σ = (az_b2 (fun x y => x <<< (y &&& 31)) [] pc S σ).map (az_sL L)
    unfold az_b2
    repeat' split
    all_goals first | rfl | simp_all
  case ishr =>
    show az_b2 (fun x y => x >>> (y &&& 31)) L pc S σ = (az_b2 (fun x y => x >>> (y &&& 31)) [] pc S σ).map (az_sL L)
    unfold az_b2
    repeat' split
    all_goals first | rfl | simp_all
  case iushr =>
    show az_b2 (fun x y => (x.toUInt32 >>> (y.toUInt32 &&& Int32.toUInt32 31)).toInt32) L pc S σ = (az_b2 (fun x y => (x.toUInt32 >>> (y.toUInt32 &&& Int32.toUInt32 31)).toInt32) [] pc S σ).map (az_sL L)
    unfold az_b2
    repeat' split
    all_goals first | rfl | simp_all
  case ineg =>
    show az_b1 (fun x => -x) L pc S σ = (az_b1 (fun x => -x) [] pc S σ).map (az_sL L)
    unfold az_b1
    repeat' split
    all_goals first | rfl | simp_all
  case i2b =>
    show az_b1 (fun x => x.toInt8.toInt32) L pc S σ = (az_b1 (fun x => x.toInt8.toInt32) [] pc S σ).map (az_sL L)
    unfold az_b1
    repeat' split
    all_goals first | rfl | simp_all
  case i2s =>
    show az_b1 (fun x => x.toInt16.toInt32) L pc S σ = (az_b1 (fun x => x.toInt16.toInt32) [] pc S σ).map (az_sL L)
    unfold az_b1
    repeat' split
    all_goals first | rfl | simp_all
  case land =>
    show az_b2l (fun x y => x &&& y) L pc S σ = (az_b2l (fun x y => x &&& y) [] pc S σ).map (az_sL L)
    unfold az_b2l
    repeat' split
    all_goals first | rfl | simp_all
  case lor =>
    show az_b2l (fun x y => x ||| y) L pc S σ = (az_b2l (fun x y => x ||| y) [] pc S σ).map (az_sL L)
    unfold az_b2l
    repeat' split
    all_goals first | rfl | simp_all
  case idiv =>
    show az_div pc L S σ = (az_div pc [] S σ).map (az_sL L)
    unfold az_div
    repeat' split
    all_goals first | rfl | simp_all
  case irem =>
    show az_rem pc L S σ = (az_rem pc [] S σ).map (az_sL L)
    unfold az_rem
    repeat' split
    all_goals first | rfl | simp_all
  case lshl =>
    show az_lsh pc L S σ = (az_lsh pc [] S σ).map (az_sL L)
    unfold az_lsh
    repeat' split
    all_goals first | rfl | simp_all
  case lcmp =>
    show az_lcm pc L S σ = (az_lcm pc [] S σ).map (az_sL L)
    unfold az_lcm
    repeat' split
    all_goals first | rfl | simp_all
  case i2l =>
    show az_i2l pc L S σ = (az_i2l pc [] S σ).map (az_sL L)
    unfold az_i2l
    repeat' split
    all_goals first | rfl | simp_all
  case l2i =>
    show az_l2i pc L S σ = (az_l2i pc [] S σ).map (az_sL L)
    unfold az_l2i
    repeat' split
    all_goals first | rfl | simp_all
  case dup =>
    show az_dup pc L S σ = (az_dup pc [] S σ).map (az_sL L)
    unfold az_dup
    repeat' split
    all_goals first | rfl | simp_all
  case pop =>
    show az_pop pc L S σ = (az_pop pc [] S σ).map (az_sL L)
    unfold az_pop
    repeat' split
    all_goals first | rfl | simp_all
  case dup_x1 =>
    show az_dx1 pc L S σ = (az_dx1 pc [] S σ).map (az_sL L)
    unfold az_dx1
    repeat' split
    all_goals first | rfl | simp_all
  case dup2 =>
    show az_dp2 pc L S σ = (az_dp2 pc [] S σ).map (az_sL L)
    unfold az_dp2
    repeat' split
    all_goals first | rfl | simp_all
  case ifnull q =>
    show az_nul a pc L S σ = (az_nul a pc [] S σ).map (az_sL L)
    unfold az_nul
    repeat' split
    all_goals first | rfl | simp_all
  case ifnonnull q =>
    show az_nnl a pc L S σ = (az_nnl a pc [] S σ).map (az_sL L)
    unfold az_nnl
    repeat' split
    all_goals first | rfl | simp_all
  case goto q =>
    rfl
  case tableswitch df lo hi offs =>
    show az_tsw a lo hi offs pc L S σ = (az_tsw a lo hi offs pc [] S σ).map (az_sL L)
    unfold az_tsw az_jp
    repeat' split
    all_goals first | rfl | simp_all
  case lookupswitch df ps =>
    show az_lsw df ps pc L S σ = (az_lsw df ps pc [] S σ).map (az_sL L)
    unfold az_lsw az_jp
    repeat' split
    all_goals first | rfl | simp_all
  case getfield q =>
    show az_get sh a b pc L S σ = (az_get sh a b pc [] S σ).map (az_sL L)
    unfold az_get az_ov
    repeat' split
    all_goals first | rfl | simp_all
  case getstatic q =>
    rfl
  case iaload =>
    show az_ild sh ex pc L S σ = (az_ild sh ex pc [] S σ).map (az_sL L)
    unfold az_ild az_oi
    repeat' split
    all_goals first | rfl | simp_all
  case baload =>
    show az_bld sh pc L S σ = (az_bld sh pc [] S σ).map (az_sL L)
    unfold az_bld az_oi
    repeat' split
    all_goals first | rfl | simp_all
  case laload =>
    show az_lld sh pc L S σ = (az_lld sh pc [] S σ).map (az_sL L)
    unfold az_lld az_ol
    repeat' split
    all_goals first | rfl | simp_all
  case aaload =>
    show az_rld sh pc L S σ = (az_rld sh pc [] S σ).map (az_sL L)
    unfold az_rld az_ov
    repeat' split
    all_goals first | rfl | simp_all
  case arraylength =>
    show az_aln sh ex pc L S σ = (az_aln sh ex pc [] S σ).map (az_sL L)
    unfold az_aln az_oi
    repeat' split
    all_goals first | rfl | simp_all
  case ifCond cnd off =>
    cases cnd
    case eq =>
      show az_if_eq a pc L S σ = (az_if_eq a pc [] S σ).map (az_sL L)
      unfold az_if_eq az_br
      repeat' split
      all_goals first | rfl | simp_all
    case ne =>
      show az_if_ne a pc L S σ = (az_if_ne a pc [] S σ).map (az_sL L)
      unfold az_if_ne az_br
      repeat' split
      all_goals first | rfl | simp_all
    case lt =>
      show az_if_lt a pc L S σ = (az_if_lt a pc [] S σ).map (az_sL L)
      unfold az_if_lt az_br
      repeat' split
      all_goals first | rfl | simp_all
    case ge =>
      show az_if_ge a pc L S σ = (az_if_ge a pc [] S σ).map (az_sL L)
      unfold az_if_ge az_br
      repeat' split
      all_goals first | rfl | simp_all
    case gt =>
      show az_if_gt a pc L S σ = (az_if_gt a pc [] S σ).map (az_sL L)
      unfold az_if_gt az_br
      repeat' split
      all_goals first | rfl | simp_all
    case le =>
      show az_if_le a pc L S σ = (az_if_le a pc [] S σ).map (az_sL L)
      unfold az_if_le az_br
      repeat' split
      all_goals first | rfl | simp_all
  case if_icmp cnd off =>
    cases cnd
    case eq =>
      show az_ic_eq a pc L S σ = (az_ic_eq a pc [] S σ).map (az_sL L)
      unfold az_ic_eq az_br
      repeat' split
      all_goals first | rfl | simp_all
    case ne =>
      show az_ic_ne a pc L S σ = (az_ic_ne a pc [] S σ).map (az_sL L)
      unfold az_ic_ne az_br
      repeat' split
      all_goals first | rfl | simp_all
    case lt =>
      show az_ic_lt a pc L S σ = (az_ic_lt a pc [] S σ).map (az_sL L)
      unfold az_ic_lt az_br
      repeat' split
      all_goals first | rfl | simp_all
    case ge =>
      show az_ic_ge a pc L S σ = (az_ic_ge a pc [] S σ).map (az_sL L)
      unfold az_ic_ge az_br
      repeat' split
      all_goals first | rfl | simp_all
    case gt =>
      show az_ic_gt a pc L S σ = (az_ic_gt a pc [] S σ).map (az_sL L)
      unfold az_ic_gt az_br
      repeat' split
      all_goals first | rfl | simp_all
    case le =>
      show az_ic_le a pc L S σ = (az_ic_le a pc [] S σ).map (az_sL L)
      unfold az_ic_le az_br
      repeat' split
      all_goals first | rfl | simp_all
  case putfield q =>
    show az_put sh a b pc L S σ = (az_put sh a b pc [] S σ).map (az_sL L)
    unfold az_put az_o
    repeat' split
    all_goals first | rfl | simp_all
  case iastore =>
    show az_ist sh pc L S σ = (az_ist sh pc [] S σ).map (az_sL L)
    unfold az_ist az_o
    repeat' split
    all_goals first | rfl | simp_all
  case bastore =>
    show az_bst sh pc L S σ = (az_bst sh pc [] S σ).map (az_sL L)
    unfold az_bst az_o
    repeat' split
    all_goals first | rfl | simp_all
  case lastore =>
    show az_lst sh pc L S σ = (az_lst sh pc [] S σ).map (az_sL L)
    unfold az_lst az_o
    repeat' split
    all_goals first | rfl | simp_all
  case aastore =>
    show az_rst sh pc L S σ = (az_rst sh pc [] S σ).map (az_sL L)
    unfold az_rst az_o
    repeat' split
    all_goals first | rfl | simp_all
  case new q =>
    show az_nwo sh a pc L S σ = (az_nwo sh a pc [] S σ).map (az_sL L)
    unfold az_nwo az_o
    repeat' split
    all_goals first | rfl | simp_all
  case newarray q =>
    show az_nwa sh a 2 pc L S σ = (az_nwa sh a 2 pc [] S σ).map (az_sL L)
    unfold az_nwa az_o
    repeat' split
    all_goals first | rfl | simp_all
  case anewarray q =>
    show az_nwa sh 4 3 pc L S σ = (az_nwa sh 4 3 pc [] S σ).map (az_sL L)
    unfold az_nwa az_o
    repeat' split
    all_goals first | rfl | simp_all
  case return_ =>
    show az_rv S σ = (az_rv S σ).map (az_sL L)
    unfold az_rv
    repeat' split
    all_goals first | rfl | simp_all
  case ireturn =>
    show az_ri rt S σ = (az_ri rt S σ).map (az_sL L)
    unfold az_ri
    repeat' split
    all_goals first | rfl | simp_all
  case lreturn =>
    show az_rl S σ = (az_rl S σ).map (az_sL L)
    unfold az_rl
    repeat' split
    all_goals first | rfl | simp_all
  case areturn =>
    show az_ra S σ = (az_ra S σ).map (az_sL L)
    unfold az_ra
    repeat' split
    all_goals first | rfl | simp_all
  case invokestatic q =>
    show (if a = 9999 then az_cpi sh d pc L S σ else if a = 9997 then az_max d pc L S σ else if a = 9996 then az_min d pc L S σ else az_cl sh 0 a pc S σ) = ((if a = 9999 then az_cpi sh d pc [] S σ else if a = 9997 then az_max d pc [] S σ else if a = 9996 then az_min d pc [] S σ else az_cl sh 0 a pc S σ)).map (az_sL L)
    by_cases h1 : a = 9999
    · rw [if_pos h1, if_pos h1]
      unfold az_cpi az_o
      repeat' split
      all_goals first | rfl | simp_all
    · rw [if_neg h1, if_neg h1]
      by_cases h2 : a = 9997
      · rw [if_pos h2, if_pos h2]
        unfold az_max
        split
        · split <;> rfl
        · rfl
      · rw [if_neg h2, if_neg h2]
        by_cases h3 : a = 9996
        · rw [if_pos h3, if_pos h3]
          unfold az_min
          split
          · split <;> rfl
          · rfl
        · rw [if_neg h3, if_neg h3]
          exact az_cl_L
  case invokespecial q =>
    show (if a = 9998 then az_obj d pc L S σ else az_cl sh 2 a pc S σ) = ((if a = 9998 then az_obj d pc [] S σ else az_cl sh 2 a pc S σ)).map (az_sL L)
    by_cases h1 : a = 9998
    · rw [if_pos h1, if_pos h1]
      unfold az_obj
      repeat' split
      all_goals first | rfl | simp_all
    · rw [if_neg h1, if_neg h1]
      exact az_cl_L
  case invokevirtual q =>
    exact az_cl_L
  all_goals rfl
theorem az_i_le {sh : az_H} {ex : az_X} {d pc : Nat} {L L2 S : List Value} {σ : az_S} {rt : Option FieldType} {e : az_I} {r : az_T} (h : az_leb L L2) (hst : az_i sh ex d rt e pc L S σ = some r) : (∃ pc' L' L2' S' σ', r = .inl (pc', L', S', σ') ∧ az_leb L' L2' ∧ az_i sh ex d rt e pc L2 S σ = some (.inl (pc', L2', S', σ'))) ∨ (∃ x, r = .inr x ∧ az_i sh ex d rt e pc L2 S σ = some (.inr x)) := by
  obtain ⟨i, a, b, z⟩ := e
  have gen : az_nli i → ((∃ pc' L' L2' S' σ', r = .inl (pc', L', S', σ') ∧ az_leb L' L2' ∧ az_i sh ex d rt (i, a, b, z) pc L2 S σ = some (.inl (pc', L2', S', σ'))) ∨ (∃ x, r = .inr x ∧ az_i sh ex d rt (i, a, b, z) pc L2 S σ = some (.inr x))) := fun hi => by
    rw [az_i_L hi] at hst
    cases h0 : az_i sh ex d rt (i, a, b, z) pc [] S σ with
    | none => rw [h0] at hst; cases hst
    | some r0 =>
      rw [h0] at hst
      cases hst
      have e2 := az_i_L (sh := sh) (ex := ex) (d := d) (rt := rt) (a := a) (b := b) (z := z) (pc := pc) (S := S) (σ := σ) hi L2
      rw [h0] at e2
      cases r0 with
      | inl x => exact Or.inl ⟨x.1, L, L2, x.2.2.1, x.2.2.2, rfl, h, e2⟩
      | inr x => exact Or.inr ⟨x, rfl, e2⟩
  cases i
  case iload_n q =>
    replace hst : az_li L q.val 1 pc S σ = _ := hst
    unfold az_li at hst
    split at hst
    · rename_i hx
      cases hst
      exact Or.inl ⟨_, _, _, _, _, rfl, h, (by show az_li L2 q.val 1 pc S σ = _; unfold az_li; rw [az_leb_at h hx (fun _ e => by cases e)]; rfl)⟩
    · cases hst
  case iload q =>
    replace hst : az_li L q 2 pc S σ = _ := hst
    unfold az_li at hst
    split at hst
    · rename_i hx
      cases hst
      exact Or.inl ⟨_, _, _, _, _, rfl, h, (by show az_li L2 q 2 pc S σ = _; unfold az_li; rw [az_leb_at h hx (fun _ e => by cases e)]; rfl)⟩
    · cases hst
  case lload_n q =>
    replace hst : az_ll L q.val 1 pc S σ = _ := hst
    unfold az_ll at hst
    split at hst
    · rename_i hx
      cases hst
      exact Or.inl ⟨_, _, _, _, _, rfl, h, (by show az_ll L2 q.val 1 pc S σ = _; unfold az_ll; rw [az_leb_at h hx (fun _ e => by cases e)]; rfl)⟩
    · cases hst
  case lload q =>
    replace hst : az_ll L q 2 pc S σ = _ := hst
    unfold az_ll at hst
    split at hst
    · rename_i hx
      cases hst
      exact Or.inl ⟨_, _, _, _, _, rfl, h, (by show az_ll L2 q 2 pc S σ = _; unfold az_ll; rw [az_leb_at h hx (fun _ e => by cases e)]; rfl)⟩
    · cases hst
  case aload_n q =>
    replace hst : az_la L q.val 1 pc S σ = _ := hst
    unfold az_la at hst
    split at hst
    · rename_i hx
      cases hst
      exact Or.inl ⟨_, _, _, _, _, rfl, h, (by show az_la L2 q.val 1 pc S σ = _; unfold az_la; rw [az_leb_at h hx (fun _ e => by cases e)]; rfl)⟩
    · rename_i hx
      cases hst
      exact Or.inl ⟨_, _, _, _, _, rfl, h, (by show az_la L2 q.val 1 pc S σ = _; unfold az_la; rw [az_leb_at h hx (fun _ e => by cases e)]; rfl)⟩
    · cases hst
  case aload q =>
    replace hst : az_la L q 2 pc S σ = _ := hst
    unfold az_la at hst
    split at hst
    · rename_i hx
      cases hst
      exact Or.inl ⟨_, _, _, _, _, rfl, h, (by show az_la L2 q 2 pc S σ = _; unfold az_la; rw [az_leb_at h hx (fun _ e => by cases e)]; rfl)⟩
    · rename_i hx
      cases hst
      exact Or.inl ⟨_, _, _, _, _, rfl, h, (by show az_la L2 q 2 pc S σ = _; unfold az_la; rw [az_leb_at h hx (fun _ e => by cases e)]; rfl)⟩
    · cases hst
  case istore_n q =>
    replace hst : az_wi L q.val 1 pc S σ = _ := hst
    unfold az_wi at hst
    split at hst
    · split at hst
      · rename_i hx
        cases hst
        obtain ⟨L2', g1, g2⟩ := az_leb_st (fun _ e => by cases e) h hx
        refine Or.inl ⟨_, _, L2', _, _, rfl, g2, ?_⟩
        rw [show ∀ T, az_i sh ex d rt (Instr.istore_n q, a, b, z) pc L2 T σ = az_wi L2 q.val 1 pc T σ from fun _ => rfl]
        unfold az_wi
        dsimp only
        rw [g1]
        rfl
      · cases hst
    · cases hst
  case istore q =>
    replace hst : az_wi L q 2 pc S σ = _ := hst
    unfold az_wi at hst
    split at hst
    · split at hst
      · rename_i hx
        cases hst
        obtain ⟨L2', g1, g2⟩ := az_leb_st (fun _ e => by cases e) h hx
        refine Or.inl ⟨_, _, L2', _, _, rfl, g2, ?_⟩
        rw [show ∀ T, az_i sh ex d rt (Instr.istore q, a, b, z) pc L2 T σ = az_wi L2 q 2 pc T σ from fun _ => rfl]
        unfold az_wi
        dsimp only
        rw [g1]
        rfl
      · cases hst
    · cases hst
  case astore_n q =>
    replace hst : az_wa L q.val 1 pc S σ = _ := hst
    unfold az_wa at hst
    split at hst
    · split at hst
      · rename_i hx
        cases hst
        obtain ⟨L2', g1, g2⟩ := az_leb_st (fun _ e => by cases e) h hx
        refine Or.inl ⟨_, _, L2', _, _, rfl, g2, ?_⟩
        rw [show ∀ T, az_i sh ex d rt (Instr.astore_n q, a, b, z) pc L2 T σ = az_wa L2 q.val 1 pc T σ from fun _ => rfl]
        unfold az_wa
        dsimp only
        rw [g1]
        rfl
      · cases hst
    · split at hst
      · rename_i hx
        cases hst
        obtain ⟨L2', g1, g2⟩ := az_leb_st (fun _ e => by cases e) h hx
        refine Or.inl ⟨_, _, L2', _, _, rfl, g2, ?_⟩
        rw [show ∀ T, az_i sh ex d rt (Instr.astore_n q, a, b, z) pc L2 T σ = az_wa L2 q.val 1 pc T σ from fun _ => rfl]
        unfold az_wa
        dsimp only
        rw [g1]
        rfl
      · cases hst
    · cases hst
  case astore q =>
    replace hst : az_wa L q 2 pc S σ = _ := hst
    unfold az_wa at hst
    split at hst
    · split at hst
      · rename_i hx
        cases hst
        obtain ⟨L2', g1, g2⟩ := az_leb_st (fun _ e => by cases e) h hx
        refine Or.inl ⟨_, _, L2', _, _, rfl, g2, ?_⟩
        rw [show ∀ T, az_i sh ex d rt (Instr.astore q, a, b, z) pc L2 T σ = az_wa L2 q 2 pc T σ from fun _ => rfl]
        unfold az_wa
        dsimp only
        rw [g1]
        rfl
      · cases hst
    · split at hst
      · rename_i hx
        cases hst
        obtain ⟨L2', g1, g2⟩ := az_leb_st (fun _ e => by cases e) h hx
        refine Or.inl ⟨_, _, L2', _, _, rfl, g2, ?_⟩
        rw [show ∀ T, az_i sh ex d rt (Instr.astore q, a, b, z) pc L2 T σ = az_wa L2 q 2 pc T σ from fun _ => rfl]
        unfold az_wa
        dsimp only
        rw [g1]
        rfl
      · cases hst
    · cases hst
  case iinc q w =>
    replace hst : az_inc q w pc L S σ = _ := hst
    unfold az_inc at hst
    split at hst
    · rename_i hx
      split at hst
      · rename_i hy
        cases hst
        obtain ⟨L2', g1, g2⟩ := az_leb_st (fun _ e => by cases e) h hy
        refine Or.inl ⟨_, _, L2', _, _, rfl, g2, ?_⟩
        show az_inc q w pc L2 S σ = _
        unfold az_inc
        rw [az_leb_at h hx (fun _ e => by cases e)]
        dsimp only
        rw [g1]
        rfl
      · cases hst
    · cases hst
  all_goals exact gen trivial
theorem az_run_le {sh : az_H} {ex : az_X} : ∀ (n d k pc : Nat) (L L2 S : List Value) (σ : az_S) (r : Option Value × az_S), az_leb L L2 → az_run sh ex n d k pc L S σ = some r → az_run sh ex n d k pc L2 S σ = some r := by
  intro n
  induction n with
  | zero => intro d k pc L L2 S σ r _ h; simp [az_run] at h
  | succ n ih =>
    intro d k pc L L2 S σ r hL h
    unfold az_run at h ⊢
    cases hst : az_step sh ex d k pc L S σ with
    | none => rw [hst] at h; cases h
    | some r0 =>
      rw [hst] at h
      have g : (∃ pc' L' L2' S' σ', r0 = .inl (pc', L', S', σ') ∧ az_leb L' L2' ∧ az_step sh ex d k pc L2 S σ = some (.inl (pc', L2', S', σ'))) ∨ (∃ x, r0 = .inr x ∧ az_step sh ex d k pc L2 S σ = some (.inr x)) := by
        unfold az_step at hst ⊢
        split at hst
        · exact az_i_le hL hst
        · cases hst
      rcases g with ⟨pc', L', L2', S', σ', rfl, g1, g2⟩ | ⟨x, rfl, g2⟩
      · rw [g2]
        exact ih _ _ _ _ _ _ _ _ g1 h
      · rw [g2]
        cases x with
        | inl y => exact h
        | inr y =>
          dsimp only at h ⊢
          split at h
          · cases h
          · split at h
            · cases h
            · rename_i hc
              exact ih _ _ _ _ _ _ _ _ hL h
theorem az_E.forget {sh : az_H} {ex : az_X} {d k pc : Nat} {L L2 S : List Value} {σ : az_S} {Q : Option Value → az_S → Prop} (hL : az_leb L L2) (h : az_E sh ex d k pc L S σ Q) : az_E sh ex d k pc L2 S σ Q := by
  obtain ⟨n, v, s, h1, h2⟩ := h
  exact ⟨n, v, s, az_run_le _ _ _ _ _ _ _ _ _ hL h1, h2⟩

/-- the words that stay -/
def lw_g : List Cond := lw_tbl.filter goodWord
theorem az_w_in {z : Nat} {c : Cond} (h : az_w z c = true) : c ∈ lw_g := by
  unfold az_w at h
  rw [Bool.and_eq_true] at h
  exact List.mem_filter.mpr ⟨List.mem_of_getElem? (of_decide_eq_true h.2), h.1⟩
theorem az_fx_0 : Cond.instanceMethod objectInit ∈ lw_g := az_w_in (z := 102) (by decide +kernel)
theorem az_fx_1 : Cond.code objectInit ⟨#[0xb1]⟩ 1 none ∈ lw_g := az_w_in (z := 103) (by decide +kernel)
theorem az_fx_2 : Cond.native arraycopyName ∈ lw_g := az_w_in (z := 553) (by decide +kernel)
theorem az_fx_3 : Cond.static arraycopyName ∈ lw_g := az_w_in (z := 552) (by decide +kernel)
theorem az_fx_4 : Cond.initialized "java/lang/System" ∈ lw_g := az_w_in (z := 92) (by decide +kernel)
theorem az_fx_5 : Cond.initialized "java/lang/Math" ∈ lw_g := az_w_in (z := 93) (by decide +kernel)
theorem az_fx_6 : Cond.static Lib.Math.max.name ∈ lw_g := az_w_in (z := 659) (by decide +kernel)
theorem az_fx_7 : Cond.code Lib.Math.max.name Lib.Math.max.code 2 (some .int) ∈ lw_g := az_w_in (z := 660) (by decide +kernel)
theorem az_fx_8 : Cond.static Lib.Math.min.name ∈ lw_g := az_w_in (z := 665) (by decide +kernel)
theorem az_fx_9 : Cond.code Lib.Math.min.name Lib.Math.min.code 2 (some .int) ∈ lw_g := az_w_in (z := 666) (by decide +kernel)
theorem az_fx_10 : Cond.arrayClass .int ∈ lw_g := az_w_in (z := 167) (by decide +kernel)
theorem az_fx_11 : Cond.arrayClass .long ∈ lw_g := az_w_in (z := 419) (by decide +kernel)
theorem az_fx_12 : Cond.arrayClass .boolean ∈ lw_g := az_w_in (z := 1209) (by decide +kernel)
def az_clc (q : vw_C) : Bool := (u_ws q.1 q.2.1 q.2.2).all (fun w => goodWord w && decide (w ∈ lw_tbl)) && (List.range q.2.2).all (fun a => (parseFieldDescriptor (q.2.1 a).2.2.1).isSome && (List.range q.2.2).all fun b => a == b || decide ((q.2.1 a).2.1 ≠ (q.2.1 b).2.1)) && decide (Cond.instantiable q.1 q.2.2 ∈ lw_tbl) && decide (Cond.initialized q.1 ∈ lw_tbl)
theorem az_clck : vwCl.all az_clc = true := by decide +kernel
abbrev az_tyf (T : u_T) (k : Nat) : FieldType := (parseFieldDescriptor (T k).2.2.1).getD .int
theorem az_cl_ok {ci : Nat} {q : vw_C} (h : vwCl[ci]? = some q) : (∀ w ∈ u_ws q.1 q.2.1 q.2.2, w ∈ lw_g) ∧ (∀ k, k < q.2.2 → parseFieldDescriptor (q.2.1 k).2.2.1 = some (az_tyf q.2.1 k)) ∧ (∀ a, a < q.2.2 → ∀ b, b < q.2.2 → a ≠ b → (q.2.1 a).2.1 ≠ (q.2.1 b).2.1) ∧ Cond.instantiable q.1 q.2.2 ∈ lw_g ∧ Cond.initialized q.1 ∈ lw_g := by
  have h1 := List.all_eq_true.mp az_clck q (List.mem_of_getElem? h)
  unfold az_clc at h1
  simp only [Bool.and_eq_true, List.all_eq_true, decide_eq_true_eq, List.mem_range, Bool.or_eq_true, beq_iff_eq] at h1
  obtain ⟨⟨⟨g1, g2⟩, g3⟩, g4⟩ := h1
  refine ⟨fun w hw => List.mem_filter.mpr ⟨(g1 w hw).2, (g1 w hw).1⟩, fun k hk => ?_, fun a ha b hb hab => ?_, List.mem_filter.mpr ⟨g3, rfl⟩, List.mem_filter.mpr ⟨g4, rfl⟩⟩
  · have := (g2 k hk).1
    obtain ⟨x, hx⟩ := Option.isSome_iff_exists.mp this
    unfold az_tyf
    rw [hx]
    rfl
  · rcases (g2 a ha).2 b hb with e | e
    · exact absurd e hab
    · exact e

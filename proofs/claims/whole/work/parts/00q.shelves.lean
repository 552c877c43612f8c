/-! row, put, element, shift, taken -/
def az_own (j : Nat) : Int32 := (([1, 10, 11, 2, 20, 0, 0, 0, 0, 30, 0, 0, 0, 41, 40, 0, 0, 0, 50, 0, 0, 0, 0, 60, 70, 0, 0, 0, 0, 80, 0, 81] : List Int32)[j]?).getD 0
def az_abv (j : Nat) : Int32 := (([-1, 0, 0, 2, 1, 3, 0, 4] : List Int32)[j]?).getD 0
def az_ex (L : Nat) (xs : Nat → Int32) : az_X := fun r => if r = 0 then (L, xs) else if r = 1 then (32, az_own) else (8, az_abv)
theorem sh_31 (s : Nat) : 61 + 2 * s + 1 = 62 + 2 * s := by omega
theorem sh_ref {I : Nat → Nat → Int32} {J : Nat → Nat → Int64} (h12 : rl_shf I J) {s : Nat} (hs : s < 6) (a : Int32) :
    (∃ x, x ≠ 0 ∧ rs_Sh_refusalAt (61 + 2 * s) I a = some x ∧ rs_M_refusal I (nI s) a = some x) ∨
    (∃ t m i, sh_row I J s t m ∧ i < m ∧ a = nI i ∧ rs_Sh_refusalAt (61 + 2 * s) I a = some 0 ∧ rs_M_refusal I (nI s) a = some 0) := by
  unfold rs_Sh_refusalAt rs_M_refusal
  rcases h12 s hs with ⟨e1, e2, e3⟩ | ⟨q, e1, e2, e3, e4, e5⟩ | ⟨t, m, h⟩
  · exact Or.inl ⟨-nI 11, by decide, by simp (disch := omega) only [bl_lit, lgl, lgg, lgl0, lgg0, lglm, lggm, az_us, az_un, az_ue, az_urn, az_ure, bz_lit, nI_leI, nI_ltI, nI_eq, nI_clamp, nI_add, pk_sub, pk_mul, bz_nlt, bz_nle, bz_ltn, bz_len, bz_neq, bz_eqn, bz_nn, ↓reduceIte, Bool.false_eq_true, if_pos, if_neg, e1, e2], by simp (disch := omega) only [bl_lit, lgl, lgg, lgl0, lgg0, lglm, lggm, az_us, az_un, az_ue, az_urn, az_ure, bz_lit, nI_leI, nI_ltI, nI_eq, nI_clamp, nI_add, pk_sub, pk_mul, bz_nlt, bz_nle, bz_ltn, bz_len, bz_neq, bz_eqn, bz_nn, ↓reduceIte, Bool.false_eq_true, if_pos, if_neg, e3]⟩
  · exact Or.inl ⟨-nI 12, by decide, by simp (disch := omega) only [bl_lit, lgl, lgg, lgl0, lgg0, lglm, lggm, az_us, az_un, az_ue, az_urn, az_ure, bz_lit, nI_leI, nI_ltI, nI_eq, nI_clamp, nI_add, pk_sub, pk_mul, bz_nlt, bz_nle, bz_ltn, bz_len, bz_neq, bz_eqn, bz_nn, ↓reduceIte, Bool.false_eq_true, if_pos, if_neg, e1, e2], by simp (disch := omega) only [bl_lit, lgl, lgg, lgl0, lgg0, lglm, lggm, az_us, az_un, az_ue, az_urn, az_ure, bz_lit, nI_leI, nI_ltI, nI_eq, nI_clamp, nI_add, pk_sub, pk_mul, bz_nlt, bz_nle, bz_ltn, bz_len, bz_neq, bz_eqn, bz_nn, ↓reduceIte, Bool.false_eq_true, if_pos, if_neg, e3]⟩
  · have h' := h
    obtain ⟨t1, t2, e1, e2, e3, e4, e5, e6⟩ := h'
    rcases ix a m (by omega) with x | ⟨x, y⟩ | ⟨i, hi, rfl⟩
    · exact Or.inl ⟨-nI 13, by decide, by simp (disch := omega) only [bl_lit, lgl, lgg, lgl0, lgg0, lglm, lggm, az_us, az_un, az_ue, az_urn, az_ure, bz_lit, nI_leI, nI_ltI, nI_eq, nI_clamp, nI_add, pk_sub, pk_mul, bz_nlt, bz_nle, bz_ltn, bz_len, bz_neq, bz_eqn, bz_nn, ↓reduceIte, Bool.false_eq_true, if_pos, if_neg, e1, e2, x], by simp (disch := omega) only [bl_lit, lgl, lgg, lgl0, lgg0, lglm, lggm, az_us, az_un, az_ue, az_urn, az_ure, bz_lit, nI_leI, nI_ltI, nI_eq, nI_clamp, nI_add, pk_sub, pk_mul, bz_nlt, bz_nle, bz_ltn, bz_len, bz_neq, bz_eqn, bz_nn, ↓reduceIte, Bool.false_eq_true, if_pos, if_neg, e4, x]⟩
    · have y2 : nI m ≤ a := by
        obtain ⟨j, hj, rfl⟩ := nI_of (show ¬ a < 0 from x)
        rw [Int32.lt_iff_toInt_lt, pk_sub_toInt (by omega) (by omega), nI_toInt hj] at y
        exact nI_le (by omega) hj
      exact Or.inl ⟨-nI 13, by decide, by simp (disch := omega) only [bl_lit, lgl, lgg, lgl0, lgg0, lglm, lggm, az_us, az_un, az_ue, az_urn, az_ure, bz_lit, nI_leI, nI_ltI, nI_eq, nI_clamp, nI_add, pk_sub, pk_mul, bz_nlt, bz_nle, bz_ltn, bz_len, bz_neq, bz_eqn, bz_nn, ↓reduceIte, Bool.false_eq_true, if_pos, if_neg, e1, e2, e3, x, y], by simp (disch := omega) only [bl_lit, lgl, lgg, lgl0, lgg0, lglm, lggm, az_us, az_un, az_ue, az_urn, az_ure, bz_lit, nI_leI, nI_ltI, nI_eq, nI_clamp, nI_add, pk_sub, pk_mul, bz_nlt, bz_nle, bz_ltn, bz_len, bz_neq, bz_eqn, bz_nn, ↓reduceIte, Bool.false_eq_true, if_pos, if_neg, e4, e5, x, y2]⟩
    · exact Or.inr ⟨t, m, i, h, hi, rfl, by simp (disch := omega) only [bl_lit, lgl, lgg, lgl0, lgg0, lglm, lggm, az_us, az_un, az_ue, az_urn, az_ure, bz_lit, nI_leI, nI_ltI, nI_eq, nI_clamp, nI_add, pk_sub, pk_mul, bz_nlt, bz_nle, bz_ltn, bz_len, bz_neq, bz_eqn, bz_nn, ↓reduceIte, Bool.false_eq_true, if_pos, if_neg, e1, e2, e3], by simp (disch := omega) only [bl_lit, lgl, lgg, lgl0, lgg0, lglm, lggm, az_us, az_un, az_ue, az_urn, az_ure, bz_lit, nI_leI, nI_ltI, nI_eq, nI_clamp, nI_add, pk_sub, pk_mul, bz_nlt, bz_nle, bz_ltn, bz_len, bz_neq, bz_eqn, bz_nn, ↓reduceIte, Bool.false_eq_true, if_pos, if_neg, e4, e5]⟩
theorem sh_bits {I : Nat → Nat → Int32} {J : Nat → Nat → Int64} {s t m : Nat} (hs : s < 6) (h : sh_row I J s t m) (v : Int64) : ∃ u, rs_Sh_lowestBits (61 + 2 * s) I v = some u ∧ rs_M_asSort (I 96 s - 50) v = some u ∧ (t = 0 → -128 ≤ u.toInt ∧ u.toInt ≤ 127) ∧ (t = 1 → -32768 ≤ u.toInt ∧ u.toInt ≤ 32767) := by
  obtain ⟨t1, t2, e1, e2, e3, e4, e5, e6⟩ := h
  unfold rs_Sh_lowestBits rs_M_asSort
  rw [e4, e2, show nI (50 + t) - 50 = nI t from by rw [show (50 : Int32) = nI 50 from rfl, pk_sub (by omega), Nat.add_sub_cancel_left]]
  have h5 : t = 0 ∨ t = 1 ∨ t = 2 ∨ t = 3 ∨ t = 4 := by omega
  rcases h5 with rfl | rfl | rfl | rfl | rfl
  · refine ⟨v.toInt32.toInt8.toInt32.toInt64, by simp (disch := omega) only [bl_lit, lgl, lgg, lgl0, lgg0, lglm, lggm, az_us, az_un, az_ue, az_urn, az_ure, bz_lit, nI_leI, nI_ltI, nI_eq, nI_clamp, nI_add, pk_sub, pk_mul, bz_nlt, bz_nle, bz_ltn, bz_len, bz_neq, bz_eqn, bz_nn, ↓reduceIte, Bool.false_eq_true, if_pos, if_neg], by simp (disch := omega) only [bl_lit, lgl, lgg, lgl0, lgg0, lglm, lggm, az_us, az_un, az_ue, az_urn, az_ure, bz_lit, nI_leI, nI_ltI, nI_eq, nI_clamp, nI_add, pk_sub, pk_mul, bz_nlt, bz_nle, bz_ltn, bz_len, bz_neq, bz_eqn, bz_nn, ↓reduceIte, Bool.false_eq_true, if_pos, if_neg], fun _ => ?_, fun q => by omega⟩
    rw [Int32.toInt_toInt64, Int8.toInt_toInt32]
    have a := Int8.le_toInt v.toInt32.toInt8
    have b := Int8.toInt_lt v.toInt32.toInt8
    omega
  · refine ⟨v.toInt32.toInt16.toInt32.toInt64, by simp (disch := omega) only [bl_lit, lgl, lgg, lgl0, lgg0, lglm, lggm, az_us, az_un, az_ue, az_urn, az_ure, bz_lit, nI_leI, nI_ltI, nI_eq, nI_clamp, nI_add, pk_sub, pk_mul, bz_nlt, bz_nle, bz_ltn, bz_len, bz_neq, bz_eqn, bz_nn, ↓reduceIte, Bool.false_eq_true, if_pos, if_neg], by simp (disch := omega) only [bl_lit, lgl, lgg, lgl0, lgg0, lglm, lggm, az_us, az_un, az_ue, az_urn, az_ure, bz_lit, nI_leI, nI_ltI, nI_eq, nI_clamp, nI_add, pk_sub, pk_mul, bz_nlt, bz_nle, bz_ltn, bz_len, bz_neq, bz_eqn, bz_nn, ↓reduceIte, Bool.false_eq_true, if_pos, if_neg], fun q => by omega, fun _ => ?_⟩
    rw [Int32.toInt_toInt64, Int16.toInt_toInt32]
    have a := Int16.le_toInt v.toInt32.toInt16
    have b := Int16.toInt_lt v.toInt32.toInt16
    omega
  · exact ⟨v.toInt32.toInt64, by simp (disch := omega) only [bl_lit, lgl, lgg, lgl0, lgg0, lglm, lggm, az_us, az_un, az_ue, az_urn, az_ure, bz_lit, nI_leI, nI_ltI, nI_eq, nI_clamp, nI_add, pk_sub, pk_mul, bz_nlt, bz_nle, bz_ltn, bz_len, bz_neq, bz_eqn, bz_nn, ↓reduceIte, Bool.false_eq_true, if_pos, if_neg], by simp (disch := omega) only [bl_lit, lgl, lgg, lgl0, lgg0, lglm, lggm, az_us, az_un, az_ue, az_urn, az_ure, bz_lit, nI_leI, nI_ltI, nI_eq, nI_clamp, nI_add, pk_sub, pk_mul, bz_nlt, bz_nle, bz_ltn, bz_len, bz_neq, bz_eqn, bz_nn, ↓reduceIte, Bool.false_eq_true, if_pos, if_neg], fun q => by omega, fun q => by omega⟩
  · exact ⟨v, by simp (disch := omega) only [bl_lit, lgl, lgg, lgl0, lgg0, lglm, lggm, az_us, az_un, az_ue, az_urn, az_ure, bz_lit, nI_leI, nI_ltI, nI_eq, nI_clamp, nI_add, pk_sub, pk_mul, bz_nlt, bz_nle, bz_ltn, bz_len, bz_neq, bz_eqn, bz_nn, ↓reduceIte, Bool.false_eq_true, if_pos, if_neg], by simp (disch := omega) only [bl_lit, lgl, lgg, lgl0, lgg0, lglm, lggm, az_us, az_un, az_ue, az_urn, az_ure, bz_lit, nI_leI, nI_ltI, nI_eq, nI_clamp, nI_add, pk_sub, pk_mul, bz_nlt, bz_nle, bz_ltn, bz_len, bz_neq, bz_eqn, bz_nn, ↓reduceIte, Bool.false_eq_true, if_pos, if_neg], fun q => by omega, fun q => by omega⟩
  · by_cases z : lg_cmp v (lN 0) = nI 0
    · exact ⟨lN 0, by simp (disch := omega) only [bl_lit, lgl, lgg, lgl0, lgg0, lglm, lggm, az_us, az_un, az_ue, az_urn, az_ure, bz_lit, nI_leI, nI_ltI, nI_eq, nI_clamp, nI_add, pk_sub, pk_mul, bz_nlt, bz_nle, bz_ltn, bz_len, bz_neq, bz_eqn, bz_nn, ↓reduceIte, Bool.false_eq_true, if_pos, if_neg, z], by simp (disch := omega) only [bl_lit, lgl, lgg, lgl0, lgg0, lglm, lggm, az_us, az_un, az_ue, az_urn, az_ure, bz_lit, nI_leI, nI_ltI, nI_eq, nI_clamp, nI_add, pk_sub, pk_mul, bz_nlt, bz_nle, bz_ltn, bz_len, bz_neq, bz_eqn, bz_nn, ↓reduceIte, Bool.false_eq_true, if_pos, if_neg, z], fun q => by omega, fun q => by omega⟩
    · exact ⟨lN 1, by simp (disch := omega) only [bl_lit, lgl, lgg, lgl0, lgg0, lglm, lggm, az_us, az_un, az_ue, az_urn, az_ure, bz_lit, nI_leI, nI_ltI, nI_eq, nI_clamp, nI_add, pk_sub, pk_mul, bz_nlt, bz_nle, bz_ltn, bz_len, bz_neq, bz_eqn, bz_nn, ↓reduceIte, Bool.false_eq_true, if_pos, if_neg, z], by simp (disch := omega) only [bl_lit, lgl, lgg, lgl0, lgg0, lglm, lggm, az_us, az_un, az_ue, az_urn, az_ure, bz_lit, nI_leI, nI_ltI, nI_eq, nI_clamp, nI_add, pk_sub, pk_mul, bz_nlt, bz_nle, bz_ltn, bz_len, bz_neq, bz_eqn, bz_nn, ↓reduceIte, Bool.false_eq_true, if_pos, if_neg, z], fun q => by omega, fun q => by omega⟩
section
variable {I : Nat → Nat → Int32} {J : Nat → Nat → Int64} {rl rd : Nat}
theorem rl_J {J' : Nat → Nat → Int64} (h : Rel I J rl rd) (g : rl_shf I J') : Rel I J' rl rd := by
  obtain ⟨h1, h2, h3, h4, h5, h6, h7, h8, h9, h10, h11, h12⟩ := h
  exact ⟨h1, h2, h3, h4, h5, h6, h7, h8, h9, h10, h11, g⟩
/-- other shelves stay -/
theorem sh_oth {I' : Nat → Nat → Int32} {J' : Nat → Nat → Int64} {s : Nat} (h12 : rl_shf I J) (hI : ∀ s', s' < 6 → s' ≠ s → (∀ k, I' (61 + 2 * s') k = I (61 + 2 * s') k) ∧ I' 96 s' = I 96 s' ∧ I' 97 s' = I 97 s') (h55 : I' 55 1 = I 55 1)
    (hJ : ∀ s', s' < 6 → s' ≠ s → ∀ j, j < 60 → J' (62 + 2 * s') j = J (62 + 2 * s') j ∧ J' 98 (60 * s' + j) = J 98 (60 * s' + j))
    (hs : sh_non I' s ∨ (∃ b, sh_hrt I' s b) ∨ ∃ t m, sh_row I' J' s t m) : rl_shf I' J' := by
  intro s' hs'
  by_cases e : s' = s
  · subst e; exact hs
  · obtain ⟨a1, a2, a3⟩ := hI s' hs' e
    rcases h12 s' hs' with ⟨e1, e2, e3⟩ | ⟨q, e1, e2, e3, e4, e5⟩ | ⟨t, m, t1, t2, e1, e2, e3, e4, e5, e6⟩
    · exact Or.inl ⟨by rw [a1]; exact e1, by rw [a1]; exact e2, by rw [a2]; exact e3⟩
    · exact Or.inr (Or.inl ⟨q, by rw [a1]; exact e1, by rw [a1]; exact e2, by rw [a2]; exact e3, by rw [h55]; exact e4, e5⟩)
    · refine Or.inr (Or.inr ⟨t, m, t1, t2, by rw [a1]; exact e1, by rw [a1]; exact e2, by rw [a1]; exact e3, by rw [a2]; exact e4, by rw [a3]; exact e5, fun j hj => ?_⟩)
      obtain ⟨b1, b2⟩ := hJ s' hs' e j hj
      rw [b1, b2]
      exact e6 j hj
theorem mt_element (h : Rel I J rl rd) (a b : Int32) : ∃ v, rs_X_element I J a b = some v ∧ rs_M_element I J a b = some v := by
  unfold rs_X_element rs_M_element rs_X_element_13 rs_X_element_30
  rcases ixc a 5 (by omega) with x | ⟨x, y⟩ | ⟨s, hs, rfl⟩
  · refine ⟨-9223372036854775808, by simp (disch := omega) only [bl_lit, lgl, lgg, lgl0, lgg0, lglm, lggm, az_us, az_un, az_ue, az_urn, az_ure, bz_lit, nI_leI, nI_ltI, nI_eq, nI_clamp, nI_add, pk_sub, pk_mul, bz_nlt, bz_nle, bz_ltn, bz_len, bz_neq, bz_eqn, bz_nn, ↓reduceIte, Bool.false_eq_true, if_pos, if_neg, x], ?_⟩
    unfold rs_M_refusal
    simp (disch := omega) only [bl_lit, lgl, lgg, lgl0, lgg0, lglm, lggm, az_us, az_un, az_ue, az_urn, az_ure, bz_lit, nI_leI, nI_ltI, nI_eq, nI_clamp, nI_add, pk_sub, pk_mul, bz_nlt, bz_nle, bz_ltn, bz_len, bz_neq, bz_eqn, bz_nn, ↓reduceIte, Bool.false_eq_true, if_pos, if_neg, x]
  · refine ⟨-9223372036854775808, by simp (disch := omega) only [bl_lit, lgl, lgg, lgl0, lgg0, lglm, lggm, az_us, az_un, az_ue, az_urn, az_ure, bz_lit, nI_leI, nI_ltI, nI_eq, nI_clamp, nI_add, pk_sub, pk_mul, bz_nlt, bz_nle, bz_ltn, bz_len, bz_neq, bz_eqn, bz_nn, ↓reduceIte, Bool.false_eq_true, if_pos, if_neg, x, y], ?_⟩
    unfold rs_M_refusal
    simp (disch := omega) only [bl_lit, lgl, lgg, lgl0, lgg0, lglm, lggm, az_us, az_un, az_ue, az_urn, az_ure, bz_lit, nI_leI, nI_ltI, nI_eq, nI_clamp, nI_add, pk_sub, pk_mul, bz_nlt, bz_nle, bz_ltn, bz_len, bz_neq, bz_eqn, bz_nn, ↓reduceIte, Bool.false_eq_true, if_pos, if_neg, x, y]
  · rcases sh_ref h.2.2.2.2.2.2.2.2.2.2.2 (s := s) (by omega) b with ⟨x, x0, q1, q2⟩ | ⟨t, m, i, hr, hi, rfl, q1, q2⟩
    · refine ⟨-9223372036854775808, ?_, ?_⟩
      · simp (disch := omega) only [bl_lit, lgl, lgg, lgl0, lgg0, lglm, lggm, az_us, az_un, az_ue, az_urn, az_ure, bz_lit, nI_leI, nI_ltI, nI_eq, nI_clamp, nI_add, pk_sub, pk_mul, bz_nlt, bz_nle, bz_ltn, bz_len, bz_neq, bz_eqn, bz_nn, ↓reduceIte, Bool.false_eq_true, if_pos, if_neg, q1]
        rw [if_neg (show ¬ x = nI 0 from x0)]
      · rw [q2]
        (try dsimp only)
        rw [if_neg x0]
    · have hr' := hr
      obtain ⟨t1, t2, e1, e2, e3, e4, e5, e6⟩ := hr'
      refine ⟨J (62 + 2 * s) i, ?_, ?_⟩
      · simp (disch := omega) only [bl_lit, lgl, lgg, lgl0, lgg0, lglm, lggm, az_us, az_un, az_ue, az_urn, az_ure, bz_lit, nI_leI, nI_ltI, nI_eq, nI_clamp, nI_add, pk_sub, pk_mul, bz_nlt, bz_nle, bz_ltn, bz_len, bz_neq, bz_eqn, bz_nn, ↓reduceIte, Bool.false_eq_true, if_pos, if_neg, q1, sh_31]
      · simp (disch := omega) only [bl_lit, lgl, lgg, lgl0, lgg0, lglm, lggm, az_us, az_un, az_ue, az_urn, az_ure, bz_lit, nI_leI, nI_ltI, nI_eq, nI_clamp, nI_add, pk_sub, pk_mul, bz_nlt, bz_nle, bz_ltn, bz_len, bz_neq, bz_eqn, bz_nn, ↓reduceIte, Bool.false_eq_true, if_pos, if_neg, q2]
        rw [(e6 i (by omega)).1]
theorem mt_put (h : Rel I J rl rd) (a b : Int32) (v : Int64) : ∃ x J1 J2, rs_X_put I J a b v = some (x, J1) ∧ rs_M_put I J1 a b v = some (x, J2) ∧ Rel I J2 rl rd := by
  unfold rs_X_put rs_M_put rs_X_put_15 rs_X_put_35 rs_X_put_45 rs_M_put_37
  rcases ixc a 5 (by omega) with x | ⟨x, y⟩ | ⟨s, hs, rfl⟩
  · refine ⟨-nI 1, J, J, by simp (disch := omega) only [bl_lit, lgl, lgg, lgl0, lgg0, lglm, lggm, az_us, az_un, az_ue, az_urn, az_ure, bz_lit, nI_leI, nI_ltI, nI_eq, nI_clamp, nI_add, pk_sub, pk_mul, bz_nlt, bz_nle, bz_ltn, bz_len, bz_neq, bz_eqn, bz_nn, ↓reduceIte, Bool.false_eq_true, if_pos, if_neg, x], ?_, h⟩
    unfold rs_M_refusal
    simp (disch := omega) only [bl_lit, lgl, lgg, lgl0, lgg0, lglm, lggm, az_us, az_un, az_ue, az_urn, az_ure, bz_lit, nI_leI, nI_ltI, nI_eq, nI_clamp, nI_add, pk_sub, pk_mul, bz_nlt, bz_nle, bz_ltn, bz_len, bz_neq, bz_eqn, bz_nn, ↓reduceIte, Bool.false_eq_true, if_pos, if_neg, x]
  · refine ⟨-nI 1, J, J, by simp (disch := omega) only [bl_lit, lgl, lgg, lgl0, lgg0, lglm, lggm, az_us, az_un, az_ue, az_urn, az_ure, bz_lit, nI_leI, nI_ltI, nI_eq, nI_clamp, nI_add, pk_sub, pk_mul, bz_nlt, bz_nle, bz_ltn, bz_len, bz_neq, bz_eqn, bz_nn, ↓reduceIte, Bool.false_eq_true, if_pos, if_neg, x, y], ?_, h⟩
    unfold rs_M_refusal
    simp (disch := omega) only [bl_lit, lgl, lgg, lgl0, lgg0, lglm, lggm, az_us, az_un, az_ue, az_urn, az_ure, bz_lit, nI_leI, nI_ltI, nI_eq, nI_clamp, nI_add, pk_sub, pk_mul, bz_nlt, bz_nle, bz_ltn, bz_len, bz_neq, bz_eqn, bz_nn, ↓reduceIte, Bool.false_eq_true, if_pos, if_neg, x, y]
  · have h12 := h.2.2.2.2.2.2.2.2.2.2.2
    rcases sh_ref h12 (s := s) (by omega) b with ⟨x, x0, q1, q2⟩ | ⟨t, m, i, hr, hi, rfl, q1, q2⟩
    · refine ⟨x, J, J, ?_, ?_, h⟩
      · simp (disch := omega) only [bl_lit, lgl, lgg, lgl0, lgg0, lglm, lggm, az_us, az_un, az_ue, az_urn, az_ure, bz_lit, nI_leI, nI_ltI, nI_eq, nI_clamp, nI_add, pk_sub, pk_mul, bz_nlt, bz_nle, bz_ltn, bz_len, bz_neq, bz_eqn, bz_nn, ↓reduceIte, Bool.false_eq_true, if_pos, if_neg, q1]
        rw [if_neg (show ¬ x = nI 0 from x0)]
      · rw [q2]
        (try dsimp only)
        rw [if_neg x0, if_neg x0]
    · obtain ⟨u, u1, u2, u3, u4⟩ := sh_bits (by omega) hr v
      have hr' := hr
      obtain ⟨t1, t2, e1, e2, e3, e4, e5, e6⟩ := hr'
      refine ⟨nI 1, az_u J (62 + 2 * s) i u, az_u (az_u J (62 + 2 * s) i u) 98 (60 * s + i) u, ?_, ?_, rl_J h (sh_oth (s := s) h12 (fun s' _ _ => ⟨fun _ => rfl, rfl, rfl⟩) rfl (fun s' hs' hne j hj => ⟨?_, ?_⟩) (Or.inr (Or.inr ⟨t, m, t1, t2, e1, e2, e3, e4, e5, fun j hj => ?_⟩)))⟩
      · simp (disch := omega) only [bl_lit, lgl, lgg, lgl0, lgg0, lglm, lggm, az_us, az_un, az_ue, az_urn, az_ure, bz_lit, nI_leI, nI_ltI, nI_eq, nI_clamp, nI_add, pk_sub, pk_mul, bz_nlt, bz_nle, bz_ltn, bz_len, bz_neq, bz_eqn, bz_nn, ↓reduceIte, Bool.false_eq_true, if_pos, if_neg, q1, u1, sh_31]
      · rw [q2]
        (try dsimp only)
        rw [nI_clamp (n := s) (by omega), u2]
        simp (disch := omega) only [bl_lit, lgl, lgg, lgl0, lgg0, lglm, lggm, az_us, az_un, az_ue, az_urn, az_ure, bz_lit, nI_leI, nI_ltI, nI_eq, nI_clamp, nI_add, pk_sub, pk_mul, bz_nlt, bz_nle, bz_ltn, bz_len, bz_neq, bz_eqn, bz_nn, ↓reduceIte, Bool.false_eq_true, if_pos, if_neg]
      · rw [az_un (by omega), az_un (by omega)]
      · rw [az_un (by omega), az_un (by omega)]
      · by_cases e : j = i
        · subst e
          have w1 : az_u (az_u J (62 + 2 * s) j u) 98 (60 * s + j) u (62 + 2 * s) j = u := by rw [az_un (by omega), az_us]
          rw [w1, az_us]
          exact ⟨rfl, u3, u4⟩
        · rw [az_un (by omega), az_un (by omega), az_un (by omega), az_un (by omega)]
          exact e6 j hj
theorem mt_row (h : Rel I J rl rd) (a b d : Int32) : ∃ x I1 J1 I2 J2, rs_X_row I J a b d = some (x, I1, J1) ∧ rs_M_row I1 J1 a b d = some (x, I2, J2) ∧ Rel I2 J2 rl rd := by
  unfold rs_X_row rs_M_row rs_X_row_37 rs_Sh_becomeRow rs_Sh_becomeEmpty
  rcases ixc a 5 (by omega) with x | ⟨x, y⟩ | ⟨s, hs, rfl⟩
  · exact ⟨-nI 1, I, J, I, J, by simp (disch := omega) only [bl_lit, lgl, lgg, lgl0, lgg0, lglm, lggm, az_us, az_un, az_ue, az_urn, az_ure, bz_lit, nI_leI, nI_ltI, nI_eq, nI_clamp, nI_add, pk_sub, pk_mul, bz_nlt, bz_nle, bz_ltn, bz_len, bz_neq, bz_eqn, bz_nn, ↓reduceIte, Bool.false_eq_true, if_pos, if_neg, x], by simp (disch := omega) only [bl_lit, lgl, lgg, lgl0, lgg0, lglm, lggm, az_us, az_un, az_ue, az_urn, az_ure, bz_lit, nI_leI, nI_ltI, nI_eq, nI_clamp, nI_add, pk_sub, pk_mul, bz_nlt, bz_nle, bz_ltn, bz_len, bz_neq, bz_eqn, bz_nn, ↓reduceIte, Bool.false_eq_true, if_pos, if_neg, x], h⟩
  · exact ⟨-nI 1, I, J, I, J, by simp (disch := omega) only [bl_lit, lgl, lgg, lgl0, lgg0, lglm, lggm, az_us, az_un, az_ue, az_urn, az_ure, bz_lit, nI_leI, nI_ltI, nI_eq, nI_clamp, nI_add, pk_sub, pk_mul, bz_nlt, bz_nle, bz_ltn, bz_len, bz_neq, bz_eqn, bz_nn, ↓reduceIte, Bool.false_eq_true, if_pos, if_neg, x, y], by simp (disch := omega) only [bl_lit, lgl, lgg, lgl0, lgg0, lglm, lggm, az_us, az_un, az_ue, az_urn, az_ure, bz_lit, nI_leI, nI_ltI, nI_eq, nI_clamp, nI_add, pk_sub, pk_mul, bz_nlt, bz_nle, bz_ltn, bz_len, bz_neq, bz_eqn, bz_nn, ↓reduceIte, Bool.false_eq_true, if_pos, if_neg, x, y], h⟩
  · rcases ixc b 4 (by omega) with x | ⟨x, y⟩ | ⟨t, ht, rfl⟩
    · exact ⟨-nI 1, I, J, I, J, by simp (disch := omega) only [bl_lit, lgl, lgg, lgl0, lgg0, lglm, lggm, az_us, az_un, az_ue, az_urn, az_ure, bz_lit, nI_leI, nI_ltI, nI_eq, nI_clamp, nI_add, pk_sub, pk_mul, bz_nlt, bz_nle, bz_ltn, bz_len, bz_neq, bz_eqn, bz_nn, ↓reduceIte, Bool.false_eq_true, if_pos, if_neg, x], by simp (disch := omega) only [bl_lit, lgl, lgg, lgl0, lgg0, lglm, lggm, az_us, az_un, az_ue, az_urn, az_ure, bz_lit, nI_leI, nI_ltI, nI_eq, nI_clamp, nI_add, pk_sub, pk_mul, bz_nlt, bz_nle, bz_ltn, bz_len, bz_neq, bz_eqn, bz_nn, ↓reduceIte, Bool.false_eq_true, if_pos, if_neg, x], h⟩
    · exact ⟨-nI 1, I, J, I, J, by simp (disch := omega) only [bl_lit, lgl, lgg, lgl0, lgg0, lglm, lggm, az_us, az_un, az_ue, az_urn, az_ure, bz_lit, nI_leI, nI_ltI, nI_eq, nI_clamp, nI_add, pk_sub, pk_mul, bz_nlt, bz_nle, bz_ltn, bz_len, bz_neq, bz_eqn, bz_nn, ↓reduceIte, Bool.false_eq_true, if_pos, if_neg, x, y], by simp (disch := omega) only [bl_lit, lgl, lgg, lgl0, lgg0, lglm, lggm, az_us, az_un, az_ue, az_urn, az_ure, bz_lit, nI_leI, nI_ltI, nI_eq, nI_clamp, nI_add, pk_sub, pk_mul, bz_nlt, bz_nle, bz_ltn, bz_len, bz_neq, bz_eqn, bz_nn, ↓reduceIte, Bool.false_eq_true, if_pos, if_neg, x, y], h⟩
    · by_cases d1 : d ≤ nI 60
      · by_cases d0 : nI 0 ≤ d
        · obtain ⟨n, hn, rfl⟩ := nI_of (show ¬ d < 0 from fun q => by rw [Int32.lt_iff_toInt_lt] at q; rw [Int32.le_iff_toInt_le] at d0; have : (nI 0).toInt = (0 : Int32).toInt := rfl; omega)
          rw [nI_leI hn (by omega)] at d1
          have loop : ∀ (I2 : Nat → Nat → Int32) (J1 : Nat → Nat → Int64), ∃ x, rs_M_row_57 I2 J1 (nI s) (nI (60 * s)) = some x ∧ ∃ J2, x = (nI 1, I2, J2) ∧ (∀ r k, r ≠ 98 ∨ k < 60 * s ∨ 60 * s + 60 ≤ k → J2 r k = J1 r k) ∧ ∀ j, j < 60 → J2 98 (60 * s + j) = 0 := by
            intro I2 J1
            unfold rs_M_row_57
            refine az_for0 (fun k (z : Int32 × (Nat → Nat → Int64)) => z.1 = nI (60 * s + k) ∧ (∀ r k, r ≠ 98 ∨ k < 60 * s ∨ 60 * s + 60 ≤ k → z.2 r k = J1 r k) ∧ ∀ j, j < k → z.2 98 (60 * s + j) = 0) 60 (by omega) ⟨rfl, fun _ _ _ => rfl, fun j hj => absurd hj (Nat.not_lt_zero j)⟩ ?_ ?_
            · intro k z hk hz
              obtain ⟨v, J3⟩ := z
              obtain ⟨e, g1, g2⟩ := hz
              (try dsimp only at e g1 g2)
              subst e
              show ∃ o, rs_M_row_57_b I2 (nI s) (nI (60 * s + k)) J3 = some o ∧ _
              unfold rs_M_row_57_b
              refine az_nxt (nI (60 * s + (k + 1)), az_u J3 98 (60 * s + k) 0) ?_ ⟨rfl, ?_, ?_⟩
              · simp (disch := omega) only [bl_lit, lgl, lgg, lgl0, lgg0, lglm, lggm, az_us, az_un, az_ue, az_urn, az_ure, bz_lit, nI_leI, nI_ltI, nI_eq, nI_clamp, nI_add, pk_sub, pk_mul, bz_nlt, bz_nle, bz_ltn, bz_len, bz_neq, bz_eqn, bz_nn, ↓reduceIte, Bool.false_eq_true, if_pos, if_neg]
                rw [Nat.add_assoc]
              · intro r k' q
                (try dsimp only)
                rw [az_un (by omega)]
                exact g1 r k' q
              · intro j hj
                (try dsimp only)
                by_cases e : j = k
                · subst e; exact az_us
                · rw [az_un (by omega)]; exact g2 j (by omega)
            · intro z hz
              obtain ⟨v, J3⟩ := z
              obtain ⟨e, g1, g2⟩ := hz
              (try dsimp only at e g1 g2)
              subst e
              refine ⟨(nI 1, I2, J3), ?_, J3, rfl, g1, g2⟩
              show rs_M_row_57_b I2 (nI s) (nI (60 * s + 60)) J3 = _
              unfold rs_M_row_57_b
              simp (disch := omega) only [bl_lit, lgl, lgg, lgl0, lgg0, lglm, lggm, az_us, az_un, az_ue, az_urn, az_ure, bz_lit, nI_leI, nI_ltI, nI_eq, nI_clamp, nI_add, pk_sub, pk_mul, bz_nlt, bz_nle, bz_ltn, bz_len, bz_neq, bz_eqn, bz_nn, ↓reduceIte, Bool.false_eq_true, if_pos, if_neg]
          have g := h
          obtain ⟨h1, h2, h3, h4, h5, h6, h7, h8, h9, h10, h11, h12⟩ := g
          have hf : az_fr (fun r k => r = 61 + 2 * s ∨ ((r = 96 ∨ r = 97) ∧ k = s)) I (az_u (az_u (az_u (az_u (az_u (az_u (az_u I (61 + 2 * s) 0 (-nI 1)) (61 + 2 * s) 1 (-nI 1)) (61 + 2 * s) 2 (nI 0)) (61 + 2 * s) 1 (nI t)) (61 + 2 * s) 2 (nI n)) 96 s (nI (50 + t))) 97 s (nI n)) := (by refine (((((((az_fr.refl.u ?_).u ?_).u ?_).u ?_).u ?_).u ?_).u ?_) <;> (try dsimp only) <;> omega)
          obtain ⟨x, r2, J2, rfl, j1, j2⟩ := loop (az_u (az_u (az_u (az_u (az_u (az_u (az_u I (61 + 2 * s) 0 (-nI 1)) (61 + 2 * s) 1 (-nI 1)) (61 + 2 * s) 2 (nI 0)) (61 + 2 * s) 1 (nI t)) (61 + 2 * s) 2 (nI n)) 96 s (nI (50 + t))) 97 s (nI n)) (az_ur J (62 + 2 * s) (az_fill 60 (lN 0) (J (62 + 2 * s))))
          refine ⟨nI 1, az_u (az_u (az_u (az_u (az_u I (61 + 2 * s) 0 (-nI 1)) (61 + 2 * s) 1 (-nI 1)) (61 + 2 * s) 2 (nI 0)) (61 + 2 * s) 1 (nI t)) (61 + 2 * s) 2 (nI n), az_ur J (62 + 2 * s) (az_fill 60 (lN 0) (J (62 + 2 * s))), az_u (az_u (az_u (az_u (az_u (az_u (az_u I (61 + 2 * s) 0 (-nI 1)) (61 + 2 * s) 1 (-nI 1)) (61 + 2 * s) 2 (nI 0)) (61 + 2 * s) 1 (nI t)) (61 + 2 * s) 2 (nI n)) 96 s (nI (50 + t))) 97 s (nI n), J2, ?_, ?_, (h1.fr (fun r k q => hf r k (by unfold S_cnt at q; (try dsimp only); omega))), (h2.fr (fun r k q => hf r k (by unfold S_hts at q; (try dsimp only); omega))), (h3.fr (fun r k q => hf r k (by unfold S_pst at q; (try dsimp only); omega))), (h4.fr (fun r k q => hf r k (by unfold S_wlk at q; (try dsimp only); omega))), (h5.fr (fun r k q => hf r k (by unfold S_std at q; (try dsimp only); omega))), (h6.fr (fun r k q => hf r k (by unfold S_led at q; (try dsimp only); omega))), (h7.fr (fun r k q => hf r k (by unfold S_tap at q; (try dsimp only); omega))), (h8.fr (fun r k q => hf r k (by unfold S_law at q; (try dsimp only); omega))), (h9.fr (fun r k q => hf r k (by unfold S_chg at q; (try dsimp only); omega))), (h10.fr (fun r k q => hf r k (by unfold S_img at q; (try dsimp only); omega))), (h11.fr (fun r k q => hf r k (by unfold S_bod at q; (try dsimp only); omega))), ?_⟩
          · by_cases n0 : n = 0
            · subst n0
              simp (disch := omega) only [bl_lit, lgl, lgg, lgl0, lgg0, lglm, lggm, az_us, az_un, az_ue, az_urn, az_ure, bz_lit, nI_leI, nI_ltI, nI_eq, nI_clamp, nI_add, pk_sub, pk_mul, bz_nlt, bz_nle, bz_ltn, bz_len, bz_neq, bz_eqn, bz_nn, ↓reduceIte, Bool.false_eq_true, if_pos, if_neg, sh_31]
            · simp (disch := omega) only [bl_lit, lgl, lgg, lgl0, lgg0, lglm, lggm, az_us, az_un, az_ue, az_urn, az_ure, bz_lit, nI_leI, nI_ltI, nI_eq, nI_clamp, nI_add, pk_sub, pk_mul, bz_nlt, bz_nle, bz_ltn, bz_len, bz_neq, bz_eqn, bz_nn, ↓reduceIte, Bool.false_eq_true, if_pos, if_neg, sh_31]
          · simp (disch := omega) only [bl_lit, lgl, lgg, lgl0, lgg0, lglm, lggm, az_us, az_un, az_ue, az_urn, az_ure, bz_lit, nI_leI, nI_ltI, nI_eq, nI_clamp, nI_add, pk_sub, pk_mul, bz_nlt, bz_nle, bz_ltn, bz_len, bz_neq, bz_eqn, bz_nn, ↓reduceIte, Bool.false_eq_true, if_pos, if_neg]
            exact r2
          · refine sh_oth (s := s) h12 (fun s' hs' hne => ⟨fun k => hf _ k (by (try dsimp only); omega), hf 96 s' (by (try dsimp only); omega), hf 97 s' (by (try dsimp only); omega)⟩) (hf 55 1 (by (try dsimp only); omega)) (fun s' hs' hne j hj => ⟨?_, ?_⟩) (Or.inr (Or.inr ⟨t, n, by omega, d1, ?_, ?_, ?_, ?_, ?_, fun j hj => ?_⟩))
            · rw [j1 _ _ (by omega), az_urn (by omega)]
            · rw [j1 _ _ (by omega), az_urn (by omega)]
            · simp (disch := omega) only [bl_lit, lgl, lgg, lgl0, lgg0, lglm, lggm, az_us, az_un, az_ue, az_urn, az_ure, bz_lit, nI_leI, nI_ltI, nI_eq, nI_clamp, nI_add, pk_sub, pk_mul, bz_nlt, bz_nle, bz_ltn, bz_len, bz_neq, bz_eqn, bz_nn, ↓reduceIte, Bool.false_eq_true, if_pos, if_neg]
            · simp (disch := omega) only [bl_lit, lgl, lgg, lgl0, lgg0, lglm, lggm, az_us, az_un, az_ue, az_urn, az_ure, bz_lit, nI_leI, nI_ltI, nI_eq, nI_clamp, nI_add, pk_sub, pk_mul, bz_nlt, bz_nle, bz_ltn, bz_len, bz_neq, bz_eqn, bz_nn, ↓reduceIte, Bool.false_eq_true, if_pos, if_neg]
            · simp (disch := omega) only [bl_lit, lgl, lgg, lgl0, lgg0, lglm, lggm, az_us, az_un, az_ue, az_urn, az_ure, bz_lit, nI_leI, nI_ltI, nI_eq, nI_clamp, nI_add, pk_sub, pk_mul, bz_nlt, bz_nle, bz_ltn, bz_len, bz_neq, bz_eqn, bz_nn, ↓reduceIte, Bool.false_eq_true, if_pos, if_neg]
            · simp (disch := omega) only [bl_lit, lgl, lgg, lgl0, lgg0, lglm, lggm, az_us, az_un, az_ue, az_urn, az_ure, bz_lit, nI_leI, nI_ltI, nI_eq, nI_clamp, nI_add, pk_sub, pk_mul, bz_nlt, bz_nle, bz_ltn, bz_len, bz_neq, bz_eqn, bz_nn, ↓reduceIte, Bool.false_eq_true, if_pos, if_neg]
            · simp (disch := omega) only [bl_lit, lgl, lgg, lgl0, lgg0, lglm, lggm, az_us, az_un, az_ue, az_urn, az_ure, bz_lit, nI_leI, nI_ltI, nI_eq, nI_clamp, nI_add, pk_sub, pk_mul, bz_nlt, bz_nle, bz_ltn, bz_len, bz_neq, bz_eqn, bz_nn, ↓reduceIte, Bool.false_eq_true, if_pos, if_neg]
            · rw [j2 j hj, j1 _ _ (by omega), az_ure rfl, show az_fill 60 (lN 0) (J (62 + 2 * s)) j = lN 0 from if_pos hj]
              exact ⟨rfl, fun _ => by decide, fun _ => by decide⟩
        · exact ⟨-nI 14, I, J, I, J, by simp (disch := omega) only [bl_lit, lgl, lgg, lgl0, lgg0, lglm, lggm, az_us, az_un, az_ue, az_urn, az_ure, bz_lit, nI_leI, nI_ltI, nI_eq, nI_clamp, nI_add, pk_sub, pk_mul, bz_nlt, bz_nle, bz_ltn, bz_len, bz_neq, bz_eqn, bz_nn, ↓reduceIte, Bool.false_eq_true, if_pos, if_neg, d1, d0], by simp (disch := omega) only [bl_lit, lgl, lgg, lgl0, lgg0, lglm, lggm, az_us, az_un, az_ue, az_urn, az_ure, bz_lit, nI_leI, nI_ltI, nI_eq, nI_clamp, nI_add, pk_sub, pk_mul, bz_nlt, bz_nle, bz_ltn, bz_len, bz_neq, bz_eqn, bz_nn, ↓reduceIte, Bool.false_eq_true, if_pos, if_neg, d1, d0], h⟩
      · exact ⟨-nI 1, I, J, I, J, by simp (disch := omega) only [bl_lit, lgl, lgg, lgl0, lgg0, lglm, lggm, az_us, az_un, az_ue, az_urn, az_ure, bz_lit, nI_leI, nI_ltI, nI_eq, nI_clamp, nI_add, pk_sub, pk_mul, bz_nlt, bz_nle, bz_ltn, bz_len, bz_neq, bz_eqn, bz_nn, ↓reduceIte, Bool.false_eq_true, if_pos, if_neg, d1], by simp (disch := omega) only [bl_lit, lgl, lgg, lgl0, lgg0, lglm, lggm, az_us, az_un, az_ue, az_urn, az_ure, bz_lit, nI_leI, nI_ltI, nI_eq, nI_clamp, nI_add, pk_sub, pk_mul, bz_nlt, bz_nle, bz_ltn, bz_len, bz_neq, bz_eqn, bz_nn, ↓reduceIte, Bool.false_eq_true, if_pos, if_neg, d1], h⟩
end

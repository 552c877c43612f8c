/-! shift, taken -/
theorem sub_lt {m n i : Nat} (hm : m ≤ 1000) (hn : n < 2 ^ 31) (hi : i < 2 ^ 31) : nI m - nI n < nI i ↔ m < n + i := by
  rw [Int32.lt_iff_toInt_lt, bz_sub (by rw [nI_toInt (by omega), nI_toInt hn]; omega) (by rw [nI_toInt (by omega), nI_toInt hn]; omega), nI_toInt (by omega), nI_toInt hn, nI_toInt hi]
  omega
theorem le_sub {m n i : Nat} (hm : m ≤ 1000) (hn : n < 2 ^ 31) (hi : i < 2 ^ 31) : nI i ≤ nI m - nI n ↔ i + n ≤ m := by
  rw [Int32.le_iff_toInt_le, bz_sub (by rw [nI_toInt (by omega), nI_toInt hn]; omega) (by rw [nI_toInt (by omega), nI_toInt hn]; omega), nI_toInt (n := m) (by omega), nI_toInt hn, nI_toInt hi]
  omega
section
variable {I : Nat → Nat → Int32} {J : Nat → Nat → Int64} {rl rd : Nat}
theorem sf_M {d e i j n : Nat} (hd : d < 6) (he : e < 6) (hi : i + n ≤ 60) (hj : j + n ≤ 60) : ∃ x, rs_M_shift_113 I J (nI d) (nI i) (nI e) (nI j) (nI n) (nI 0) = some x ∧ ∃ J', x = (nI n, J') ∧ (∀ r k, r ≠ 98 → r ≠ 99 → J' r k = J r k) ∧ ∀ k, J' 98 k = if 60 * e + j ≤ k ∧ k < 60 * e + j + n then J 98 (60 * d + i + (k - (60 * e + j))) else J 98 k := by
  unfold rs_M_shift_113
  refine az_for0 (fun c (z : Int32 × (Nat → Nat → Int64)) => z.1 = nI c ∧ (∀ r k, r ≠ 99 → z.2 r k = J r k) ∧ ∀ k, k < c → z.2 99 k = J 98 (60 * d + i + k)) n (by omega) ⟨rfl, fun _ _ _ => rfl, fun k hk => absurd hk (Nat.not_lt_zero k)⟩ ?_ ?_
  · intro c z hc hz
    obtain ⟨v, J1⟩ := z
    obtain ⟨e1, g1, g2⟩ := hz
    (try dsimp only at e1 g1 g2)
    subst e1
    show ∃ o, rs_M_shift_113_b I (nI d) (nI i) (nI e) (nI j) (nI n) (nI c) J1 = some o ∧ _
    unfold rs_M_shift_113_b
    refine az_nxt (nI (c + 1), az_u J1 99 c (J1 98 (60 * d + i + c))) ?_ ⟨rfl, ?_, ?_⟩
    · simp (disch := omega) only [bl_lit, lgl, lgg, lgl0, lgg0, lglm, lggm, az_us, az_un, az_ue, az_urn, az_ure, bz_lit, nI_leI, nI_ltI, nI_eq, nI_clamp, nI_add, pk_sub, pk_mul, bz_nlt, bz_nle, bz_ltn, bz_len, bz_neq, bz_eqn, bz_nn, ↓reduceIte, Bool.false_eq_true, if_pos, if_neg]
    · intro r k hr
      (try dsimp only)
      rw [az_un (by omega)]
      exact g1 r k hr
    · intro k hk
      (try dsimp only)
      by_cases q : k = c
      · subst q
        rw [az_us, g1 98 _ (by omega)]
      · rw [az_un (by omega)]
        exact g2 k (by omega)
  · intro z hz
    obtain ⟨v, J1⟩ := z
    obtain ⟨e1, g1, g2⟩ := hz
    (try dsimp only at e1 g1 g2)
    subst e1
    have two : ∃ x, rs_M_shift_150 I J1 (nI e) (nI j) (nI n) (nI 0) = some x ∧ ∃ J', x = (nI n, J') ∧ (∀ r k, r ≠ 98 → J' r k = J1 r k) ∧ ∀ k, J' 98 k = if 60 * e + j ≤ k ∧ k < 60 * e + j + n then J 98 (60 * d + i + (k - (60 * e + j))) else J 98 k := by
      unfold rs_M_shift_150
      refine az_for0 (fun c (z : Int32 × (Nat → Nat → Int64)) => z.1 = nI c ∧ (∀ r k, r ≠ 98 → z.2 r k = J1 r k) ∧ ∀ k, z.2 98 k = if 60 * e + j ≤ k ∧ k < 60 * e + j + c then J 98 (60 * d + i + (k - (60 * e + j))) else J 98 k) n (by omega) ⟨rfl, fun _ _ _ => rfl, fun k => by rw [if_neg (by omega)]; exact g1 98 k (by omega)⟩ ?_ ?_
      · intro c z hc hz
        obtain ⟨v, J2⟩ := z
        obtain ⟨e1, k1, k2⟩ := hz
        (try dsimp only at e1 k1 k2)
        subst e1
        show ∃ o, rs_M_shift_150_b I (nI e) (nI j) (nI n) (nI c) J2 = some o ∧ _
        unfold rs_M_shift_150_b
        refine az_nxt (nI (c + 1), az_u J2 98 (60 * e + j + c) (J2 99 c)) ?_ ⟨rfl, ?_, ?_⟩
        · simp (disch := omega) only [bl_lit, lgl, lgg, lgl0, lgg0, lglm, lggm, az_us, az_un, az_ue, az_urn, az_ure, bz_lit, nI_leI, nI_ltI, nI_eq, nI_clamp, nI_add, pk_sub, pk_mul, bz_nlt, bz_nle, bz_ltn, bz_len, bz_neq, bz_eqn, bz_nn, ↓reduceIte, Bool.false_eq_true, if_pos, if_neg]
        · intro r k hr
          (try dsimp only)
          rw [az_un (by omega)]
          exact k1 r k hr
        · intro k
          (try dsimp only)
          by_cases q : k = 60 * e + j + c
          · subst q
            rw [az_us, if_pos (by omega), k1 99 c (by omega), g2 c hc, show 60 * e + j + c - (60 * e + j) = c from by omega]
          · rw [az_un (by omega), k2 k]
            by_cases q2 : 60 * e + j ≤ k ∧ k < 60 * e + j + c
            · rw [if_pos q2, if_pos (by omega)]
            · rw [if_neg q2, if_neg (by omega)]
      · intro z hz
        obtain ⟨v, J2⟩ := z
        obtain ⟨e1, k1, k2⟩ := hz
        (try dsimp only at e1 k1 k2)
        subst e1
        refine ⟨(nI n, J2), ?_, J2, rfl, k1, k2⟩
        show rs_M_shift_150_b I (nI e) (nI j) (nI n) (nI n) J2 = _
        unfold rs_M_shift_150_b
        simp (disch := omega) only [bl_lit, lgl, lgg, lgl0, lgg0, lglm, lggm, az_us, az_un, az_ue, az_urn, az_ure, bz_lit, nI_leI, nI_ltI, nI_eq, nI_clamp, nI_add, pk_sub, pk_mul, bz_nlt, bz_nle, bz_ltn, bz_len, bz_neq, bz_eqn, bz_nn, ↓reduceIte, Bool.false_eq_true, if_pos, if_neg]
    obtain ⟨x, r2, J2, rfl, k1, k2⟩ := two
    refine ⟨(nI n, J2), ?_, J2, rfl, fun r k h1 h2 => by rw [k1 r k h1, g1 r k h2], k2⟩
    show rs_M_shift_113_b I (nI d) (nI i) (nI e) (nI j) (nI n) (nI n) J1 = _
    unfold rs_M_shift_113_b
    simp (disch := omega) only [bl_lit, lgl, lgg, lgl0, lgg0, lglm, lggm, az_us, az_un, az_ue, az_urn, az_ure, bz_lit, nI_leI, nI_ltI, nI_eq, nI_clamp, nI_add, pk_sub, pk_mul, bz_nlt, bz_nle, bz_ltn, bz_len, bz_neq, bz_eqn, bz_nn, ↓reduceIte, Bool.false_eq_true, if_pos, if_neg]
    rw [r2]
    rfl
theorem mt_shift (h : Rel I J rl rd) (a b d f g : Int32) : ∃ x J1 J2, rs_X_shift I J a b d f g = some (x, J1) ∧ rs_M_shift I J1 a b d f g = some (x, J2) ∧ Rel I J2 rl rd := by
  unfold rs_X_shift rs_M_shift rs_X_shift_22
  have h12 := h.2.2.2.2.2.2.2.2.2.2.2
  rcases ixc a 5 (by omega) with x | ⟨x, y⟩ | ⟨s, hs, rfl⟩
  · exact ⟨-nI 1, J, J, by simp (disch := omega) only [bl_lit, lgl, lgg, lgl0, lgg0, lglm, lggm, az_us, az_un, az_ue, az_urn, az_ure, bz_lit, nI_leI, nI_ltI, nI_eq, nI_clamp, nI_add, pk_sub, pk_mul, bz_nlt, bz_nle, bz_ltn, bz_len, bz_neq, bz_eqn, bz_nn, ↓reduceIte, Bool.false_eq_true, if_pos, if_neg, x], by simp (disch := omega) only [bl_lit, lgl, lgg, lgl0, lgg0, lglm, lggm, az_us, az_un, az_ue, az_urn, az_ure, bz_lit, nI_leI, nI_ltI, nI_eq, nI_clamp, nI_add, pk_sub, pk_mul, bz_nlt, bz_nle, bz_ltn, bz_len, bz_neq, bz_eqn, bz_nn, ↓reduceIte, Bool.false_eq_true, if_pos, if_neg, x], h⟩
  · exact ⟨-nI 1, J, J, by simp (disch := omega) only [bl_lit, lgl, lgg, lgl0, lgg0, lglm, lggm, az_us, az_un, az_ue, az_urn, az_ure, bz_lit, nI_leI, nI_ltI, nI_eq, nI_clamp, nI_add, pk_sub, pk_mul, bz_nlt, bz_nle, bz_ltn, bz_len, bz_neq, bz_eqn, bz_nn, ↓reduceIte, Bool.false_eq_true, if_pos, if_neg, x, y], by simp (disch := omega) only [bl_lit, lgl, lgg, lgl0, lgg0, lglm, lggm, az_us, az_un, az_ue, az_urn, az_ure, bz_lit, nI_leI, nI_ltI, nI_eq, nI_clamp, nI_add, pk_sub, pk_mul, bz_nlt, bz_nle, bz_ltn, bz_len, bz_neq, bz_eqn, bz_nn, ↓reduceIte, Bool.false_eq_true, if_pos, if_neg, x, y], h⟩
  · rcases ixc d 5 (by omega) with x | ⟨x, y⟩ | ⟨e, he, rfl⟩
    · exact ⟨-nI 1, J, J, by simp (disch := omega) only [bl_lit, lgl, lgg, lgl0, lgg0, lglm, lggm, az_us, az_un, az_ue, az_urn, az_ure, bz_lit, nI_leI, nI_ltI, nI_eq, nI_clamp, nI_add, pk_sub, pk_mul, bz_nlt, bz_nle, bz_ltn, bz_len, bz_neq, bz_eqn, bz_nn, ↓reduceIte, Bool.false_eq_true, if_pos, if_neg, x], by simp (disch := omega) only [bl_lit, lgl, lgg, lgl0, lgg0, lglm, lggm, az_us, az_un, az_ue, az_urn, az_ure, bz_lit, nI_leI, nI_ltI, nI_eq, nI_clamp, nI_add, pk_sub, pk_mul, bz_nlt, bz_nle, bz_ltn, bz_len, bz_neq, bz_eqn, bz_nn, ↓reduceIte, Bool.false_eq_true, if_pos, if_neg, x], h⟩
    · exact ⟨-nI 1, J, J, by simp (disch := omega) only [bl_lit, lgl, lgg, lgl0, lgg0, lglm, lggm, az_us, az_un, az_ue, az_urn, az_ure, bz_lit, nI_leI, nI_ltI, nI_eq, nI_clamp, nI_add, pk_sub, pk_mul, bz_nlt, bz_nle, bz_ltn, bz_len, bz_neq, bz_eqn, bz_nn, ↓reduceIte, Bool.false_eq_true, if_pos, if_neg, x, y], by simp (disch := omega) only [bl_lit, lgl, lgg, lgl0, lgg0, lglm, lggm, az_us, az_un, az_ue, az_urn, az_ure, bz_lit, nI_leI, nI_ltI, nI_eq, nI_clamp, nI_add, pk_sub, pk_mul, bz_nlt, bz_nle, bz_ltn, bz_len, bz_neq, bz_eqn, bz_nn, ↓reduceIte, Bool.false_eq_true, if_pos, if_neg, x, y], h⟩
    · unfold rs_X_shift_30
      rcases h12 s (by omega) with ⟨e1, e2, e3⟩ | ⟨q, e1, e2, e3, e4, e5⟩ | ⟨t, m, t1, t2, e1, e2, e3, e4, e5, e6⟩
      · exact ⟨-nI 11, J, J, by simp (disch := omega) only [bl_lit, lgl, lgg, lgl0, lgg0, lglm, lggm, az_us, az_un, az_ue, az_urn, az_ure, bz_lit, nI_leI, nI_ltI, nI_eq, nI_clamp, nI_add, pk_sub, pk_mul, bz_nlt, bz_nle, bz_ltn, bz_len, bz_neq, bz_eqn, bz_nn, ↓reduceIte, Bool.false_eq_true, if_pos, if_neg, e1, e2], by simp (disch := omega) only [bl_lit, lgl, lgg, lgl0, lgg0, lglm, lggm, az_us, az_un, az_ue, az_urn, az_ure, bz_lit, nI_leI, nI_ltI, nI_eq, nI_clamp, nI_add, pk_sub, pk_mul, bz_nlt, bz_nle, bz_ltn, bz_len, bz_neq, bz_eqn, bz_nn, ↓reduceIte, Bool.false_eq_true, if_pos, if_neg, e3], h⟩
      · rcases h12 e (by omega) with ⟨f1, f2, f3⟩ | ⟨q', f1, f2, f3, f4, f5⟩ | ⟨t', m', t1', t2', f1, f2, f3, f4, f5, f6⟩
        · exact ⟨-nI 11, J, J, by simp (disch := omega) only [bl_lit, lgl, lgg, lgl0, lgg0, lglm, lggm, az_us, az_un, az_ue, az_urn, az_ure, bz_lit, nI_leI, nI_ltI, nI_eq, nI_clamp, nI_add, pk_sub, pk_mul, bz_nlt, bz_nle, bz_ltn, bz_len, bz_neq, bz_eqn, bz_nn, ↓reduceIte, Bool.false_eq_true, if_pos, if_neg, e1, e2, f1, f2], by simp (disch := omega) only [bl_lit, lgl, lgg, lgl0, lgg0, lglm, lggm, az_us, az_un, az_ue, az_urn, az_ure, bz_lit, nI_leI, nI_ltI, nI_eq, nI_clamp, nI_add, pk_sub, pk_mul, bz_nlt, bz_nle, bz_ltn, bz_len, bz_neq, bz_eqn, bz_nn, ↓reduceIte, Bool.false_eq_true, if_pos, if_neg, e3, f3], h⟩
        · exact ⟨-nI 12, J, J, by simp (disch := omega) only [bl_lit, lgl, lgg, lgl0, lgg0, lglm, lggm, az_us, az_un, az_ue, az_urn, az_ure, bz_lit, nI_leI, nI_ltI, nI_eq, nI_clamp, nI_add, pk_sub, pk_mul, bz_nlt, bz_nle, bz_ltn, bz_len, bz_neq, bz_eqn, bz_nn, ↓reduceIte, Bool.false_eq_true, if_pos, if_neg, e1, e2, f1, f2], by simp (disch := omega) only [bl_lit, lgl, lgg, lgl0, lgg0, lglm, lggm, az_us, az_un, az_ue, az_urn, az_ure, bz_lit, nI_leI, nI_ltI, nI_eq, nI_clamp, nI_add, pk_sub, pk_mul, bz_nlt, bz_nle, bz_ltn, bz_len, bz_neq, bz_eqn, bz_nn, ↓reduceIte, Bool.false_eq_true, if_pos, if_neg, e3, f3], h⟩
        · exact ⟨-nI 12, J, J, by simp (disch := omega) only [bl_lit, lgl, lgg, lgl0, lgg0, lglm, lggm, az_us, az_un, az_ue, az_urn, az_ure, bz_lit, nI_leI, nI_ltI, nI_eq, nI_clamp, nI_add, pk_sub, pk_mul, bz_nlt, bz_nle, bz_ltn, bz_len, bz_neq, bz_eqn, bz_nn, ↓reduceIte, Bool.false_eq_true, if_pos, if_neg, e1, e2, f1, f2], by simp (disch := omega) only [bl_lit, lgl, lgg, lgl0, lgg0, lglm, lggm, az_us, az_un, az_ue, az_urn, az_ure, bz_lit, nI_leI, nI_ltI, nI_eq, nI_clamp, nI_add, pk_sub, pk_mul, bz_nlt, bz_nle, bz_ltn, bz_len, bz_neq, bz_eqn, bz_nn, ↓reduceIte, Bool.false_eq_true, if_pos, if_neg, e3, f4], h⟩
      · rcases h12 e (by omega) with ⟨f1, f2, f3⟩ | ⟨q', f1, f2, f3, f4, f5⟩ | ⟨t', m', t1', t2', f1, f2, f3, f4, f5, f6⟩
        · exact ⟨-nI 11, J, J, by simp (disch := omega) only [bl_lit, lgl, lgg, lgl0, lgg0, lglm, lggm, az_us, az_un, az_ue, az_urn, az_ure, bz_lit, nI_leI, nI_ltI, nI_eq, nI_clamp, nI_add, pk_sub, pk_mul, bz_nlt, bz_nle, bz_ltn, bz_len, bz_neq, bz_eqn, bz_nn, ↓reduceIte, Bool.false_eq_true, if_pos, if_neg, e1, e2, f1, f2], by simp (disch := omega) only [bl_lit, lgl, lgg, lgl0, lgg0, lglm, lggm, az_us, az_un, az_ue, az_urn, az_ure, bz_lit, nI_leI, nI_ltI, nI_eq, nI_clamp, nI_add, pk_sub, pk_mul, bz_nlt, bz_nle, bz_ltn, bz_len, bz_neq, bz_eqn, bz_nn, ↓reduceIte, Bool.false_eq_true, if_pos, if_neg, e4, f3], h⟩
        · exact ⟨-nI 12, J, J, by simp (disch := omega) only [bl_lit, lgl, lgg, lgl0, lgg0, lglm, lggm, az_us, az_un, az_ue, az_urn, az_ure, bz_lit, nI_leI, nI_ltI, nI_eq, nI_clamp, nI_add, pk_sub, pk_mul, bz_nlt, bz_nle, bz_ltn, bz_len, bz_neq, bz_eqn, bz_nn, ↓reduceIte, Bool.false_eq_true, if_pos, if_neg, e1, e2, f1, f2], by simp (disch := omega) only [bl_lit, lgl, lgg, lgl0, lgg0, lglm, lggm, az_us, az_un, az_ue, az_urn, az_ure, bz_lit, nI_leI, nI_ltI, nI_eq, nI_clamp, nI_add, pk_sub, pk_mul, bz_nlt, bz_nle, bz_ltn, bz_len, bz_neq, bz_eqn, bz_nn, ↓reduceIte, Bool.false_eq_true, if_pos, if_neg, e4, f3], h⟩
        · by_cases ht : t' = t
          · subst ht
            by_cases g0 : g < nI 0
            · refine ⟨-nI 13, J, J, ?_, by simp (disch := omega) only [bl_lit, lgl, lgg, lgl0, lgg0, lglm, lggm, az_us, az_un, az_ue, az_urn, az_ure, bz_lit, nI_leI, nI_ltI, nI_eq, nI_clamp, nI_add, pk_sub, pk_mul, bz_nlt, bz_nle, bz_ltn, bz_len, bz_neq, bz_eqn, bz_nn, ↓reduceIte, Bool.false_eq_true, if_pos, if_neg, e4, f4, g0], h⟩
              by_cases b0 : b < nI 0
              · simp (disch := omega) only [bl_lit, lgl, lgg, lgl0, lgg0, lglm, lggm, az_us, az_un, az_ue, az_urn, az_ure, bz_lit, nI_leI, nI_ltI, nI_eq, nI_clamp, nI_add, pk_sub, pk_mul, bz_nlt, bz_nle, bz_ltn, bz_len, bz_neq, bz_eqn, bz_nn, ↓reduceIte, Bool.false_eq_true, if_pos, if_neg, e1, e2, f1, f2, b0]
              · simp (disch := omega) only [bl_lit, lgl, lgg, lgl0, lgg0, lglm, lggm, az_us, az_un, az_ue, az_urn, az_ure, bz_lit, nI_leI, nI_ltI, nI_eq, nI_clamp, nI_add, pk_sub, pk_mul, bz_nlt, bz_nle, bz_ltn, bz_len, bz_neq, bz_eqn, bz_nn, ↓reduceIte, Bool.false_eq_true, if_pos, if_neg, e1, e2, f1, f2, b0, g0]
            · obtain ⟨n, hn, rfl⟩ := nI_of (show ¬ g < 0 from g0)
              by_cases b0 : b < nI 0
              · exact ⟨-nI 13, J, J, by simp (disch := omega) only [bl_lit, lgl, lgg, lgl0, lgg0, lglm, lggm, az_us, az_un, az_ue, az_urn, az_ure, bz_lit, nI_leI, nI_ltI, nI_eq, nI_clamp, nI_add, pk_sub, pk_mul, bz_nlt, bz_nle, bz_ltn, bz_len, bz_neq, bz_eqn, bz_nn, ↓reduceIte, Bool.false_eq_true, if_pos, if_neg, e1, e2, f1, f2, b0], by simp (disch := omega) only [bl_lit, lgl, lgg, lgl0, lgg0, lglm, lggm, az_us, az_un, az_ue, az_urn, az_ure, bz_lit, nI_leI, nI_ltI, nI_eq, nI_clamp, nI_add, pk_sub, pk_mul, bz_nlt, bz_nle, bz_ltn, bz_len, bz_neq, bz_eqn, bz_nn, ↓reduceIte, Bool.false_eq_true, if_pos, if_neg, e4, f4, b0], h⟩
              · obtain ⟨i, hi, rfl⟩ := nI_of (show ¬ b < 0 from b0)
                by_cases f0 : f < nI 0
                · refine ⟨-nI 13, J, J, ?_, by simp (disch := omega) only [bl_lit, lgl, lgg, lgl0, lgg0, lglm, lggm, az_us, az_un, az_ue, az_urn, az_ure, bz_lit, nI_leI, nI_ltI, nI_eq, nI_clamp, nI_add, pk_sub, pk_mul, bz_nlt, bz_nle, bz_ltn, bz_len, bz_neq, bz_eqn, bz_nn, ↓reduceIte, Bool.false_eq_true, if_pos, if_neg, e4, f4, f0], h⟩
                  by_cases z1 : m < i
                  · simp (disch := omega) only [bl_lit, lgl, lgg, lgl0, lgg0, lglm, lggm, az_us, az_un, az_ue, az_urn, az_ure, bz_lit, nI_leI, nI_ltI, nI_eq, nI_clamp, nI_add, pk_sub, pk_mul, bz_nlt, bz_nle, bz_ltn, bz_len, bz_neq, bz_eqn, bz_nn, ↓reduceIte, Bool.false_eq_true, if_pos, if_neg, e1, e2, f1, f2, e3]
                  · by_cases z2 : m < i + n
                    · simp (disch := omega) only [bl_lit, lgl, lgg, lgl0, lgg0, lglm, lggm, az_us, az_un, az_ue, az_urn, az_ure, bz_lit, nI_leI, nI_ltI, nI_eq, nI_clamp, nI_add, pk_sub, pk_mul, bz_nlt, bz_nle, bz_ltn, bz_len, bz_neq, bz_eqn, bz_nn, ↓reduceIte, Bool.false_eq_true, if_pos, if_neg, e1, e2, f1, f2, e3]
                    · simp (disch := omega) only [bl_lit, lgl, lgg, lgl0, lgg0, lglm, lggm, az_us, az_un, az_ue, az_urn, az_ure, bz_lit, nI_leI, nI_ltI, nI_eq, nI_clamp, nI_add, pk_sub, pk_mul, bz_nlt, bz_nle, bz_ltn, bz_len, bz_neq, bz_eqn, bz_nn, ↓reduceIte, Bool.false_eq_true, if_pos, if_neg, e1, e2, f1, f2, e3, f0]
                · obtain ⟨j, hj, rfl⟩ := nI_of (show ¬ f < 0 from f0)
                  by_cases z1 : i + n ≤ m
                  · by_cases z2 : j + n ≤ m'
                    · obtain ⟨x, r2, J2, rfl, k1, k2⟩ := sf_M (I := I) (J := az_ur J (62 + 2 * e) (va_cpy (J (62 + 2 * s)) (J (62 + 2 * e)) i j n)) (d := s) (e := e) (i := i) (j := j) (n := n) (by omega) (by omega) (by omega) (by omega)
                      refine ⟨nI n, az_ur J (62 + 2 * e) (va_cpy (J (62 + 2 * s)) (J (62 + 2 * e)) i j n), J2, ?_, ?_, rl_J h (sh_oth (s := e) h12 (fun s' _ _ => ⟨fun _ => rfl, rfl, rfl⟩) rfl (fun s' hs' hne x hx => ⟨?_, ?_⟩) (Or.inr (Or.inr ⟨t', m', t1', t2', f1, f2, f3, f4, f5, fun x hx => ?_⟩)))⟩
                      · simp (disch := omega) only [bl_lit, lgl, lgg, lgl0, lgg0, lglm, lggm, az_us, az_un, az_ue, az_urn, az_ure, bz_lit, nI_leI, nI_ltI, nI_eq, nI_clamp, nI_add, pk_sub, pk_mul, bz_nlt, bz_nle, bz_ltn, bz_len, bz_neq, bz_eqn, bz_nn, ↓reduceIte, Bool.false_eq_true, if_pos, if_neg, e1, e2, e3, f1, f2, f3, sh_31]
                      · simp (disch := omega) only [bl_lit, lgl, lgg, lgl0, lgg0, lglm, lggm, az_us, az_un, az_ue, az_urn, az_ure, bz_lit, nI_leI, nI_ltI, nI_eq, nI_clamp, nI_add, pk_sub, pk_mul, bz_nlt, bz_nle, bz_ltn, bz_len, bz_neq, bz_eqn, bz_nn, ↓reduceIte, Bool.false_eq_true, if_pos, if_neg, e4, e5, f4, f5]
                        exact r2
                      · rw [k1 _ _ (by omega) (by omega), az_urn (by omega)]
                      · rw [k2, if_neg (by omega), az_urn (by omega)]
                      · rw [k1 (62 + 2 * e) x (by omega) (by omega), az_ure rfl, k2, az_urn (r' := 98) (by omega)]
                        by_cases z3 : j ≤ x ∧ x < j + n
                        · rw [if_pos (by omega), pk_cpy_in (by omega) (by omega), show 60 * s + i + (60 * e + x - (60 * e + j)) = 60 * s + (i + (x - j)) from by omega]
                          exact e6 (i + (x - j)) (by omega)
                        · rw [if_neg (by omega), pk_cpy_out (by omega)]
                          exact f6 x hx
                    · refine ⟨-nI 13, J, J, ?_, ?_, h⟩
                      · by_cases z3 : m' < j
                        · simp (disch := omega) only [bl_lit, lgl, lgg, lgl0, lgg0, lglm, lggm, az_us, az_un, az_ue, az_urn, az_ure, bz_lit, nI_leI, nI_ltI, nI_eq, nI_clamp, nI_add, pk_sub, pk_mul, bz_nlt, bz_nle, bz_ltn, bz_len, bz_neq, bz_eqn, bz_nn, ↓reduceIte, Bool.false_eq_true, if_pos, if_neg, e1, e2, f1, f2, e3, f3]
                        · simp (disch := omega) only [bl_lit, lgl, lgg, lgl0, lgg0, lglm, lggm, az_us, az_un, az_ue, az_urn, az_ure, bz_lit, nI_leI, nI_ltI, nI_eq, nI_clamp, nI_add, pk_sub, pk_mul, bz_nlt, bz_nle, bz_ltn, bz_len, bz_neq, bz_eqn, bz_nn, ↓reduceIte, Bool.false_eq_true, if_pos, if_neg, e1, e2, f1, f2, e3, f3]
                      · simp (disch := omega) only [bl_lit, lgl, lgg, lgl0, lgg0, lglm, lggm, az_us, az_un, az_ue, az_urn, az_ure, bz_lit, nI_leI, nI_ltI, nI_eq, nI_clamp, nI_add, pk_sub, pk_mul, bz_nlt, bz_nle, bz_ltn, bz_len, bz_neq, bz_eqn, bz_nn, ↓reduceIte, Bool.false_eq_true, if_pos, if_neg, e4, e5, f4, f5, le_sub]
                  · refine ⟨-nI 13, J, J, ?_, ?_, h⟩
                    · by_cases z3 : m < i
                      · simp (disch := omega) only [bl_lit, lgl, lgg, lgl0, lgg0, lglm, lggm, az_us, az_un, az_ue, az_urn, az_ure, bz_lit, nI_leI, nI_ltI, nI_eq, nI_clamp, nI_add, pk_sub, pk_mul, bz_nlt, bz_nle, bz_ltn, bz_len, bz_neq, bz_eqn, bz_nn, ↓reduceIte, Bool.false_eq_true, if_pos, if_neg, e1, e2, f1, f2, e3]
                      · simp (disch := omega) only [bl_lit, lgl, lgg, lgl0, lgg0, lglm, lggm, az_us, az_un, az_ue, az_urn, az_ure, bz_lit, nI_leI, nI_ltI, nI_eq, nI_clamp, nI_add, pk_sub, pk_mul, bz_nlt, bz_nle, bz_ltn, bz_len, bz_neq, bz_eqn, bz_nn, ↓reduceIte, Bool.false_eq_true, if_pos, if_neg, e1, e2, f1, f2, e3]
                    · by_cases z4 : n ≤ m
                      · simp (disch := omega) only [bl_lit, lgl, lgg, lgl0, lgg0, lglm, lggm, az_us, az_un, az_ue, az_urn, az_ure, bz_lit, nI_leI, nI_ltI, nI_eq, nI_clamp, nI_add, pk_sub, pk_mul, bz_nlt, bz_nle, bz_ltn, bz_len, bz_neq, bz_eqn, bz_nn, ↓reduceIte, Bool.false_eq_true, if_pos, if_neg, e4, e5, f4, f5]
                      · simp (disch := omega) only [bl_lit, lgl, lgg, lgl0, lgg0, lglm, lggm, az_us, az_un, az_ue, az_urn, az_ure, bz_lit, nI_leI, nI_ltI, nI_eq, nI_clamp, nI_add, pk_sub, pk_mul, bz_nlt, bz_nle, bz_ltn, bz_len, bz_neq, bz_eqn, bz_nn, ↓reduceIte, Bool.false_eq_true, if_pos, if_neg, e4, e5, f4, f5, sub_lt]
          · exact ⟨-nI 12, J, J, by simp (disch := omega) only [bl_lit, lgl, lgg, lgl0, lgg0, lglm, lggm, az_us, az_un, az_ue, az_urn, az_ure, bz_lit, nI_leI, nI_ltI, nI_eq, nI_clamp, nI_add, pk_sub, pk_mul, bz_nlt, bz_nle, bz_ltn, bz_len, bz_neq, bz_eqn, bz_nn, ↓reduceIte, Bool.false_eq_true, if_pos, if_neg, e1, e2, f1, f2], by simp (disch := omega) only [bl_lit, lgl, lgg, lgl0, lgg0, lglm, lggm, az_us, az_un, az_ue, az_urn, az_ure, bz_lit, nI_leI, nI_ltI, nI_eq, nI_clamp, nI_add, pk_sub, pk_mul, bz_nlt, bz_nle, bz_ltn, bz_len, bz_neq, bz_eqn, bz_nn, ↓reduceIte, Bool.false_eq_true, if_pos, if_neg, e4, f4], h⟩
end
def anc (d : Nat) : List Nat := (([[0], [1, 0], [2, 0], [3, 2, 0], [4, 1, 0], [5, 3, 2, 0], [6, 0], [7, 4, 1, 0]] : List (List Nat))[d]?).getD []
theorem tk_X0 : ∀ d, d < 8 → ∀ k, k < 8 → rs_Bd_isUnder (az_ex 0 (fun _ => 0)) (fun _ _ => 0) (nI d) (nI k) = some (if (anc d).contains k then 1 else 0) := by decide +kernel
theorem tk_X {L : Nat} {xs : Nat → Int32} {I : Nat → Nat → Int32} {d k : Nat} (hd : d < 8) (hk : k < 8) : rs_Bd_isUnder (az_ex L xs) I (nI d) (nI k) = some (if (anc d).contains k then 1 else 0) := by
  rw [← tk_X0 d hd k hk]
  rfl
theorem tk_M {I : Nat → Nat → Int32} {s b k d : Nat} (hs : s < 6) (hb : b < 50) (hk : k < 8) (hd : d < 8) (h96 : I 96 s = nI b) : ∀ f, az_lp (fun x : Int32 => rs_M_taken_58_b I (nI s) (nI k) x) (f + 5) (nI d) = some (if (anc d).contains k then I 94 b else -nI 12) := by
  have eq : ∀ f d, d = k → az_lp (fun x : Int32 => rs_M_taken_58_b I (nI s) (nI k) x) (f + 1) (nI d) = some (I 94 b) := by
    intro f d e
    subst e
    unfold az_lp rs_M_taken_58_b rs_M_taken_75
    simp (disch := omega) only [bl_lit, lgl, lgg, lgl0, lgg0, lglm, lggm, az_us, az_un, az_ue, az_urn, az_ure, bz_lit, nI_leI, nI_ltI, nI_eq, nI_clamp, nI_add, pk_sub, pk_mul, bz_nlt, bz_nle, bz_ltn, bz_len, bz_neq, bz_eqn, bz_nn, ↓reduceIte, Bool.false_eq_true, if_pos, if_neg, h96, Option.map_some]
  have z0 : ∀ f, az_lp (fun x : Int32 => rs_M_taken_58_b I (nI s) (nI k) x) (f + 1) (nI 0) = some (if (anc 0).contains k then I 94 b else -nI 12) := by
    intro f
    by_cases e : 0 = k
    · rw [eq f 0 e, ← e]; rfl
    · rw [show (anc 0).contains k = false from by simp [anc]; omega]
      unfold az_lp rs_M_taken_58_b rs_M_taken_75
      simp (disch := omega) only [bl_lit, lgl, lgg, lgl0, lgg0, lglm, lggm, az_us, az_un, az_ue, az_urn, az_ure, bz_lit, nI_leI, nI_ltI, nI_eq, nI_clamp, nI_add, pk_sub, pk_mul, bz_nlt, bz_nle, bz_ltn, bz_len, bz_neq, bz_eqn, bz_nn, ↓reduceIte, Bool.false_eq_true, if_pos, if_neg, e, Option.map_some]
  have stp : ∀ f d u : Nat, d < 8 → d ≠ k → rs_M_taken_58_b I (nI s) (nI k) (nI d) = some (.inl (nI u)) → az_lp (fun x : Int32 => rs_M_taken_58_b I (nI s) (nI k) x) (f + 1) (nI d) = az_lp (fun x : Int32 => rs_M_taken_58_b I (nI s) (nI k) x) f (nI u) := by
    intro f d u _ _ h
    conv => lhs; unfold az_lp
    (try dsimp only)
    rw [h]
  have gen : ∀ d u : Nat, d < 8 → 0 < d → (∀ k, (anc d).contains k = (decide (d = k) || (anc u).contains k)) → (d ≠ k → rs_M_taken_58_b I (nI s) (nI k) (nI d) = some (.inl (nI u))) →
      ∀ f, az_lp (fun x : Int32 => rs_M_taken_58_b I (nI s) (nI k) x) f (nI u) = some (if (anc u).contains k then I 94 b else -nI 12) → az_lp (fun x : Int32 => rs_M_taken_58_b I (nI s) (nI k) x) (f + 1) (nI d) = some (if (anc d).contains k then I 94 b else -nI 12) := by
    intro d u hd _ ha hb f hf
    by_cases e : d = k
    · rw [eq f d e, ha k, decide_eq_true e]; rfl
    · rw [stp f d u hd e (hb e), hf, ha k, decide_eq_false e, Bool.false_or]
  have up : ∀ d u : Nat, d < 8 → 0 < d → ((d = 3 → u = 2) ∧ (d = 4 → u = 1) ∧ (d = 5 → u = 3) ∧ (d = 7 → u = 4) ∧ (d ≠ 3 → d ≠ 4 → d ≠ 5 → d ≠ 7 → u = 0)) → d ≠ k → rs_M_taken_58_b I (nI s) (nI k) (nI d) = some (.inl (nI u)) := by
    intro d u hd h0 hu hne
    unfold rs_M_taken_58_b
    have h7 : d = 1 ∨ d = 2 ∨ d = 3 ∨ d = 4 ∨ d = 5 ∨ d = 6 ∨ d = 7 := by omega
    rcases h7 with rfl | rfl | rfl | rfl | rfl | rfl | rfl
    · have : u = 0 := by omega
      subst this; simp (disch := omega) only [bl_lit, lgl, lgg, lgl0, lgg0, lglm, lggm, az_us, az_un, az_ue, az_urn, az_ure, bz_lit, nI_leI, nI_ltI, nI_eq, nI_clamp, nI_add, pk_sub, pk_mul, bz_nlt, bz_nle, bz_ltn, bz_len, bz_neq, bz_eqn, bz_nn, ↓reduceIte, Bool.false_eq_true, if_pos, if_neg, hne]
    · have : u = 0 := by omega
      subst this; simp (disch := omega) only [bl_lit, lgl, lgg, lgl0, lgg0, lglm, lggm, az_us, az_un, az_ue, az_urn, az_ure, bz_lit, nI_leI, nI_ltI, nI_eq, nI_clamp, nI_add, pk_sub, pk_mul, bz_nlt, bz_nle, bz_ltn, bz_len, bz_neq, bz_eqn, bz_nn, ↓reduceIte, Bool.false_eq_true, if_pos, if_neg, hne]
    · have : u = 2 := by omega
      subst this; simp (disch := omega) only [bl_lit, lgl, lgg, lgl0, lgg0, lglm, lggm, az_us, az_un, az_ue, az_urn, az_ure, bz_lit, nI_leI, nI_ltI, nI_eq, nI_clamp, nI_add, pk_sub, pk_mul, bz_nlt, bz_nle, bz_ltn, bz_len, bz_neq, bz_eqn, bz_nn, ↓reduceIte, Bool.false_eq_true, if_pos, if_neg, hne]
    · have : u = 1 := by omega
      subst this; simp (disch := omega) only [bl_lit, lgl, lgg, lgl0, lgg0, lglm, lggm, az_us, az_un, az_ue, az_urn, az_ure, bz_lit, nI_leI, nI_ltI, nI_eq, nI_clamp, nI_add, pk_sub, pk_mul, bz_nlt, bz_nle, bz_ltn, bz_len, bz_neq, bz_eqn, bz_nn, ↓reduceIte, Bool.false_eq_true, if_pos, if_neg, hne]
    · have : u = 3 := by omega
      subst this; simp (disch := omega) only [bl_lit, lgl, lgg, lgl0, lgg0, lglm, lggm, az_us, az_un, az_ue, az_urn, az_ure, bz_lit, nI_leI, nI_ltI, nI_eq, nI_clamp, nI_add, pk_sub, pk_mul, bz_nlt, bz_nle, bz_ltn, bz_len, bz_neq, bz_eqn, bz_nn, ↓reduceIte, Bool.false_eq_true, if_pos, if_neg, hne]
    · have : u = 0 := by omega
      subst this; simp (disch := omega) only [bl_lit, lgl, lgg, lgl0, lgg0, lglm, lggm, az_us, az_un, az_ue, az_urn, az_ure, bz_lit, nI_leI, nI_ltI, nI_eq, nI_clamp, nI_add, pk_sub, pk_mul, bz_nlt, bz_nle, bz_ltn, bz_len, bz_neq, bz_eqn, bz_nn, ↓reduceIte, Bool.false_eq_true, if_pos, if_neg, hne]
    · have : u = 4 := by omega
      subst this; simp (disch := omega) only [bl_lit, lgl, lgg, lgl0, lgg0, lglm, lggm, az_us, az_un, az_ue, az_urn, az_ure, bz_lit, nI_leI, nI_ltI, nI_eq, nI_clamp, nI_add, pk_sub, pk_mul, bz_nlt, bz_nle, bz_ltn, bz_len, bz_neq, bz_eqn, bz_nn, ↓reduceIte, Bool.false_eq_true, if_pos, if_neg, hne]
  have cn : ∀ d u : Nat, anc d = d :: anc u → ∀ k, (anc d).contains k = (decide (d = k) || (anc u).contains k) := by
    intro d u e k
    rw [e, List.contains_cons]
    congr 1
    by_cases q : d = k
    · subst q; simp
    · rw [decide_eq_false q]
      exact beq_false_of_ne (fun z => q z.symm)
  have z1 : ∀ f, _ := fun f => gen 1 0 (by omega) (by omega) (cn 1 0 rfl) (up 1 0 (by omega) (by omega) (by omega)) (f + 1) (z0 f)
  have z2 : ∀ f, _ := fun f => gen 2 0 (by omega) (by omega) (cn 2 0 rfl) (up 2 0 (by omega) (by omega) (by omega)) (f + 1) (z0 f)
  have z3 : ∀ f, _ := fun f => gen 3 2 (by omega) (by omega) (cn 3 2 rfl) (up 3 2 (by omega) (by omega) (by omega)) (f + 2) (z2 f)
  have z4 : ∀ f, _ := fun f => gen 4 1 (by omega) (by omega) (cn 4 1 rfl) (up 4 1 (by omega) (by omega) (by omega)) (f + 2) (z1 f)
  have z5 : ∀ f, _ := fun f => gen 5 3 (by omega) (by omega) (cn 5 3 rfl) (up 5 3 (by omega) (by omega) (by omega)) (f + 3) (z3 f)
  have z6 : ∀ f, _ := fun f => gen 6 0 (by omega) (by omega) (cn 6 0 rfl) (up 6 0 (by omega) (by omega) (by omega)) (f + 1) (z0 f)
  have z7 : ∀ f, _ := fun f => gen 7 4 (by omega) (by omega) (cn 7 4 rfl) (up 7 4 (by omega) (by omega) (by omega)) (f + 3) (z4 f)
  intro f
  have h7 : d = 0 ∨ d = 1 ∨ d = 2 ∨ d = 3 ∨ d = 4 ∨ d = 5 ∨ d = 6 ∨ d = 7 := by omega
  rcases h7 with rfl | rfl | rfl | rfl | rfl | rfl | rfl | rfl
  · exact z0 (f + 4)
  · exact z1 (f + 3)
  · exact z2 (f + 3)
  · exact z3 (f + 2)
  · exact z4 (f + 2)
  · exact z5 (f + 1)
  · exact z6 (f + 3)
  · exact z7 (f + 1)
section
variable {I : Nat → Nat → Int32} {J : Nat → Nat → Int64} {rl rd : Nat}
theorem mt_taken (h : Rel I J rl rd) (L : Nat) (xs : Nat → Int32) (a b : Int32) : ∃ v, rs_X_taken (az_ex L xs) I a b = some v ∧ rs_M_taken I a b = some v := by
  unfold rs_X_taken rs_M_taken rs_X_taken_25
  obtain ⟨h1, h2, h3, h4, h5, h6, h7, h8, h9, h10, h11, h12⟩ := h
  obtain ⟨m, r, b1, b2, b3, b4, b5, b6, b7, b8⟩ := h11
  rcases ixc a 5 (by omega) with x | ⟨x, y⟩ | ⟨s, hs, rfl⟩
  · exact ⟨-nI 1, by simp (disch := omega) only [bl_lit, lgl, lgg, lgl0, lgg0, lglm, lggm, az_us, az_un, az_ue, az_urn, az_ure, bz_lit, nI_leI, nI_ltI, nI_eq, nI_clamp, nI_add, pk_sub, pk_mul, bz_nlt, bz_nle, bz_ltn, bz_len, bz_neq, bz_eqn, bz_nn, ↓reduceIte, Bool.false_eq_true, if_pos, if_neg, x], by simp (disch := omega) only [bl_lit, lgl, lgg, lgl0, lgg0, lglm, lggm, az_us, az_un, az_ue, az_urn, az_ure, bz_lit, nI_leI, nI_ltI, nI_eq, nI_clamp, nI_add, pk_sub, pk_mul, bz_nlt, bz_nle, bz_ltn, bz_len, bz_neq, bz_eqn, bz_nn, ↓reduceIte, Bool.false_eq_true, if_pos, if_neg, x]⟩
  · exact ⟨-nI 1, by simp (disch := omega) only [bl_lit, lgl, lgg, lgl0, lgg0, lglm, lggm, az_us, az_un, az_ue, az_urn, az_ure, bz_lit, nI_leI, nI_ltI, nI_eq, nI_clamp, nI_add, pk_sub, pk_mul, bz_nlt, bz_nle, bz_ltn, bz_len, bz_neq, bz_eqn, bz_nn, ↓reduceIte, Bool.false_eq_true, if_pos, if_neg, x, y], by simp (disch := omega) only [bl_lit, lgl, lgg, lgl0, lgg0, lglm, lggm, az_us, az_un, az_ue, az_urn, az_ure, bz_lit, nI_leI, nI_ltI, nI_eq, nI_clamp, nI_add, pk_sub, pk_mul, bz_nlt, bz_nle, bz_ltn, bz_len, bz_neq, bz_eqn, bz_nn, ↓reduceIte, Bool.false_eq_true, if_pos, if_neg, x, y]⟩
  · rcases ixc b 7 (by omega) with x | ⟨x, y⟩ | ⟨k, hk, rfl⟩
    · exact ⟨-nI 1, by simp (disch := omega) only [bl_lit, lgl, lgg, lgl0, lgg0, lglm, lggm, az_us, az_un, az_ue, az_urn, az_ure, bz_lit, nI_leI, nI_ltI, nI_eq, nI_clamp, nI_add, pk_sub, pk_mul, bz_nlt, bz_nle, bz_ltn, bz_len, bz_neq, bz_eqn, bz_nn, ↓reduceIte, Bool.false_eq_true, if_pos, if_neg, x], by simp (disch := omega) only [bl_lit, lgl, lgg, lgl0, lgg0, lglm, lggm, az_us, az_un, az_ue, az_urn, az_ure, bz_lit, nI_leI, nI_ltI, nI_eq, nI_clamp, nI_add, pk_sub, pk_mul, bz_nlt, bz_nle, bz_ltn, bz_len, bz_neq, bz_eqn, bz_nn, ↓reduceIte, Bool.false_eq_true, if_pos, if_neg, x]⟩
    · exact ⟨-nI 1, by simp (disch := omega) only [bl_lit, lgl, lgg, lgl0, lgg0, lglm, lggm, az_us, az_un, az_ue, az_urn, az_ure, bz_lit, nI_leI, nI_ltI, nI_eq, nI_clamp, nI_add, pk_sub, pk_mul, bz_nlt, bz_nle, bz_ltn, bz_len, bz_neq, bz_eqn, bz_nn, ↓reduceIte, Bool.false_eq_true, if_pos, if_neg, x, y], by simp (disch := omega) only [bl_lit, lgl, lgg, lgl0, lgg0, lglm, lggm, az_us, az_un, az_ue, az_urn, az_ure, bz_lit, nI_leI, nI_ltI, nI_eq, nI_clamp, nI_add, pk_sub, pk_mul, bz_nlt, bz_nle, bz_ltn, bz_len, bz_neq, bz_eqn, bz_nn, ↓reduceIte, Bool.false_eq_true, if_pos, if_neg, x, y]⟩
    · rcases h12 s (by omega) with ⟨e1, e2, e3⟩ | ⟨q, e1, e2, e3, e4, e5⟩ | ⟨t, m', t1, t2, e1, e2, e3, e4, e5, e6⟩
      · exact ⟨-nI 11, by simp (disch := omega) only [bl_lit, lgl, lgg, lgl0, lgg0, lglm, lggm, az_us, az_un, az_ue, az_urn, az_ure, bz_lit, nI_leI, nI_ltI, nI_eq, nI_clamp, nI_add, pk_sub, pk_mul, bz_nlt, bz_nle, bz_ltn, bz_len, bz_neq, bz_eqn, bz_nn, ↓reduceIte, Bool.false_eq_true, if_pos, if_neg, e1, e2], by simp (disch := omega) only [bl_lit, lgl, lgg, lgl0, lgg0, lglm, lggm, az_us, az_un, az_ue, az_urn, az_ure, bz_lit, nI_leI, nI_ltI, nI_eq, nI_clamp, nI_add, pk_sub, pk_mul, bz_nlt, bz_nle, bz_ltn, bz_len, bz_neq, bz_eqn, bz_nn, ↓reduceIte, Bool.false_eq_true, if_pos, if_neg, e3]⟩
      · rw [b3, nI_toInt (by omega)] at e4
        obtain ⟨d, d1, d2, d3⟩ := b7 q (by omega)
        have x := tk_X (L := L) (xs := xs) (I := I) (d := d) (k := k) d1 (by omega)
        have y := tk_M (I := I) (s := s) (b := q) (k := k) (d := d) (by omega) e5 (by omega) d1 e3 99995
        refine ⟨if (anc d).contains k then nI d else -nI 12, ?_, ?_⟩
        · simp (disch := omega) only [bl_lit, lgl, lgg, lgl0, lgg0, lglm, lggm, az_us, az_un, az_ue, az_urn, az_ure, bz_lit, nI_leI, nI_ltI, nI_eq, nI_clamp, nI_add, pk_sub, pk_mul, bz_nlt, bz_nle, bz_ltn, bz_len, bz_neq, bz_eqn, bz_nn, ↓reduceIte, Bool.false_eq_true, if_pos, if_neg, e1, e2, b3, d2, x]
          cases (anc d).contains k
          · rfl
          · rfl
        · simp (disch := omega) only [bl_lit, lgl, lgg, lgl0, lgg0, lglm, lggm, az_us, az_un, az_ue, az_urn, az_ure, bz_lit, nI_leI, nI_ltI, nI_eq, nI_clamp, nI_add, pk_sub, pk_mul, bz_nlt, bz_nle, bz_ltn, bz_len, bz_neq, bz_eqn, bz_nn, ↓reduceIte, Bool.false_eq_true, if_pos, if_neg, e3, d3]
          unfold rs_M_taken_58
          rw [y, d3]
      · exact ⟨-nI 12, by simp (disch := omega) only [bl_lit, lgl, lgg, lgl0, lgg0, lglm, lggm, az_us, az_un, az_ue, az_urn, az_ure, bz_lit, nI_leI, nI_ltI, nI_eq, nI_clamp, nI_add, pk_sub, pk_mul, bz_nlt, bz_nle, bz_ltn, bz_len, bz_neq, bz_eqn, bz_nn, ↓reduceIte, Bool.false_eq_true, if_pos, if_neg, e1, e2], by simp (disch := omega) only [bl_lit, lgl, lgg, lgl0, lgg0, lglm, lggm, az_us, az_un, az_ue, az_urn, az_ure, bz_lit, nI_leI, nI_ltI, nI_eq, nI_clamp, nI_add, pk_sub, pk_mul, bz_nlt, bz_nle, bz_ltn, bz_len, bz_neq, bz_eqn, bz_nn, ↓reduceIte, Bool.false_eq_true, if_pos, if_neg, e4]⟩
end

/-! walker, walkers -/
def ft (a b c : Int32) : Prop := (¬ a < -nI 9 ∧ ¬ nI 9 < a) ∧ (¬ b < nI 0 ∧ ¬ nI 9 < b) ∧ (¬ c < nI 1 ∧ ¬ nI 9 < c)
theorem ft_1 {a b c : Int32} (h : ft a b c) : rs_M_mayCome a.toInt64 b.toInt64 c.toInt64 = some 1 := by
  obtain ⟨⟨h1, h2⟩, ⟨h3, h4⟩, h5, h6⟩ := h
  unfold rs_M_mayCome
  simp (disch := omega) only [bl_lit, lgl, lgg, lgl0, lgg0, lglm, lggm, az_us, az_un, az_ue, az_urn, az_ure, bz_lit, nI_leI, nI_ltI, nI_eq, nI_clamp, nI_add, pk_sub, pk_mul, bz_nlt, bz_nle, bz_ltn, bz_len, bz_neq, bz_eqn, bz_nn, ↓reduceIte, Bool.false_eq_true, if_pos, if_neg, h1, h2, h3, h4, h5, h6]
theorem ft_0 {a b c : Int32} (h : ¬ ft a b c) : rs_M_mayCome a.toInt64 b.toInt64 c.toInt64 = some 0 := by
  unfold rs_M_mayCome
  by_cases h1 : a < -nI 9
  · simp (disch := omega) only [bl_lit, lgl, lgg, lgl0, lgg0, lglm, lggm, az_us, az_un, az_ue, az_urn, az_ure, bz_lit, nI_leI, nI_ltI, nI_eq, nI_clamp, nI_add, pk_sub, pk_mul, bz_nlt, bz_nle, bz_ltn, bz_len, bz_neq, bz_eqn, bz_nn, ↓reduceIte, Bool.false_eq_true, if_pos, if_neg, h1]
  · by_cases h2 : nI 9 < a
    · simp (disch := omega) only [bl_lit, lgl, lgg, lgl0, lgg0, lglm, lggm, az_us, az_un, az_ue, az_urn, az_ure, bz_lit, nI_leI, nI_ltI, nI_eq, nI_clamp, nI_add, pk_sub, pk_mul, bz_nlt, bz_nle, bz_ltn, bz_len, bz_neq, bz_eqn, bz_nn, ↓reduceIte, Bool.false_eq_true, if_pos, if_neg, h1, h2]
    · by_cases h3 : b < nI 0
      · simp (disch := omega) only [bl_lit, lgl, lgg, lgl0, lgg0, lglm, lggm, az_us, az_un, az_ue, az_urn, az_ure, bz_lit, nI_leI, nI_ltI, nI_eq, nI_clamp, nI_add, pk_sub, pk_mul, bz_nlt, bz_nle, bz_ltn, bz_len, bz_neq, bz_eqn, bz_nn, ↓reduceIte, Bool.false_eq_true, if_pos, if_neg, h1, h2, h3]
      · by_cases h4 : nI 9 < b
        · simp (disch := omega) only [bl_lit, lgl, lgg, lgl0, lgg0, lglm, lggm, az_us, az_un, az_ue, az_urn, az_ure, bz_lit, nI_leI, nI_ltI, nI_eq, nI_clamp, nI_add, pk_sub, pk_mul, bz_nlt, bz_nle, bz_ltn, bz_len, bz_neq, bz_eqn, bz_nn, ↓reduceIte, Bool.false_eq_true, if_pos, if_neg, h1, h2, h3, h4]
        · by_cases h5 : c < nI 1
          · simp (disch := omega) only [bl_lit, lgl, lgg, lgl0, lgg0, lglm, lggm, az_us, az_un, az_ue, az_urn, az_ure, bz_lit, nI_leI, nI_ltI, nI_eq, nI_clamp, nI_add, pk_sub, pk_mul, bz_nlt, bz_nle, bz_ltn, bz_len, bz_neq, bz_eqn, bz_nn, ↓reduceIte, Bool.false_eq_true, if_pos, if_neg, h1, h2, h3, h4, h5]
          · by_cases h6 : nI 9 < c
            · simp (disch := omega) only [bl_lit, lgl, lgg, lgl0, lgg0, lglm, lggm, az_us, az_un, az_ue, az_urn, az_ure, bz_lit, nI_leI, nI_ltI, nI_eq, nI_clamp, nI_add, pk_sub, pk_mul, bz_nlt, bz_nle, bz_ltn, bz_len, bz_neq, bz_eqn, bz_nn, ↓reduceIte, Bool.false_eq_true, if_pos, if_neg, h1, h2, h3, h4, h5, h6]
            · exact absurd ⟨⟨h1, h2⟩, ⟨h3, h4⟩, h5, h6⟩ h
theorem ft_f3 (a : Int32) : rs_Mo_isFit 3 a = some (if a < -nI 9 then 0 else if nI 9 < a then 0 else 1) := by
  unfold rs_Mo_isFit
  by_cases h1 : a < -nI 9
  · simp (disch := omega) only [bl_lit, lgl, lgg, lgl0, lgg0, lglm, lggm, az_us, az_un, az_ue, az_urn, az_ure, bz_lit, nI_leI, nI_ltI, nI_eq, nI_clamp, nI_add, pk_sub, pk_mul, bz_nlt, bz_nle, bz_ltn, bz_len, bz_neq, bz_eqn, bz_nn, ↓reduceIte, Bool.false_eq_true, if_pos, if_neg, h1]
  · by_cases h2 : nI 9 < a
    · simp (disch := omega) only [bl_lit, lgl, lgg, lgl0, lgg0, lglm, lggm, az_us, az_un, az_ue, az_urn, az_ure, bz_lit, nI_leI, nI_ltI, nI_eq, nI_clamp, nI_add, pk_sub, pk_mul, bz_nlt, bz_nle, bz_ltn, bz_len, bz_neq, bz_eqn, bz_nn, ↓reduceIte, Bool.false_eq_true, if_pos, if_neg, h1, h2]
    · simp (disch := omega) only [bl_lit, lgl, lgg, lgl0, lgg0, lglm, lggm, az_us, az_un, az_ue, az_urn, az_ure, bz_lit, nI_leI, nI_ltI, nI_eq, nI_clamp, nI_add, pk_sub, pk_mul, bz_nlt, bz_nle, bz_ltn, bz_len, bz_neq, bz_eqn, bz_nn, ↓reduceIte, Bool.false_eq_true, if_pos, if_neg, h1, h2]
theorem ft_f4 (a : Int32) : rs_Mo_isFit 4 a = some (if a < nI 0 then 0 else if nI 9 < a then 0 else 1) := by
  unfold rs_Mo_isFit
  by_cases h1 : a < nI 0
  · simp (disch := omega) only [bl_lit, lgl, lgg, lgl0, lgg0, lglm, lggm, az_us, az_un, az_ue, az_urn, az_ure, bz_lit, nI_leI, nI_ltI, nI_eq, nI_clamp, nI_add, pk_sub, pk_mul, bz_nlt, bz_nle, bz_ltn, bz_len, bz_neq, bz_eqn, bz_nn, ↓reduceIte, Bool.false_eq_true, if_pos, if_neg, h1]
  · by_cases h2 : nI 9 < a
    · simp (disch := omega) only [bl_lit, lgl, lgg, lgl0, lgg0, lglm, lggm, az_us, az_un, az_ue, az_urn, az_ure, bz_lit, nI_leI, nI_ltI, nI_eq, nI_clamp, nI_add, pk_sub, pk_mul, bz_nlt, bz_nle, bz_ltn, bz_len, bz_neq, bz_eqn, bz_nn, ↓reduceIte, Bool.false_eq_true, if_pos, if_neg, h1, h2]
    · simp (disch := omega) only [bl_lit, lgl, lgg, lgl0, lgg0, lglm, lggm, az_us, az_un, az_ue, az_urn, az_ure, bz_lit, nI_leI, nI_ltI, nI_eq, nI_clamp, nI_add, pk_sub, pk_mul, bz_nlt, bz_nle, bz_ltn, bz_len, bz_neq, bz_eqn, bz_nn, ↓reduceIte, Bool.false_eq_true, if_pos, if_neg, h1, h2]
theorem ft_f5 (a : Int32) : rs_Mo_isFit 5 a = some (if a < nI 1 then 0 else if nI 9 < a then 0 else 1) := by
  unfold rs_Mo_isFit
  by_cases h1 : a < nI 1
  · simp (disch := omega) only [bl_lit, lgl, lgg, lgl0, lgg0, lglm, lggm, az_us, az_un, az_ue, az_urn, az_ure, bz_lit, nI_leI, nI_ltI, nI_eq, nI_clamp, nI_add, pk_sub, pk_mul, bz_nlt, bz_nle, bz_ltn, bz_len, bz_neq, bz_eqn, bz_nn, ↓reduceIte, Bool.false_eq_true, if_pos, if_neg, h1]
  · by_cases h2 : nI 9 < a
    · simp (disch := omega) only [bl_lit, lgl, lgg, lgl0, lgg0, lglm, lggm, az_us, az_un, az_ue, az_urn, az_ure, bz_lit, nI_leI, nI_ltI, nI_eq, nI_clamp, nI_add, pk_sub, pk_mul, bz_nlt, bz_nle, bz_ltn, bz_len, bz_neq, bz_eqn, bz_nn, ↓reduceIte, Bool.false_eq_true, if_pos, if_neg, h1, h2]
    · simp (disch := omega) only [bl_lit, lgl, lgg, lgl0, lgg0, lglm, lggm, az_us, az_un, az_ue, az_urn, az_ure, bz_lit, nI_leI, nI_ltI, nI_eq, nI_clamp, nI_add, pk_sub, pk_mul, bz_nlt, bz_nle, bz_ltn, bz_len, bz_neq, bz_eqn, bz_nn, ↓reduceIte, Bool.false_eq_true, if_pos, if_neg, h1, h2]
def wk_F (nw n : Nat) : Nat → Nat → Prop := fun r k => ((r = 8 ∨ r = 9 ∨ r = 10 ∨ r = 78 ∨ r = 79) ∧ nw ≤ k ∧ k < nw + n) ∨ (r = 4 ∧ k = 9) ∨ (r = 73 ∧ k = 7) ∨ (r = 74 ∧ (160 + nw ≤ k ∧ k < 160 + nw + n ∨ 166 + nw ≤ k ∧ k < 166 + nw + n ∨ 172 + nw ≤ k ∧ k < 172 + nw + n))
theorem wk_add {I I2 : Nat → Nat → Int32} {J : Nat → Nat → Int64} {rl rd nw n : Nat} (h : Rel I J rl rd) (hnw : I 4 9 = nI nw) (hk : nw + n ≤ 6) (he lo sh : Nat → Int32) (hr : ∀ j, j < n → -9 ≤ (he j).toInt ∧ (he j).toInt ≤ 9)
    (c1 : I2 4 9 = nI (nw + n)) (c2 : I2 73 7 = nI (nw + n))
    (c3 : ∀ j, j < n → (I2 8 (nw + j) = he j ∧ I2 9 (nw + j) = lo j ∧ I2 10 (nw + j) = sh j) ∧ I2 74 (160 + (nw + j)) = he j ∧ I2 74 (166 + (nw + j)) = lo j ∧ I2 74 (172 + (nw + j)) = sh j ∧ I2 78 (nw + j) = nI 0 ∧ I2 79 (nw + j) = nI 0)
    (hf : az_fr (wk_F nw n) I I2) : Rel I2 J rl rd := by
  obtain ⟨h1, h2, h3, h4, h5, h6, h7, h8, h9, h10, h11, h12⟩ := h
  refine ⟨?_, h2.fr ?_, h3.fr ?_, ?_, ?_, h6.fr ?_, h7.fr ?_, h8.fr ?_, h9.fr ?_, ?_, h11.fr ?_, h12.fr ?_⟩
  · obtain ⟨np, nw', p1, p2, p3, p4, p5, p6⟩ := h1
    refine ⟨np, nw + n, p1, hk, ?_, ?_, c1, c2⟩
    · rw [hf 4 3 (by unfold wk_F; omega)]; exact p3
    · rw [hf 73 6 (by unfold wk_F; omega)]; exact p4
  · intro r k q; exact hf r k (by unfold S_hts at q; unfold wk_F; omega)
  · intro r k q; exact hf r k (by unfold S_pst at q; unfold wk_F; omega)
  · obtain ⟨h4, g4⟩ := h4
    refine ⟨fun w hw => ?_, ?_⟩
    · by_cases e : nw ≤ w ∧ w < nw + n
      · obtain ⟨⟨a1, a2, a3⟩, a4, a5, a6, a7, a8⟩ := c3 (w - nw) (by omega)
        have hrw := hr (w - nw) (by omega)
        rw [show nw + (w - nw) = w from by omega] at a1 a2 a3 a4 a5 a6
        rw [a1, a2, a3, a4, a5, a6]
        exact ⟨rfl, hrw, rfl, rfl⟩
      · rw [hf 8 w (by unfold wk_F; omega), hf 9 w (by unfold wk_F; omega), hf 10 w (by unfold wk_F; omega), hf 74 (160 + w) (by unfold wk_F; omega), hf 74 (166 + w) (by unfold wk_F; omega), hf 74 (172 + w) (by unfold wk_F; omega)]
        exact h4 w hw
    · rw [hf 74 178 (by unfold wk_F; omega), hf 4 10 (by unfold wk_F; omega)]
      exact g4
  · intro w hw
    obtain ⟨⟨c, s1, s2, s3⟩, s4, s5⟩ := h5 w hw
    rw [hnw, nI_toInt (by omega)] at s5
    rw [hf 11 w (by unfold wk_F; omega), hf 12 w (by unfold wk_F; omega), c1, nI_toInt (by omega)]
    by_cases e : nw ≤ w ∧ w < nw + n
    · obtain ⟨_, a4, a5, a6, a7, a8⟩ := c3 (w - nw) (by omega)
      rw [show nw + (w - nw) = w from by omega] at a7 a8
      obtain ⟨z1, z2⟩ := s5 (by omega)
      rw [a7, a8, z1, z2]
      exact ⟨⟨0, by omega, rfl, rfl⟩, rfl, fun _ => ⟨rfl, rfl⟩⟩
    · rw [hf 78 w (by unfold wk_F; omega), hf 79 w (by unfold wk_F; omega)]
      exact ⟨⟨c, s1, s2, s3⟩, s4, fun q => s5 (by omega)⟩
  · intro r k q; exact hf r k (by unfold S_led at q; unfold wk_F; omega)
  · intro r k q; exact hf r k (by unfold S_tap at q; unfold wk_F; omega)
  · intro r k q; exact hf r k (by unfold S_law at q; unfold wk_F; omega)
  · intro r k q; exact hf r k (by unfold S_chg at q; unfold wk_F; omega)
  · unfold rl_img
    rw [hf 49 0 (by unfold wk_F; omega), hf 73 29 (by unfold wk_F; omega)]
    rcases h10 with h | ⟨h1, h2, m, h3, h4, h5, h6, h7, h8⟩
    · exact Or.inl h
    · refine Or.inr ⟨h1, h2, m, h3, ?_, ?_, ?_, fun w hw => ?_, fun k hk => ?_⟩
      · rw [hf 49 1 (by unfold wk_F; omega)]; exact h4
      · rw [hf 73 30 (by unfold wk_F; omega)]; exact h5
      · rw [c1, nI_toInt (by omega)]
        rw [hnw, nI_toInt (by omega)] at h6
        omega
      · rw [hf 50 w (by unfold wk_F; omega), hf 51 w (by unfold wk_F; omega), hf 52 w (by unfold wk_F; omega), hf 53 w (by unfold wk_F; omega), hf 92 (4 * w) (by unfold wk_F; omega), hf 92 (4 * w + 1) (by unfold wk_F; omega), hf 92 (4 * w + 2) (by unfold wk_F; omega), hf 92 (4 * w + 3) (by unfold wk_F; omega)]
        exact h7 w hw
      · rw [hf 93 k (by unfold wk_F; omega), hf 54 k (by unfold wk_F; omega)]; exact h8 k hk
  · intro r k q; exact hf r k (by unfold S_bod at q; unfold wk_F; omega)
  · intro r k q; exact hf r k (by unfold S_shf at q; unfold wk_F; omega)
theorem wk_X {I : Nat → Nat → Int32} {nw : Nat} (h : I 4 9 = nI nw) (hn : nw < 6) (a b c : Int32) : rs_Mo_addWalker I a b c = some (nI nw, az_u (az_u (az_u (az_u I 8 nw a) 9 nw b) 10 nw c) 4 9 (nI (nw + 1))) := by
  unfold rs_Mo_addWalker
  simp (disch := omega) only [bl_lit, lgl, lgg, lgl0, lgg0, lglm, lggm, az_us, az_un, az_ue, az_urn, az_ure, bz_lit, nI_leI, nI_ltI, nI_eq, nI_clamp, nI_add, pk_sub, pk_mul, bz_nlt, bz_nle, bz_ltn, bz_len, bz_neq, bz_eqn, bz_nn, ↓reduceIte, Bool.false_eq_true, if_pos, if_neg, h]
theorem wk_M {I : Nat → Nat → Int32} {nw : Nat} (h : I 73 7 = nI nw) (hn : nw < 6) (a b c : Int32) : rs_M_adds I a b c = some (az_u (az_u (az_u (az_u (az_u (az_u I 74 (160 + nw) a) 74 (166 + nw) b) 74 (172 + nw) c) 78 nw (nI 0)) 79 nw (nI 0)) 73 7 (nI (nw + 1))) := by
  unfold rs_M_adds
  simp (disch := omega) only [bl_lit, lgl, lgg, lgl0, lgg0, lglm, lggm, az_us, az_un, az_ue, az_urn, az_ure, bz_lit, nI_leI, nI_ltI, nI_eq, nI_clamp, nI_add, pk_sub, pk_mul, bz_nlt, bz_nle, bz_ltn, bz_len, bz_neq, bz_eqn, bz_nn, ↓reduceIte, Bool.false_eq_true, if_pos, if_neg, h]
section
variable {I : Nat → Nat → Int32} {J : Nat → Nat → Int64} {rl rd : Nat}
theorem mt_walker (h : Rel I J rl rd) (a : Int32) : mt (rs_X_walker I a) (fun I => rs_M_walker I a) J rl rd := by
  unfold rs_X_walker rs_M_walker
  by_cases hft : ft a 0 5
  · have m1 := ft_1 hft
    obtain ⟨⟨q1, q2⟩, _⟩ := hft
    have g := h.1
    obtain ⟨np, nw, p1, p2, p3, p4, p5, p6⟩ := g
    by_cases hn : nw < 6
    · refine ⟨nI nw, az_u (az_u (az_u (az_u I 8 nw a) 9 nw (nI 0)) 10 nw (nI 5)) 4 9 (nI (nw + 1)), az_u (az_u (az_u (az_u (az_u (az_u (az_u (az_u (az_u (az_u I 8 nw a) 9 nw (nI 0)) 10 nw (nI 5)) 4 9 (nI (nw + 1))) 74 (160 + nw) a) 74 (166 + nw) (nI 0)) 74 (172 + nw) (nI 5)) 78 nw (nI 0)) 79 nw (nI 0)) 73 7 (nI (nw + 1)), ?_, ?_, wk_add h p5 (n := 1) (by omega) (fun _ => a) (fun _ => nI 0) (fun _ => nI 5) (fun _ _ => bz_rng2 (m := 9) (n := 9) (by decide) (by decide) q1 q2) ?_ ?_ ?_ ?_⟩
      · simp (disch := omega) only [bl_lit, lgl, lgg, lgl0, lgg0, lglm, lggm, az_us, az_un, az_ue, az_urn, az_ure, bz_lit, nI_leI, nI_ltI, nI_eq, nI_clamp, nI_add, pk_sub, pk_mul, bz_nlt, bz_nle, bz_ltn, bz_len, bz_neq, bz_eqn, bz_nn, ↓reduceIte, Bool.false_eq_true, if_pos, if_neg, q1, q2, wk_X p5 hn]
      · (try dsimp only)
        rw [show (0 : Int64) = (0 : Int32).toInt64 from rfl, show (5 : Int64) = (5 : Int32).toInt64 from rfl, m1]
        simp (disch := omega) only [bl_lit, lgl, lgg, lgl0, lgg0, lglm, lggm, az_us, az_un, az_ue, az_urn, az_ure, bz_lit, nI_leI, nI_ltI, nI_eq, nI_clamp, nI_add, pk_sub, pk_mul, bz_nlt, bz_nle, bz_ltn, bz_len, bz_neq, bz_eqn, bz_nn, ↓reduceIte, Bool.false_eq_true, if_pos, if_neg, p6]
        rw [wk_M (nw := nw) (by simp (disch := omega) only [bl_lit, lgl, lgg, lgl0, lgg0, lglm, lggm, az_us, az_un, az_ue, az_urn, az_ure, bz_lit, nI_leI, nI_ltI, nI_eq, nI_clamp, nI_add, pk_sub, pk_mul, bz_nlt, bz_nle, bz_ltn, bz_len, bz_neq, bz_eqn, bz_nn, ↓reduceIte, Bool.false_eq_true, if_pos, if_neg, p6]) hn]
        simp (disch := omega) only [bl_lit, lgl, lgg, lgl0, lgg0, lglm, lggm, az_us, az_un, az_ue, az_urn, az_ure, bz_lit, nI_leI, nI_ltI, nI_eq, nI_clamp, nI_add, pk_sub, pk_mul, bz_nlt, bz_nle, bz_ltn, bz_len, bz_neq, bz_eqn, bz_nn, ↓reduceIte, Bool.false_eq_true, if_pos, if_neg, Nat.add_sub_cancel]
      · simp (disch := omega) only [bl_lit, lgl, lgg, lgl0, lgg0, lglm, lggm, az_us, az_un, az_ue, az_urn, az_ure, bz_lit, nI_leI, nI_ltI, nI_eq, nI_clamp, nI_add, pk_sub, pk_mul, bz_nlt, bz_nle, bz_ltn, bz_len, bz_neq, bz_eqn, bz_nn, ↓reduceIte, Bool.false_eq_true, if_pos, if_neg]
      · simp (disch := omega) only [bl_lit, lgl, lgg, lgl0, lgg0, lglm, lggm, az_us, az_un, az_ue, az_urn, az_ure, bz_lit, nI_leI, nI_ltI, nI_eq, nI_clamp, nI_add, pk_sub, pk_mul, bz_nlt, bz_nle, bz_ltn, bz_len, bz_neq, bz_eqn, bz_nn, ↓reduceIte, Bool.false_eq_true, if_pos, if_neg]
      · intro j hj
        have : j = 0 := by omega
        subst this
        simp (disch := omega) only [bl_lit, lgl, lgg, lgl0, lgg0, lglm, lggm, az_us, az_un, az_ue, az_urn, az_ure, bz_lit, nI_leI, nI_ltI, nI_eq, nI_clamp, nI_add, pk_sub, pk_mul, bz_nlt, bz_nle, bz_ltn, bz_len, bz_neq, bz_eqn, bz_nn, ↓reduceIte, Bool.false_eq_true, if_pos, if_neg, Nat.add_zero]
        exact ⟨⟨trivial, trivial, trivial⟩, trivial, trivial, trivial, trivial, trivial⟩
      · unfold wk_F
        exact (by refine ((((((((((az_fr.refl.u ?_).u ?_).u ?_).u ?_).u ?_).u ?_).u ?_).u ?_).u ?_).u ?_) <;> (try dsimp only) <;> omega)
    · have : nw = 6 := by omega
      subst this
      refine ⟨-nI 3, I, I, ?_, ?_, h⟩
      · unfold rs_Mo_addWalker
        simp (disch := omega) only [bl_lit, lgl, lgg, lgl0, lgg0, lglm, lggm, az_us, az_un, az_ue, az_urn, az_ure, bz_lit, nI_leI, nI_ltI, nI_eq, nI_clamp, nI_add, pk_sub, pk_mul, bz_nlt, bz_nle, bz_ltn, bz_len, bz_neq, bz_eqn, bz_nn, ↓reduceIte, Bool.false_eq_true, if_pos, if_neg, q1, q2, p5]
      · (try dsimp only)
        rw [show (0 : Int64) = (0 : Int32).toInt64 from rfl, show (5 : Int64) = (5 : Int32).toInt64 from rfl, m1]
        simp (disch := omega) only [bl_lit, lgl, lgg, lgl0, lgg0, lglm, lggm, az_us, az_un, az_ue, az_urn, az_ure, bz_lit, nI_leI, nI_ltI, nI_eq, nI_clamp, nI_add, pk_sub, pk_mul, bz_nlt, bz_nle, bz_ltn, bz_len, bz_neq, bz_eqn, bz_nn, ↓reduceIte, Bool.false_eq_true, if_pos, if_neg, p6]
  · have m0 := ft_0 hft
    have q : a < -nI 9 ∨ nI 9 < a := by
      by_cases q1 : a < -nI 9
      · exact Or.inl q1
      · by_cases q2 : nI 9 < a
        · exact Or.inr q2
        · exact absurd ⟨⟨q1, q2⟩, ⟨by decide, by decide⟩, by decide, by decide⟩ hft
    refine ⟨-nI 1, I, I, ?_, ?_, h⟩
    · by_cases q1 : a < -nI 9
      · simp (disch := omega) only [bl_lit, lgl, lgg, lgl0, lgg0, lglm, lggm, az_us, az_un, az_ue, az_urn, az_ure, bz_lit, nI_leI, nI_ltI, nI_eq, nI_clamp, nI_add, pk_sub, pk_mul, bz_nlt, bz_nle, bz_ltn, bz_len, bz_neq, bz_eqn, bz_nn, ↓reduceIte, Bool.false_eq_true, if_pos, if_neg, q1]
      · rcases q with q | q
        · exact absurd q q1
        · simp (disch := omega) only [bl_lit, lgl, lgg, lgl0, lgg0, lglm, lggm, az_us, az_un, az_ue, az_urn, az_ure, bz_lit, nI_leI, nI_ltI, nI_eq, nI_clamp, nI_add, pk_sub, pk_mul, bz_nlt, bz_nle, bz_ltn, bz_len, bz_neq, bz_eqn, bz_nn, ↓reduceIte, Bool.false_eq_true, if_pos, if_neg, q1, q]
    · (try dsimp only)
      rw [show (0 : Int64) = (0 : Int32).toInt64 from rfl, show (5 : Int64) = (5 : Int32).toInt64 from rfl, m0]
      simp (disch := omega) only [bl_lit, lgl, lgg, lgl0, lgg0, lglm, lggm, az_us, az_un, az_ue, az_urn, az_ure, bz_lit, nI_leI, nI_ltI, nI_eq, nI_clamp, nI_add, pk_sub, pk_mul, bz_nlt, bz_nle, bz_ltn, bz_len, bz_neq, bz_eqn, bz_nn, ↓reduceIte, Bool.false_eq_true, if_pos, if_neg]
theorem bz_l32 {x : Int64} (h1 : -2147483648 ≤ x.toInt) (h2 : x.toInt < 2147483648) : x.toInt32.toInt64 = x := by
  apply Int64.toInt_inj.mp
  rw [Int32.toInt_toInt64, Int64.toInt_toInt32]
  exact Int.bmod_eq_of_le (by omega) (by omega)
/-- the c-th three of a row can come -/
def wk_P (J : Nat → Nat → Int64) (q i m n nw c : Nat) : Prop := c < n ∧ i + 3 * c + 3 ≤ m ∧ nw + c < 6 ∧ ft (J q (i + 3 * c)).toInt32 (J q (i + 3 * c + 1)).toInt32 (J q (i + 3 * c + 2)).toInt32
theorem wk_Xl {s i m n nw : Nat} (hs : s < 6) (hi : i < 60) (hm : m ≤ 60) (hn : n ≤ 6) (h9 : I 4 9 = nI nw) (hnw : nw ≤ 6) (h2 : I (61 + 2 * s) 2 = nI m) :
    ∃ x, rs_X_walkers_52 (61 + 2 * s) I J (nI i) (nI n) (nI 0) = some x ∧ ∃ c I', x = (nI c, I') ∧ (∀ j, j < c → wk_P J (62 + 2 * s) i m n nw j) ∧ ¬ wk_P J (62 + 2 * s) i m n nw c ∧ nw + c ≤ 6 ∧ I' 4 9 = nI (nw + c) ∧
      (∀ j, j < c → I' 8 (nw + j) = (J (62 + 2 * s) (i + 3 * j)).toInt32 ∧ I' 9 (nw + j) = (J (62 + 2 * s) (i + 3 * j + 1)).toInt32 ∧ I' 10 (nw + j) = (J (62 + 2 * s) (i + 3 * j + 2)).toInt32) ∧ az_fr (fun r k => ((r = 8 ∨ r = 9 ∨ r = 10) ∧ nw ≤ k ∧ k < nw + c) ∨ (r = 4 ∧ k = 9)) I I' := by
  unfold rs_X_walkers_52
  refine az_for0 (fun c (z : Int32 × (Nat → Nat → Int32)) => z.1 = nI c ∧ (∀ j, j < c → wk_P J (62 + 2 * s) i m n nw j) ∧ nw + c ≤ 6 ∧ z.2 4 9 = nI (nw + c) ∧
      (∀ j, j < c → z.2 8 (nw + j) = (J (62 + 2 * s) (i + 3 * j)).toInt32 ∧ z.2 9 (nw + j) = (J (62 + 2 * s) (i + 3 * j + 1)).toInt32 ∧ z.2 10 (nw + j) = (J (62 + 2 * s) (i + 3 * j + 2)).toInt32) ∧ az_fr (fun r k => ((r = 8 ∨ r = 9 ∨ r = 10) ∧ nw ≤ k ∧ k < nw + c) ∨ (r = 4 ∧ k = 9)) I z.2) n (by omega)
    ⟨rfl, fun j hj => absurd hj (Nat.not_lt_zero j), hnw, h9, fun j hj => absurd hj (Nat.not_lt_zero j), az_fr.refl⟩ ?_ ?_
  · intro c z hc hz
    obtain ⟨v5, I1⟩ := z
    obtain ⟨e, hP, hle, h49, hcs, hf⟩ := hz
    (try dsimp only at e h49 hcs hf)
    subst e
    show ∃ o, rs_X_walkers_52_b (61 + 2 * s) J (nI i) (nI n) (nI c) I1 = some o ∧ _
    have g2 : I1 (61 + 2 * s) 2 = nI m := by rw [hf _ 2 (by (try dsimp only); omega)]; exact h2
    unfold rs_X_walkers_52_b rs_X_addFromRow rs_X_addFromRow_83 rs_X_addFromRow_84
    rw [show 61 + 2 * s + 1 = 62 + 2 * s from by omega, ft_f3, ft_f4, ft_f5]
    have stop : ¬ wk_P J (62 + 2 * s) i m n nw c → ∃ c' I', ((nI c, I1) : Int32 × (Nat → Nat → Int32)) = (nI c', I') ∧ (∀ j, j < c' → wk_P J (62 + 2 * s) i m n nw j) ∧ ¬ wk_P J (62 + 2 * s) i m n nw c' ∧ nw + c' ≤ 6 ∧ I' 4 9 = nI (nw + c') ∧
      (∀ j, j < c' → I' 8 (nw + j) = (J (62 + 2 * s) (i + 3 * j)).toInt32 ∧ I' 9 (nw + j) = (J (62 + 2 * s) (i + 3 * j + 1)).toInt32 ∧ I' 10 (nw + j) = (J (62 + 2 * s) (i + 3 * j + 2)).toInt32) ∧ az_fr (fun r k => ((r = 8 ∨ r = 9 ∨ r = 10) ∧ nw ≤ k ∧ k < nw + c') ∨ (r = 4 ∧ k = 9)) I I' :=
      fun hn => ⟨c, I1, rfl, hP, hn, hle, h49, hcs, hf⟩
    by_cases u1 : i + 3 * c + 3 ≤ m
    · by_cases u2 : nw + c < 6
      · by_cases u3 : ft (J (62 + 2 * s) (i + 3 * c)).toInt32 (J (62 + 2 * s) (i + 3 * c + 1)).toInt32 (J (62 + 2 * s) (i + 3 * c + 2)).toInt32
        · have u3' := u3
          obtain ⟨⟨z1, z2⟩, ⟨z3, z4⟩, z5, z6⟩ := u3'
          refine az_nxt (nI (c + 1), az_u (az_u (az_u (az_u I1 8 (nw + c) (J (62 + 2 * s) (i + 3 * c)).toInt32) 9 (nw + c) (J (62 + 2 * s) (i + 3 * c + 1)).toInt32) 10 (nw + c) (J (62 + 2 * s) (i + 3 * c + 2)).toInt32) 4 9 (nI (nw + c + 1))) ?_ ⟨rfl, ?_, by omega, ?_, ?_, ?_⟩
          · simp (disch := omega) only [bl_lit, lgl, lgg, lgl0, lgg0, lglm, lggm, az_us, az_un, az_ue, az_urn, az_ure, bz_lit, nI_leI, nI_ltI, nI_eq, nI_clamp, nI_add, pk_sub, pk_mul, bz_nlt, bz_nle, bz_ltn, bz_len, bz_neq, bz_eqn, bz_nn, ↓reduceIte, Bool.false_eq_true, if_pos, if_neg, g2, h49, z1, z2, z3, z4, z5, z6, wk_X h49 u2]
          · intro j hj
            by_cases e : j = c
            · subst e; exact ⟨hc, u1, u2, u3⟩
            · exact hP j (by omega)
          · (try dsimp only)
            rw [az_us, Nat.add_assoc]
          · intro j hj
            (try dsimp only)
            by_cases e : j = c
            · subst e
              simp (disch := omega) only [bl_lit, lgl, lgg, lgl0, lgg0, lglm, lggm, az_us, az_un, az_ue, az_urn, az_ure, bz_lit, nI_leI, nI_ltI, nI_eq, nI_clamp, nI_add, pk_sub, pk_mul, bz_nlt, bz_nle, bz_ltn, bz_len, bz_neq, bz_eqn, bz_nn, ↓reduceIte, Bool.false_eq_true, if_pos, if_neg]
              exact ⟨trivial, trivial, trivial⟩
            · obtain ⟨y1, y2, y3⟩ := hcs j (by omega)
              simp (disch := omega) only [bl_lit, lgl, lgg, lgl0, lgg0, lglm, lggm, az_us, az_un, az_ue, az_urn, az_ure, bz_lit, nI_leI, nI_ltI, nI_eq, nI_clamp, nI_add, pk_sub, pk_mul, bz_nlt, bz_nle, bz_ltn, bz_len, bz_neq, bz_eqn, bz_nn, ↓reduceIte, Bool.false_eq_true, if_pos, if_neg]
              exact ⟨y1, y2, y3⟩
          · have hf' : az_fr (fun r k => ((r = 8 ∨ r = 9 ∨ r = 10) ∧ nw ≤ k ∧ k < nw + (c + 1)) ∨ (r = 4 ∧ k = 9)) I I1 := hf.mono (fun r k q => by (try dsimp only at q ⊢); omega)
            (try dsimp only)
            refine (((hf'.u ?_).u ?_).u ?_).u ?_ <;> (try dsimp only) <;> omega
        · refine az_out (nI c, I1) ?_ (stop (fun q => u3 q.2.2.2))
          by_cases z1 : (J (62 + 2 * s) (i + 3 * c)).toInt32 < -nI 9
          · simp (disch := omega) only [bl_lit, lgl, lgg, lgl0, lgg0, lglm, lggm, az_us, az_un, az_ue, az_urn, az_ure, bz_lit, nI_leI, nI_ltI, nI_eq, nI_clamp, nI_add, pk_sub, pk_mul, bz_nlt, bz_nle, bz_ltn, bz_len, bz_neq, bz_eqn, bz_nn, ↓reduceIte, Bool.false_eq_true, if_pos, if_neg, g2, h49, z1]
          · by_cases z2 : nI 9 < (J (62 + 2 * s) (i + 3 * c)).toInt32
            · simp (disch := omega) only [bl_lit, lgl, lgg, lgl0, lgg0, lglm, lggm, az_us, az_un, az_ue, az_urn, az_ure, bz_lit, nI_leI, nI_ltI, nI_eq, nI_clamp, nI_add, pk_sub, pk_mul, bz_nlt, bz_nle, bz_ltn, bz_len, bz_neq, bz_eqn, bz_nn, ↓reduceIte, Bool.false_eq_true, if_pos, if_neg, g2, h49, z1, z2]
            · by_cases z3 : (J (62 + 2 * s) (i + 3 * c + 1)).toInt32 < nI 0
              · simp (disch := omega) only [bl_lit, lgl, lgg, lgl0, lgg0, lglm, lggm, az_us, az_un, az_ue, az_urn, az_ure, bz_lit, nI_leI, nI_ltI, nI_eq, nI_clamp, nI_add, pk_sub, pk_mul, bz_nlt, bz_nle, bz_ltn, bz_len, bz_neq, bz_eqn, bz_nn, ↓reduceIte, Bool.false_eq_true, if_pos, if_neg, g2, h49, z1, z2, z3]
              · by_cases z4 : nI 9 < (J (62 + 2 * s) (i + 3 * c + 1)).toInt32
                · simp (disch := omega) only [bl_lit, lgl, lgg, lgl0, lgg0, lglm, lggm, az_us, az_un, az_ue, az_urn, az_ure, bz_lit, nI_leI, nI_ltI, nI_eq, nI_clamp, nI_add, pk_sub, pk_mul, bz_nlt, bz_nle, bz_ltn, bz_len, bz_neq, bz_eqn, bz_nn, ↓reduceIte, Bool.false_eq_true, if_pos, if_neg, g2, h49, z1, z2, z3, z4]
                · by_cases z5 : (J (62 + 2 * s) (i + 3 * c + 2)).toInt32 < nI 1
                  · simp (disch := omega) only [bl_lit, lgl, lgg, lgl0, lgg0, lglm, lggm, az_us, az_un, az_ue, az_urn, az_ure, bz_lit, nI_leI, nI_ltI, nI_eq, nI_clamp, nI_add, pk_sub, pk_mul, bz_nlt, bz_nle, bz_ltn, bz_len, bz_neq, bz_eqn, bz_nn, ↓reduceIte, Bool.false_eq_true, if_pos, if_neg, g2, h49, z1, z2, z3, z4, z5]
                  · by_cases z6 : nI 9 < (J (62 + 2 * s) (i + 3 * c + 2)).toInt32
                    · simp (disch := omega) only [bl_lit, lgl, lgg, lgl0, lgg0, lglm, lggm, az_us, az_un, az_ue, az_urn, az_ure, bz_lit, nI_leI, nI_ltI, nI_eq, nI_clamp, nI_add, pk_sub, pk_mul, bz_nlt, bz_nle, bz_ltn, bz_len, bz_neq, bz_eqn, bz_nn, ↓reduceIte, Bool.false_eq_true, if_pos, if_neg, g2, h49, z1, z2, z3, z4, z5, z6]
                    · exact absurd ⟨⟨z1, z2⟩, ⟨z3, z4⟩, z5, z6⟩ u3
      · refine az_out (nI c, I1) ?_ (stop (fun q => u2 q.2.2.1))
        simp (disch := omega) only [bl_lit, lgl, lgg, lgl0, lgg0, lglm, lggm, az_us, az_un, az_ue, az_urn, az_ure, bz_lit, nI_leI, nI_ltI, nI_eq, nI_clamp, nI_add, pk_sub, pk_mul, bz_nlt, bz_nle, bz_ltn, bz_len, bz_neq, bz_eqn, bz_nn, ↓reduceIte, Bool.false_eq_true, if_pos, if_neg, g2, h49]
    · refine az_out (nI c, I1) ?_ (stop (fun q => u1 q.2.1))
      by_cases u4 : m < i + 3 * c
      · simp (disch := omega) only [bl_lit, lgl, lgg, lgl0, lgg0, lglm, lggm, az_us, az_un, az_ue, az_urn, az_ure, bz_lit, nI_leI, nI_ltI, nI_eq, nI_clamp, nI_add, pk_sub, pk_mul, bz_nlt, bz_nle, bz_ltn, bz_len, bz_neq, bz_eqn, bz_nn, ↓reduceIte, Bool.false_eq_true, if_pos, if_neg, g2, h49]
      · simp (disch := omega) only [bl_lit, lgl, lgg, lgl0, lgg0, lglm, lggm, az_us, az_un, az_ue, az_urn, az_ure, bz_lit, nI_leI, nI_ltI, nI_eq, nI_clamp, nI_add, pk_sub, pk_mul, bz_nlt, bz_nle, bz_ltn, bz_len, bz_neq, bz_eqn, bz_nn, ↓reduceIte, Bool.false_eq_true, if_pos, if_neg, g2, h49]
  · intro z hz
    obtain ⟨v5, I1⟩ := z
    obtain ⟨e, hP, hle, h49, hcs, hf⟩ := hz
    (try dsimp only at e h49 hcs hf)
    subst e
    refine ⟨(nI n, I1), ?_, n, I1, rfl, hP, fun q => Nat.lt_irrefl _ q.1, hle, h49, hcs, hf⟩
    show rs_X_walkers_52_b (61 + 2 * s) J (nI i) (nI n) (nI n) I1 = _
    unfold rs_X_walkers_52_b
    simp (disch := omega) only [bl_lit, lgl, lgg, lgl0, lgg0, lglm, lggm, az_us, az_un, az_ue, az_urn, az_ure, bz_lit, nI_leI, nI_ltI, nI_eq, nI_clamp, nI_add, pk_sub, pk_mul, bz_nlt, bz_nle, bz_ltn, bz_len, bz_neq, bz_eqn, bz_nn, ↓reduceIte, Bool.false_eq_true, if_pos, if_neg]
theorem wk_Ml {s i m n nw : Nat} (hs : s < 6) (hi : i < 60) (hm : m ≤ 60) (hn : n ≤ 6) (h9 : I 73 7 = nI nw) (hnw : nw ≤ 6) (h2 : I 97 s = nI m) (hJ : ∀ j, j < 60 → J 98 (60 * s + j) = J (62 + 2 * s) j ∧ (-128 ≤ (J (62 + 2 * s) j).toInt ∧ (J (62 + 2 * s) j).toInt ≤ 127)) :
    ∃ x, rs_M_walkers_69 I J (nI s) (nI i) (nI n) (nI 0) (nI 1) = some x ∧ ∃ c I', x = (nI c, I') ∧ (∀ j, j < c → wk_P J (62 + 2 * s) i m n nw j) ∧ ¬ wk_P J (62 + 2 * s) i m n nw c ∧ nw + c ≤ 6 ∧ I' 73 7 = nI (nw + c) ∧
      (∀ j, j < c → I' 74 (160 + (nw + j)) = (J (62 + 2 * s) (i + 3 * j)).toInt32 ∧ I' 74 (166 + (nw + j)) = (J (62 + 2 * s) (i + 3 * j + 1)).toInt32 ∧ I' 74 (172 + (nw + j)) = (J (62 + 2 * s) (i + 3 * j + 2)).toInt32 ∧ I' 78 (nw + j) = nI 0 ∧ I' 79 (nw + j) = nI 0) ∧
      az_fr (fun r k => ((r = 78 ∨ r = 79) ∧ nw ≤ k ∧ k < nw + c) ∨ (r = 73 ∧ k = 7) ∨ (r = 74 ∧ (160 + nw ≤ k ∧ k < 160 + nw + c ∨ 166 + nw ≤ k ∧ k < 166 + nw + c ∨ 172 + nw ≤ k ∧ k < 172 + nw + c))) I I' := by
  unfold rs_M_walkers_69
  refine az_for0 (fun c (z : Int32 × Int32 × (Nat → Nat → Int32)) => (z.2.1 = nI 1 ∧ z.1 = nI c ∧ (∀ j, j < c → wk_P J (62 + 2 * s) i m n nw j) ∨ z.2.1 = nI 0 ∧ ∃ c', 1 ≤ c ∧ z.1 = nI c' ∧ (∀ j, j < c' → wk_P J (62 + 2 * s) i m n nw j) ∧ ¬ wk_P J (62 + 2 * s) i m n nw c') ∧ ∃ c', z.1 = nI c' ∧ c' ≤ c ∧ nw + c' ≤ 6 ∧ z.2.2 73 7 = nI (nw + c') ∧
      (∀ j, j < c' → z.2.2 74 (160 + (nw + j)) = (J (62 + 2 * s) (i + 3 * j)).toInt32 ∧ z.2.2 74 (166 + (nw + j)) = (J (62 + 2 * s) (i + 3 * j + 1)).toInt32 ∧ z.2.2 74 (172 + (nw + j)) = (J (62 + 2 * s) (i + 3 * j + 2)).toInt32 ∧ z.2.2 78 (nw + j) = nI 0 ∧ z.2.2 79 (nw + j) = nI 0) ∧
      az_fr (fun r k => ((r = 78 ∨ r = 79) ∧ nw ≤ k ∧ k < nw + c') ∨ (r = 73 ∧ k = 7) ∨ (r = 74 ∧ (160 + nw ≤ k ∧ k < 160 + nw + c' ∨ 166 + nw ≤ k ∧ k < 166 + nw + c' ∨ 172 + nw ≤ k ∧ k < 172 + nw + c'))) I z.2.2) (n + 1) (by omega)
    ⟨Or.inl ⟨rfl, rfl, fun j hj => absurd hj (Nat.not_lt_zero j)⟩, 0, rfl, Nat.le_refl 0, hnw, h9, fun j hj => absurd hj (Nat.not_lt_zero j), az_fr.refl⟩ ?_ ?_
  · intro c z hc hz
    obtain ⟨v4, v5, I1⟩ := z
    obtain ⟨hor, c', e, hcc, hle, h49, hcs, hf⟩ := hz
    (try dsimp only at hor e h49 hcs hf)
    subst e
    show ∃ o, rs_M_walkers_69_b J (nI s) (nI i) (nI n) (nI c') v5 I1 = some o ∧ _
    rcases hor with ⟨rfl, e2, hP⟩ | ⟨rfl, c'', _, e2, hP, hnP⟩
    · have : c' = c := (nI_eq (by omega) (by omega)).mp e2
      subst this
      have g2 : I1 97 s = nI m := by rw [hf _ _ (by (try dsimp only); omega)]; exact h2
      by_cases u0 : n ≤ c'
      · refine az_out (nI c', I1) ?_ ⟨c', I1, rfl, hP, fun q => by have := q.1; omega, hle, h49, hcs, hf⟩
        unfold rs_M_walkers_69_b
        simp (disch := omega) only [bl_lit, lgl, lgg, lgl0, lgg0, lglm, lggm, az_us, az_un, az_ue, az_urn, az_ure, bz_lit, nI_leI, nI_ltI, nI_eq, nI_clamp, nI_add, pk_sub, pk_mul, bz_nlt, bz_nle, bz_ltn, bz_len, bz_neq, bz_eqn, bz_nn, ↓reduceIte, Bool.false_eq_true, if_pos, if_neg]
      · have fin : ∀ Z, Z = some (Sum.inl (nI c', nI 0, I1)) → ¬ wk_P J (62 + 2 * s) i m n nw c' → ∃ o, Z = some o ∧ Sum.elim (fun (z : Int32 × Int32 × (Nat → Nat → Int32)) => (z.2.1 = nI 1 ∧ z.1 = nI (c' + 1) ∧ (∀ j, j < (c' + 1) → wk_P J (62 + 2 * s) i m n nw j) ∨ z.2.1 = nI 0 ∧ ∃ c'', 1 ≤ (c' + 1) ∧ z.1 = nI c'' ∧ (∀ j, j < c'' → wk_P J (62 + 2 * s) i m n nw j) ∧ ¬ wk_P J (62 + 2 * s) i m n nw c'') ∧ ∃ c'', z.1 = nI c'' ∧ c'' ≤ (c' + 1) ∧ nw + c'' ≤ 6 ∧ z.2.2 73 7 = nI (nw + c'') ∧
            (∀ j, j < c'' → z.2.2 74 (160 + (nw + j)) = (J (62 + 2 * s) (i + 3 * j)).toInt32 ∧ z.2.2 74 (166 + (nw + j)) = (J (62 + 2 * s) (i + 3 * j + 1)).toInt32 ∧ z.2.2 74 (172 + (nw + j)) = (J (62 + 2 * s) (i + 3 * j + 2)).toInt32 ∧ z.2.2 78 (nw + j) = nI 0 ∧ z.2.2 79 (nw + j) = nI 0) ∧
            az_fr (fun r k => ((r = 78 ∨ r = 79) ∧ nw ≤ k ∧ k < nw + c'') ∨ (r = 73 ∧ k = 7) ∨ (r = 74 ∧ (160 + nw ≤ k ∧ k < 160 + nw + c'' ∨ 166 + nw ≤ k ∧ k < 166 + nw + c'' ∨ 172 + nw ≤ k ∧ k < 172 + nw + c''))) I z.2.2) (fun x => ∃ c I', x = (nI c, I') ∧ (∀ j, j < c → wk_P J (62 + 2 * s) i m n nw j) ∧ ¬ wk_P J (62 + 2 * s) i m n nw c ∧ nw + c ≤ 6 ∧ I' 73 7 = nI (nw + c) ∧
            (∀ j, j < c → I' 74 (160 + (nw + j)) = (J (62 + 2 * s) (i + 3 * j)).toInt32 ∧ I' 74 (166 + (nw + j)) = (J (62 + 2 * s) (i + 3 * j + 1)).toInt32 ∧ I' 74 (172 + (nw + j)) = (J (62 + 2 * s) (i + 3 * j + 2)).toInt32 ∧ I' 78 (nw + j) = nI 0 ∧ I' 79 (nw + j) = nI 0) ∧
            az_fr (fun r k => ((r = 78 ∨ r = 79) ∧ nw ≤ k ∧ k < nw + c) ∨ (r = 73 ∧ k = 7) ∨ (r = 74 ∧ (160 + nw ≤ k ∧ k < 160 + nw + c ∨ 166 + nw ≤ k ∧ k < 166 + nw + c ∨ 172 + nw ≤ k ∧ k < 172 + nw + c))) I I') o := by
          intro Z hZ hnP
          exact az_nxt _ hZ ⟨Or.inr ⟨rfl, c', by omega, rfl, hP, hnP⟩, c', rfl, by omega, hle, h49, hcs, hf⟩
        by_cases u1 : i + 3 * c' + 3 ≤ m
        · by_cases u2 : nw + c' < 6
          · obtain ⟨j1, j2, j3⟩ := hJ (i + 3 * c') (by omega)
            obtain ⟨j4, j5, j6⟩ := hJ (i + 3 * c' + 1) (by omega)
            obtain ⟨j7, j8, j9⟩ := hJ (i + 3 * c' + 2) (by omega)
            have e0 : nI 60 * nI s + nI i + nI 3 * nI c' = nI (60 * s + (i + 3 * c')) := by
              rw [pk_mul, pk_mul, nI_add, nI_add, Nat.add_assoc]
            have e1 : rs_M_mayCome (J 98 (60 * s + (i + 3 * c'))) (J 98 (60 * s + (i + 3 * c' + 1))) (J 98 (60 * s + (i + 3 * c' + 2))) = rs_M_mayCome (J (62 + 2 * s) (i + 3 * c')).toInt32.toInt64 (J (62 + 2 * s) (i + 3 * c' + 1)).toInt32.toInt64 (J (62 + 2 * s) (i + 3 * c' + 2)).toInt32.toInt64 := by
              rw [j1, j4, j7, bz_l32 (by omega) (by omega), bz_l32 (by omega) (by omega), bz_l32 (by omega) (by omega)]
            by_cases u3 : ft (J (62 + 2 * s) (i + 3 * c')).toInt32 (J (62 + 2 * s) (i + 3 * c' + 1)).toInt32 (J (62 + 2 * s) (i + 3 * c' + 2)).toInt32
            · rw [ft_1 u3] at e1
              refine az_nxt (nI (c' + 1), nI 1, az_u (az_u (az_u (az_u (az_u (az_u I1 74 (160 + (nw + c')) (J (62 + 2 * s) (i + 3 * c')).toInt32) 74 (166 + (nw + c')) (J (62 + 2 * s) (i + 3 * c' + 1)).toInt32) 74 (172 + (nw + c')) (J (62 + 2 * s) (i + 3 * c' + 2)).toInt32) 78 (nw + c') (nI 0)) 79 (nw + c') (nI 0)) 73 7 (nI (nw + c' + 1))) ?_ ⟨Or.inl ⟨rfl, rfl, ?_⟩, c' + 1, rfl, by omega, by omega, ?_, ?_, ?_⟩
              · unfold rs_M_walkers_69_b rs_M_walkers_111 rs_M_walkers_167
                have w := wk_M h49 u2 (J (62 + 2 * s) (i + 3 * c')).toInt32 (J (62 + 2 * s) (i + 3 * c' + 1)).toInt32 (J (62 + 2 * s) (i + 3 * c' + 2)).toInt32
                simp (disch := omega) only [bl_lit, lgl, lgg, lgl0, lgg0, lglm, lggm, az_us, az_un, az_ue, az_urn, az_ure, bz_lit, nI_leI, nI_ltI, nI_eq, nI_clamp, nI_add, pk_sub, pk_mul, bz_nlt, bz_nle, bz_ltn, bz_len, bz_neq, bz_eqn, bz_nn, ↓reduceIte, Bool.false_eq_true, if_pos, if_neg, g2, h49]
                rw [j1, j4, j7] at e1
                simp only [Nat.add_assoc] at e1 j1 j4 j7 w ⊢
                simp (disch := omega) only [bl_lit, lgl, lgg, lgl0, lgg0, lglm, lggm, az_us, az_un, az_ue, az_urn, az_ure, bz_lit, nI_leI, nI_ltI, nI_eq, nI_clamp, nI_add, pk_sub, pk_mul, bz_nlt, bz_nle, bz_ltn, bz_len, bz_neq, bz_eqn, bz_nn, ↓reduceIte, Bool.false_eq_true, if_pos, if_neg, e1, j1, j4, j7, w]
              · intro j hj
                by_cases e : j = c'
                · subst e; exact ⟨by omega, u1, u2, u3⟩
                · exact hP j (by omega)
              · (try dsimp only)
                rw [az_us, Nat.add_assoc]
              · intro j hj
                (try dsimp only)
                by_cases e : j = c'
                · subst e
                  simp (disch := omega) only [bl_lit, lgl, lgg, lgl0, lgg0, lglm, lggm, az_us, az_un, az_ue, az_urn, az_ure, bz_lit, nI_leI, nI_ltI, nI_eq, nI_clamp, nI_add, pk_sub, pk_mul, bz_nlt, bz_nle, bz_ltn, bz_len, bz_neq, bz_eqn, bz_nn, ↓reduceIte, Bool.false_eq_true, if_pos, if_neg]
                  exact ⟨trivial, trivial, trivial, trivial, trivial⟩
                · obtain ⟨y1, y2, y3, y4, y5⟩ := hcs j (by omega)
                  simp (disch := omega) only [bl_lit, lgl, lgg, lgl0, lgg0, lglm, lggm, az_us, az_un, az_ue, az_urn, az_ure, bz_lit, nI_leI, nI_ltI, nI_eq, nI_clamp, nI_add, pk_sub, pk_mul, bz_nlt, bz_nle, bz_ltn, bz_len, bz_neq, bz_eqn, bz_nn, ↓reduceIte, Bool.false_eq_true, if_pos, if_neg]
                  exact ⟨y1, y2, y3, y4, y5⟩
              · have hf' : az_fr (fun r k => ((r = 78 ∨ r = 79) ∧ nw ≤ k ∧ k < nw + (c' + 1)) ∨ (r = 73 ∧ k = 7) ∨ (r = 74 ∧ (160 + nw ≤ k ∧ k < 160 + nw + (c' + 1) ∨ 166 + nw ≤ k ∧ k < 166 + nw + (c' + 1) ∨ 172 + nw ≤ k ∧ k < 172 + nw + (c' + 1)))) I I1 := hf.mono (fun r k q => by (try dsimp only at q ⊢); omega)
                (try dsimp only)
                refine (((((hf'.u ?_).u ?_).u ?_).u ?_).u ?_).u ?_ <;> (try dsimp only) <;> omega
            · rw [ft_0 u3] at e1
              refine fin _ ?_ (fun q => u3 q.2.2.2)
              unfold rs_M_walkers_69_b rs_M_walkers_111 rs_M_walkers_166 rs_M_walkers_167
              simp (disch := omega) only [bl_lit, lgl, lgg, lgl0, lgg0, lglm, lggm, az_us, az_un, az_ue, az_urn, az_ure, bz_lit, nI_leI, nI_ltI, nI_eq, nI_clamp, nI_add, pk_sub, pk_mul, bz_nlt, bz_nle, bz_ltn, bz_len, bz_neq, bz_eqn, bz_nn, ↓reduceIte, Bool.false_eq_true, if_pos, if_neg, g2, h49]
              simp only [Nat.add_assoc] at e1 ⊢
              simp (disch := omega) only [bl_lit, lgl, lgg, lgl0, lgg0, lglm, lggm, az_us, az_un, az_ue, az_urn, az_ure, bz_lit, nI_leI, nI_ltI, nI_eq, nI_clamp, nI_add, pk_sub, pk_mul, bz_nlt, bz_nle, bz_ltn, bz_len, bz_neq, bz_eqn, bz_nn, ↓reduceIte, Bool.false_eq_true, if_pos, if_neg, e1]
          · refine fin _ ?_ (fun q => u2 q.2.2.1)
            unfold rs_M_walkers_69_b rs_M_walkers_110 rs_M_walkers_111 rs_M_walkers_166 rs_M_walkers_167
            simp (disch := omega) only [bl_lit, lgl, lgg, lgl0, lgg0, lglm, lggm, az_us, az_un, az_ue, az_urn, az_ure, bz_lit, nI_leI, nI_ltI, nI_eq, nI_clamp, nI_add, pk_sub, pk_mul, bz_nlt, bz_nle, bz_ltn, bz_len, bz_neq, bz_eqn, bz_nn, ↓reduceIte, Bool.false_eq_true, if_pos, if_neg, g2, h49]
        · refine fin _ ?_ (fun q => u1 q.2.1)
          unfold rs_M_walkers_69_b rs_M_walkers_110 rs_M_walkers_111 rs_M_walkers_166 rs_M_walkers_167
          by_cases u4 : 3 + 3 * c' ≤ m
          · simp (disch := omega) only [bl_lit, lgl, lgg, lgl0, lgg0, lglm, lggm, az_us, az_un, az_ue, az_urn, az_ure, bz_lit, nI_leI, nI_ltI, nI_eq, nI_clamp, nI_add, pk_sub, pk_mul, bz_nlt, bz_nle, bz_ltn, bz_len, bz_neq, bz_eqn, bz_nn, ↓reduceIte, Bool.false_eq_true, if_pos, if_neg, g2, h49]
          · have : nI m - nI 3 - nI 3 * nI c' < nI i := by
              rw [pk_mul, Int32.lt_iff_toInt_lt, nI_toInt (by omega)]
              have e3 : (nI m - nI 3).toInt = (m : Int) - 3 := pk_sub_toInt (by omega) (by omega)
              rw [bz_sub (by rw [e3, nI_toInt (by omega)]; omega) (by rw [e3, nI_toInt (by omega)]; omega), e3, nI_toInt (by omega)]
              omega
            simp only [bz_lit]
            rw [nI_clamp (n := s) (by omega), g2]
            simp (disch := omega) only [bl_lit, lgl, lgg, lgl0, lgg0, lglm, lggm, az_us, az_un, az_ue, az_urn, az_ure, bz_lit, nI_leI, nI_ltI, nI_eq, nI_clamp, nI_add, pk_sub, pk_mul, bz_nlt, bz_nle, bz_ltn, bz_len, bz_neq, bz_eqn, bz_nn, ↓reduceIte, Bool.false_eq_true, if_pos, if_neg, h49]
            simp only [pk_mul] at this
            simp (disch := omega) only [bl_lit, lgl, lgg, lgl0, lgg0, lglm, lggm, az_us, az_un, az_ue, az_urn, az_ure, bz_lit, nI_leI, nI_ltI, nI_eq, nI_clamp, nI_add, pk_sub, pk_mul, bz_nlt, bz_nle, bz_ltn, bz_len, bz_neq, bz_eqn, bz_nn, ↓reduceIte, Bool.false_eq_true, if_pos, if_neg, this]
    · have : c' = c'' := (nI_eq (by omega) (by have := Nat.lt_or_ge c'' (2 ^ 31); rcases this with q | q; exact q; exfalso; have := (hP 6 (by omega)).1; omega)).mp e2
      subst this
      refine az_out (nI c', I1) ?_ ⟨c', I1, rfl, hP, hnP, hle, h49, hcs, hf⟩
      unfold rs_M_walkers_69_b
      simp (disch := omega) only [bl_lit, lgl, lgg, lgl0, lgg0, lglm, lggm, az_us, az_un, az_ue, az_urn, az_ure, bz_lit, nI_leI, nI_ltI, nI_eq, nI_clamp, nI_add, pk_sub, pk_mul, bz_nlt, bz_nle, bz_ltn, bz_len, bz_neq, bz_eqn, bz_nn, ↓reduceIte, Bool.false_eq_true, if_pos, if_neg]
  · intro z hz
    obtain ⟨v4, v5, I1⟩ := z
    obtain ⟨hor, c', e, hcc, hle, h49, hcs, hf⟩ := hz
    (try dsimp only at hor e h49 hcs hf)
    subst e
    rcases hor with ⟨rfl, e2, hP⟩ | ⟨rfl, c'', _, e2, hP, hnP⟩
    · exfalso
      have := (hP n (by omega)).1
      omega
    · have : c' = c'' := (nI_eq (by omega) (by have := Nat.lt_or_ge c'' (2 ^ 31); rcases this with q | q; exact q; exfalso; have := (hP 6 (by omega)).1; omega)).mp e2
      subst this
      refine ⟨(nI c', I1), ?_, c', I1, rfl, hP, hnP, hle, h49, hcs, hf⟩
      show rs_M_walkers_69_b J (nI s) (nI i) (nI n) (nI c') (nI 0) I1 = _
      unfold rs_M_walkers_69_b
      simp (disch := omega) only [bl_lit, lgl, lgg, lgl0, lgg0, lglm, lggm, az_us, az_un, az_ue, az_urn, az_ure, bz_lit, nI_leI, nI_ltI, nI_eq, nI_clamp, nI_add, pk_sub, pk_mul, bz_nlt, bz_nle, bz_ltn, bz_len, bz_neq, bz_eqn, bz_nn, ↓reduceIte, Bool.false_eq_true, if_pos, if_neg]
end

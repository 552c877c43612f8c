/-! image, back -/
section
variable {I : Nat → Nat → Int32} {J : Nat → Nat → Int64} {rl rd : Nat}
theorem im_X {nw : Nat} (h : I 4 9 = nI nw) (hn : nw ≤ 6) : ∃ I', rs_Kp_take I = some I' ∧ az_fr (fun r _ => 49 ≤ r ∧ r ≤ 54) I I' ∧ I' 49 0 = nI 1 ∧ I' 49 1 = nI nw ∧ (∀ w, w < nw → I' 50 w = I 11 w ∧ I' 51 w = I 8 w ∧ I' 52 w = I 9 w ∧ I' 53 w = I 12 w) ∧ ∀ k, k < 4 → I' 54 k = I 13 k := by
  unfold rs_Kp_take
  rw [h, nI_clamp (by omega)]
  have c : ¬ ((0 : Int32) < 0 ∨ (0 : Int32) < 0 ∨ nI nw < 0 ∨ 6 < (0 : Int32).toNatClampNeg + nw ∨ 6 < (0 : Int32).toNatClampNeg + nw) := by
    have : (0 : Int32).toNatClampNeg = 0 := by decide
    have h1 : ¬ (0 : Int32) < 0 := by decide
    have h2 : ¬ nI nw < 0 := nI_pos (by omega)
    rw [this]
    intro q
    rcases q with q | q | q | q | q
    · exact h1 q
    · exact h1 q
    · exact h2 q
    · omega
    · omega
  simp only [if_neg c]
  refine ⟨_, rfl, ?_, ?_, ?_, ?_, ?_⟩
  · refine ((((((az_fr.refl.u ?_).u ?_).ur ?_).ur ?_).ur ?_).ur ?_).ur ?_
    · (try dsimp only); omega
    · (try dsimp only); omega
    · exact fun k => Or.inl (by (try dsimp only); omega)
    · exact fun k => Or.inl (by (try dsimp only); omega)
    · exact fun k => Or.inl (by (try dsimp only); omega)
    · exact fun k => Or.inl (by (try dsimp only); omega)
    · exact fun k => Or.inl (by (try dsimp only); omega)
  · simp (disch := omega) only [bl_lit, lgl, lgg, lgl0, lgg0, lglm, lggm, az_us, az_un, az_ue, az_urn, az_ure, bz_lit, nI_leI, nI_ltI, nI_eq, nI_clamp, nI_add, pk_sub, pk_mul, bz_nlt, bz_nle, bz_ltn, bz_len, bz_neq, bz_eqn, bz_nn, ↓reduceIte, Bool.false_eq_true, if_pos, if_neg]
  · simp (disch := omega) only [bl_lit, lgl, lgg, lgl0, lgg0, lglm, lggm, az_us, az_un, az_ue, az_urn, az_ure, bz_lit, nI_leI, nI_ltI, nI_eq, nI_clamp, nI_add, pk_sub, pk_mul, bz_nlt, bz_nle, bz_ltn, bz_len, bz_neq, bz_eqn, bz_nn, ↓reduceIte, Bool.false_eq_true, if_pos, if_neg]
  · intro w hw
    refine ⟨?_, ?_, ?_, ?_⟩
    · simp (disch := omega) only [bl_lit, lgl, lgg, lgl0, lgg0, lglm, lggm, az_us, az_un, az_ue, az_urn, az_ure, bz_lit, nI_leI, nI_ltI, nI_eq, nI_clamp, nI_add, pk_sub, pk_mul, bz_nlt, bz_nle, bz_ltn, bz_len, bz_neq, bz_eqn, bz_nn, ↓reduceIte, Bool.false_eq_true, if_pos, if_neg]
      rw [pk_cpy_in (by omega) (by omega), Nat.sub_zero, Nat.zero_add]
      simp (disch := omega) only [bl_lit, lgl, lgg, lgl0, lgg0, lglm, lggm, az_us, az_un, az_ue, az_urn, az_ure, bz_lit, nI_leI, nI_ltI, nI_eq, nI_clamp, nI_add, pk_sub, pk_mul, bz_nlt, bz_nle, bz_ltn, bz_len, bz_neq, bz_eqn, bz_nn, ↓reduceIte, Bool.false_eq_true, if_pos, if_neg]
    · simp (disch := omega) only [bl_lit, lgl, lgg, lgl0, lgg0, lglm, lggm, az_us, az_un, az_ue, az_urn, az_ure, bz_lit, nI_leI, nI_ltI, nI_eq, nI_clamp, nI_add, pk_sub, pk_mul, bz_nlt, bz_nle, bz_ltn, bz_len, bz_neq, bz_eqn, bz_nn, ↓reduceIte, Bool.false_eq_true, if_pos, if_neg]
      rw [pk_cpy_in (by omega) (by omega), Nat.sub_zero, Nat.zero_add]
      simp (disch := omega) only [bl_lit, lgl, lgg, lgl0, lgg0, lglm, lggm, az_us, az_un, az_ue, az_urn, az_ure, bz_lit, nI_leI, nI_ltI, nI_eq, nI_clamp, nI_add, pk_sub, pk_mul, bz_nlt, bz_nle, bz_ltn, bz_len, bz_neq, bz_eqn, bz_nn, ↓reduceIte, Bool.false_eq_true, if_pos, if_neg]
    · simp (disch := omega) only [bl_lit, lgl, lgg, lgl0, lgg0, lglm, lggm, az_us, az_un, az_ue, az_urn, az_ure, bz_lit, nI_leI, nI_ltI, nI_eq, nI_clamp, nI_add, pk_sub, pk_mul, bz_nlt, bz_nle, bz_ltn, bz_len, bz_neq, bz_eqn, bz_nn, ↓reduceIte, Bool.false_eq_true, if_pos, if_neg]
      rw [pk_cpy_in (by omega) (by omega), Nat.sub_zero, Nat.zero_add]
      simp (disch := omega) only [bl_lit, lgl, lgg, lgl0, lgg0, lglm, lggm, az_us, az_un, az_ue, az_urn, az_ure, bz_lit, nI_leI, nI_ltI, nI_eq, nI_clamp, nI_add, pk_sub, pk_mul, bz_nlt, bz_nle, bz_ltn, bz_len, bz_neq, bz_eqn, bz_nn, ↓reduceIte, Bool.false_eq_true, if_pos, if_neg]
    · simp (disch := omega) only [bl_lit, lgl, lgg, lgl0, lgg0, lglm, lggm, az_us, az_un, az_ue, az_urn, az_ure, bz_lit, nI_leI, nI_ltI, nI_eq, nI_clamp, nI_add, pk_sub, pk_mul, bz_nlt, bz_nle, bz_ltn, bz_len, bz_neq, bz_eqn, bz_nn, ↓reduceIte, Bool.false_eq_true, if_pos, if_neg]
      rw [pk_cpy_in (by omega) (by omega), Nat.sub_zero, Nat.zero_add]
      simp (disch := omega) only [bl_lit, lgl, lgg, lgl0, lgg0, lglm, lggm, az_us, az_un, az_ue, az_urn, az_ure, bz_lit, nI_leI, nI_ltI, nI_eq, nI_clamp, nI_add, pk_sub, pk_mul, bz_nlt, bz_nle, bz_ltn, bz_len, bz_neq, bz_eqn, bz_nn, ↓reduceIte, Bool.false_eq_true, if_pos, if_neg]
  · intro k hk
    simp (disch := omega) only [bl_lit, lgl, lgg, lgl0, lgg0, lglm, lggm, az_us, az_un, az_ue, az_urn, az_ure, bz_lit, nI_leI, nI_ltI, nI_eq, nI_clamp, nI_add, pk_sub, pk_mul, bz_nlt, bz_nle, bz_ltn, bz_len, bz_neq, bz_eqn, bz_nn, ↓reduceIte, Bool.false_eq_true, if_pos, if_neg]
    rw [pk_cpy_in (by omega) (by omega), Nat.sub_zero, Nat.zero_add]
    simp (disch := omega) only [bl_lit, lgl, lgg, lgl0, lgg0, lglm, lggm, az_us, az_un, az_ue, az_urn, az_ure, bz_lit, nI_leI, nI_ltI, nI_eq, nI_clamp, nI_add, pk_sub, pk_mul, bz_nlt, bz_nle, bz_ltn, bz_len, bz_neq, bz_eqn, bz_nn, ↓reduceIte, Bool.false_eq_true, if_pos, if_neg]
theorem im_M {nw : Nat} (h : I 73 7 = nI nw) (hn : nw ≤ 6) : ∃ x, rs_M_image I = some x ∧ ∃ I', x = (I 91 0, I') ∧ az_fr (fun r k => r = 92 ∨ r = 93 ∨ (r = 73 ∧ (k = 29 ∨ k = 30))) I I' ∧ I' 73 29 = nI 1 ∧ I' 73 30 = nI nw ∧ (∀ w, w < nw → I' 92 (4 * w) = I 78 w ∧ I' 92 (4 * w + 1) = I 74 (160 + w) ∧ I' 92 (4 * w + 2) = I 74 (166 + w) ∧ I' 92 (4 * w + 3) = I 79 w) ∧ ∀ k, k < 4 → I' 93 k = I 91 k := by
  unfold rs_M_image rs_M_image_15
  refine az_for0 (fun i (z : Int32 × (Nat → Nat → Int32)) => z.1 = nI i ∧ az_fr (fun r k => r = 92 ∨ r = 93 ∨ (r = 73 ∧ (k = 29 ∨ k = 30))) I z.2 ∧ z.2 73 29 = nI 1 ∧ z.2 73 30 = nI nw ∧ (∀ w, w < i → z.2 92 (4 * w) = I 78 w ∧ z.2 92 (4 * w + 1) = I 74 (160 + w) ∧ z.2 92 (4 * w + 2) = I 74 (166 + w) ∧ z.2 92 (4 * w + 3) = I 79 w)) nw (by omega)
    ⟨rfl, (by refine ((az_fr.refl.u ?_).u ?_) <;> (try dsimp only) <;> omega), by simp (disch := omega) only [bl_lit, lgl, lgg, lgl0, lgg0, lglm, lggm, az_us, az_un, az_ue, az_urn, az_ure, bz_lit, nI_leI, nI_ltI, nI_eq, nI_clamp, nI_add, pk_sub, pk_mul, bz_nlt, bz_nle, bz_ltn, bz_len, bz_neq, bz_eqn, bz_nn, ↓reduceIte, Bool.false_eq_true, if_pos, if_neg], by simp (disch := omega) only [bl_lit, lgl, lgg, lgl0, lgg0, lglm, lggm, az_us, az_un, az_ue, az_urn, az_ure, bz_lit, nI_leI, nI_ltI, nI_eq, nI_clamp, nI_add, pk_sub, pk_mul, bz_nlt, bz_nle, bz_ltn, bz_len, bz_neq, bz_eqn, bz_nn, ↓reduceIte, Bool.false_eq_true, if_pos, if_neg, h], fun w hw => absurd hw (Nat.not_lt_zero w)⟩ ?_ ?_
  · intro i z hi hz
    obtain ⟨v, I1⟩ := z
    obtain ⟨e, hf, g1, g2, hs⟩ := hz
    (try dsimp only at e hf g1 g2 hs)
    subst e
    show ∃ o, rs_M_image_15_b (nI i) I1 = some o ∧ _
    unfold rs_M_image_15_b
    have e7 : I1 73 7 = nI nw := (hf 73 7 (by (try dsimp only); omega)).trans h
    refine az_nxt (nI (i + 1), az_u (az_u (az_u (az_u I1 92 (4 * i) (I1 78 i)) 92 (4 * i + 1) (I1 74 (160 + i))) 92 (4 * i + 2) (I1 74 (166 + i))) 92 (4 * i + 3) (I1 79 i)) ?_ ⟨rfl, ?_, ?_, ?_, ?_⟩
    · simp (disch := omega) only [bl_lit, lgl, lgg, lgl0, lgg0, lglm, lggm, az_us, az_un, az_ue, az_urn, az_ure, bz_lit, nI_leI, nI_ltI, nI_eq, nI_clamp, nI_add, pk_sub, pk_mul, bz_nlt, bz_nle, bz_ltn, bz_len, bz_neq, bz_eqn, bz_nn, ↓reduceIte, Bool.false_eq_true, if_pos, if_neg, e7]
    · exact (((hf.u (by (try dsimp only); omega)).u (by (try dsimp only); omega)).u (by (try dsimp only); omega)).u (by (try dsimp only); omega)
    · simp (disch := omega) only [bl_lit, lgl, lgg, lgl0, lgg0, lglm, lggm, az_us, az_un, az_ue, az_urn, az_ure, bz_lit, nI_leI, nI_ltI, nI_eq, nI_clamp, nI_add, pk_sub, pk_mul, bz_nlt, bz_nle, bz_ltn, bz_len, bz_neq, bz_eqn, bz_nn, ↓reduceIte, Bool.false_eq_true, if_pos, if_neg, g1]
    · simp (disch := omega) only [bl_lit, lgl, lgg, lgl0, lgg0, lglm, lggm, az_us, az_un, az_ue, az_urn, az_ure, bz_lit, nI_leI, nI_ltI, nI_eq, nI_clamp, nI_add, pk_sub, pk_mul, bz_nlt, bz_nle, bz_ltn, bz_len, bz_neq, bz_eqn, bz_nn, ↓reduceIte, Bool.false_eq_true, if_pos, if_neg, g2]
    · intro w hw
      (try dsimp only)
      by_cases e : w = i
      · subst e
        simp (disch := omega) only [bl_lit, lgl, lgg, lgl0, lgg0, lglm, lggm, az_us, az_un, az_ue, az_urn, az_ure, bz_lit, nI_leI, nI_ltI, nI_eq, nI_clamp, nI_add, pk_sub, pk_mul, bz_nlt, bz_nle, bz_ltn, bz_len, bz_neq, bz_eqn, bz_nn, ↓reduceIte, Bool.false_eq_true, if_pos, if_neg]
        exact ⟨hf 78 w (by (try dsimp only); omega), hf 74 (160 + w) (by (try dsimp only); omega), hf 74 (166 + w) (by (try dsimp only); omega), hf 79 w (by (try dsimp only); omega)⟩
      · obtain ⟨y1, y2, y3, y4⟩ := hs w (by omega)
        simp (disch := omega) only [bl_lit, lgl, lgg, lgl0, lgg0, lglm, lggm, az_us, az_un, az_ue, az_urn, az_ure, bz_lit, nI_leI, nI_ltI, nI_eq, nI_clamp, nI_add, pk_sub, pk_mul, bz_nlt, bz_nle, bz_ltn, bz_len, bz_neq, bz_eqn, bz_nn, ↓reduceIte, Bool.false_eq_true, if_pos, if_neg]
        exact ⟨y1, y2, y3, y4⟩
  · intro z hz
    obtain ⟨v, I1⟩ := z
    obtain ⟨e, hf, g1, g2, hs⟩ := hz
    (try dsimp only at e hf g1 g2 hs)
    subst e
    have e7 : I1 73 7 = nI nw := (hf 73 7 (by (try dsimp only); omega)).trans h
    have two : ∃ x, rs_M_image_101 I1 (nI 0) = some x ∧ ∃ I', x = (I 91 0, I') ∧ az_fr (fun r k => r = 93) I1 I' ∧ ∀ k, k < 4 → I' 93 k = I 91 k := by
      unfold rs_M_image_101
      refine az_for0 (fun i (z : Int32 × (Nat → Nat → Int32)) => z.1 = nI i ∧ az_fr (fun r k => r = 93) I1 z.2 ∧ ∀ k, k < i → z.2 93 k = I 91 k) 4 (by omega) ⟨rfl, az_fr.refl, fun k hk => absurd hk (Nat.not_lt_zero k)⟩ ?_ ?_
      · intro i z hi hz
        obtain ⟨v, I2⟩ := z
        obtain ⟨e, hf2, hs2⟩ := hz
        (try dsimp only at e hf2 hs2)
        subst e
        show ∃ o, rs_M_image_101_b (nI i) I2 = some o ∧ _
        unfold rs_M_image_101_b
        refine az_nxt (nI (i + 1), az_u I2 93 i (I2 91 i)) ?_ ⟨rfl, hf2.u rfl, ?_⟩
        · simp (disch := omega) only [bl_lit, lgl, lgg, lgl0, lgg0, lglm, lggm, az_us, az_un, az_ue, az_urn, az_ure, bz_lit, nI_leI, nI_ltI, nI_eq, nI_clamp, nI_add, pk_sub, pk_mul, bz_nlt, bz_nle, bz_ltn, bz_len, bz_neq, bz_eqn, bz_nn, ↓reduceIte, Bool.false_eq_true, if_pos, if_neg]
        · intro k hk
          (try dsimp only)
          by_cases e : k = i
          · subst e
            rw [az_us, hf2 91 k (by omega), hf 91 k (by (try dsimp only); omega)]
          · rw [az_un (by omega)]
            exact hs2 k (by omega)
      · intro z hz
        obtain ⟨v, I2⟩ := z
        obtain ⟨e, hf2, hs2⟩ := hz
        (try dsimp only at e hf2 hs2)
        subst e
        refine ⟨(I 91 0, I2), ?_, I2, rfl, hf2, hs2⟩
        show rs_M_image_101_b (nI 4) I2 = _
        unfold rs_M_image_101_b rs_M_image_124
        rw [hf2 91 0 (by omega), hf 91 0 (by (try dsimp only); omega)]
        simp (disch := omega) only [bl_lit, lgl, lgg, lgl0, lgg0, lglm, lggm, az_us, az_un, az_ue, az_urn, az_ure, bz_lit, nI_leI, nI_ltI, nI_eq, nI_clamp, nI_add, pk_sub, pk_mul, bz_nlt, bz_nle, bz_ltn, bz_len, bz_neq, bz_eqn, bz_nn, ↓reduceIte, Bool.false_eq_true, if_pos, if_neg, Option.map_some]
    obtain ⟨x, r, I', rfl, hf2, hs2⟩ := two
    refine ⟨(I 91 0, I'), ?_, I', rfl, hf.trans (hf2.mono (fun r k q => by (try dsimp only at q ⊢); omega)), ?_, ?_, ?_, hs2⟩
    · show rs_M_image_15_b (nI nw) I1 = _
      unfold rs_M_image_15_b
      simp (disch := omega) only [bl_lit, lgl, lgg, lgl0, lgg0, lglm, lggm, az_us, az_un, az_ue, az_urn, az_ure, bz_lit, nI_leI, nI_ltI, nI_eq, nI_clamp, nI_add, pk_sub, pk_mul, bz_nlt, bz_nle, bz_ltn, bz_len, bz_neq, bz_eqn, bz_nn, ↓reduceIte, Bool.false_eq_true, if_pos, if_neg, e7]
      rw [r]
      rfl
    · rw [hf2 73 29 (by omega)]; exact g1
    · rw [hf2 73 30 (by omega)]; exact g2
    · intro w hw
      rw [hf2 92 _ (by omega), hf2 92 _ (by omega), hf2 92 _ (by omega), hf2 92 _ (by omega)]
      exact hs w hw
theorem mt_image (h : Rel I J rl rd) : mt (rs_X_image I) (fun I => rs_M_image I) J rl rd := by
  have g := h
  obtain ⟨h1, h2, h3, h4, h5, h6, h7, h8, h9, h10, h11, h12⟩ := g
  have g1 := h1
  obtain ⟨np, nw, p1, p2, p3, p4, p5, p6⟩ := g1
  obtain ⟨I1, r1, f1, a1, a2, a3, a4⟩ := im_X p5 p2
  obtain ⟨x, r2, I2, rfl, f2, b1, b2, b3, b4⟩ := im_M (I := I1) (nw := nw) (by rw [f1 73 7 (by (try dsimp only); omega)]; exact p6) p2
  have hf : az_fr (fun r k => (49 ≤ r ∧ r ≤ 54) ∨ r = 92 ∨ r = 93 ∨ (r = 73 ∧ (k = 29 ∨ k = 30))) I I2 := (f1.mono (fun r k q => by (try dsimp only at q ⊢); omega)).trans (f2.mono (fun r k q => by (try dsimp only at q ⊢); omega))
  refine ⟨I 13 0, I1, I2, ?_, ?_, (h1.fr (fun r k q => hf r k (by unfold S_cnt at q; (try dsimp only); omega))), (h2.fr (fun r k q => hf r k (by unfold S_hts at q; (try dsimp only); omega))), (h3.fr (fun r k q => hf r k (by unfold S_pst at q; (try dsimp only); omega))), (h4.fr (fun r k q => hf r k (by unfold S_wlk at q; (try dsimp only); omega))), (h5.fr (fun r k q => hf r k (by unfold S_std at q; (try dsimp only); omega))), (h6.fr (fun r k q => hf r k (by unfold S_led at q; (try dsimp only); omega))), (h7.fr (fun r k q => hf r k (by unfold S_tap at q; (try dsimp only); omega))), (h8.fr (fun r k q => hf r k (by unfold S_law at q; (try dsimp only); omega))), (h9.fr (fun r k q => hf r k (by unfold S_chg at q; (try dsimp only); omega))), Or.inr ⟨?_, b1, nw, p2, ?_, b2, ?_, fun w hw => ?_, fun k hk => ?_⟩, (h11.fr (fun r k q => hf r k (by unfold S_bod at q; (try dsimp only); omega))), (h12.fr (fun r k q => hf r k (by unfold S_shf at q; (try dsimp only); omega)))⟩
  · unfold rs_X_image
    rw [r1]
    (try dsimp only)
    rw [f1 13 0 (by (try dsimp only); omega)]
  · (try dsimp only)
    rw [r2, f1 91 0 (by (try dsimp only); omega), h6 0 (by omega)]
  · rw [f2 49 0 (by (try dsimp only); omega)]; exact a1
  · rw [f2 49 1 (by (try dsimp only); omega)]; exact a2
  · rw [hf 4 9 (by (try dsimp only); omega), p5, nI_toInt (by omega)]
    omega
  · obtain ⟨y1, y2, y3, y4⟩ := a3 w hw
    obtain ⟨z1, z2, z3, z4⟩ := b3 w hw
    obtain ⟨⟨c, s1, s2, s3⟩, s4, s5⟩ := h5 w (by omega)
    obtain ⟨u1, u2, u3, u4⟩ := h4.1 w (by omega)
    rw [f2 50 w (by (try dsimp only); omega), f2 51 w (by (try dsimp only); omega), f2 52 w (by (try dsimp only); omega), f2 53 w (by (try dsimp only); omega), y1, y2, y3, y4, z1, z2, z3, z4, f1 78 w (by (try dsimp only); omega), f1 74 (160 + w) (by (try dsimp only); omega), f1 74 (166 + w) (by (try dsimp only); omega), f1 79 w (by (try dsimp only); omega)]
    exact ⟨⟨c, s1, s2, s3⟩, u1, u2, u3, s4⟩
  · rw [f2 54 k (by (try dsimp only); omega), a4 k hk, b4 k hk, f1 91 k (by (try dsimp only); omega)]
    exact h6 k hk
theorem bk_X {n : Nat} (h : I 49 1 = nI n) (hn : n ≤ 6) : ∃ I', rs_Kp_layBack I = some I' ∧ az_fr (fun r k => ((r = 11 ∨ r = 8 ∨ r = 9 ∨ r = 12) ∧ k < n) ∨ (r = 13 ∧ k < 4)) I I' ∧ (∀ w, w < n → I' 11 w = I 50 w ∧ I' 8 w = I 51 w ∧ I' 9 w = I 52 w ∧ I' 12 w = I 53 w) ∧ ∀ k, k < 4 → I' 13 k = I 54 k := by
  unfold rs_Kp_layBack
  rw [h, nI_clamp (by omega)]
  have c : ¬ ((0 : Int32) < 0 ∨ (0 : Int32) < 0 ∨ nI n < 0 ∨ 6 < (0 : Int32).toNatClampNeg + n ∨ 6 < (0 : Int32).toNatClampNeg + n) := by
    have : (0 : Int32).toNatClampNeg = 0 := by decide
    have h1 : ¬ (0 : Int32) < 0 := by decide
    have h2 : ¬ nI n < 0 := nI_pos (by omega)
    rw [this]
    intro q
    rcases q with q | q | q | q | q
    · exact h1 q
    · exact h1 q
    · exact h2 q
    · omega
    · omega
  simp only [if_neg c]
  have cp : ∀ (f g : Nat → Int32) (m k : Nat), k < m ∨ va_cpy f g 0 0 m k = g k := by
    intro f g m k
    rcases Nat.lt_or_ge k m with q | q
    · exact Or.inl q
    · exact Or.inr (pk_cpy_out (by omega))
  refine ⟨_, rfl, ?_, ?_, ?_⟩
  · refine ((((az_fr.refl.ur ?_).ur ?_).ur ?_).ur ?_).ur ?_
    · intro k; rcases cp (I 50) (I 11) n k with q | q
      · exact Or.inl (by (try dsimp only); omega)
      · exact Or.inr q
    · intro k
      rcases Nat.lt_or_ge k n with q | q
      · exact Or.inl (by (try dsimp only); omega)
      · exact Or.inr (pk_cpy_out (by omega))
    · intro k
      rcases Nat.lt_or_ge k n with q | q
      · exact Or.inl (by (try dsimp only); omega)
      · exact Or.inr (pk_cpy_out (by omega))
    · intro k
      rcases Nat.lt_or_ge k n with q | q
      · exact Or.inl (by (try dsimp only); omega)
      · exact Or.inr (pk_cpy_out (by omega))
    · intro k
      rcases Nat.lt_or_ge k 4 with q | q
      · exact Or.inl (by (try dsimp only); omega)
      · exact Or.inr (pk_cpy_out (by omega))
  · intro w hw
    refine ⟨?_, ?_, ?_, ?_⟩
    · simp (disch := omega) only [bl_lit, lgl, lgg, lgl0, lgg0, lglm, lggm, az_us, az_un, az_ue, az_urn, az_ure, bz_lit, nI_leI, nI_ltI, nI_eq, nI_clamp, nI_add, pk_sub, pk_mul, bz_nlt, bz_nle, bz_ltn, bz_len, bz_neq, bz_eqn, bz_nn, ↓reduceIte, Bool.false_eq_true, if_pos, if_neg]
      rw [pk_cpy_in (by omega) (by omega), Nat.sub_zero, Nat.zero_add]
    · simp (disch := omega) only [bl_lit, lgl, lgg, lgl0, lgg0, lglm, lggm, az_us, az_un, az_ue, az_urn, az_ure, bz_lit, nI_leI, nI_ltI, nI_eq, nI_clamp, nI_add, pk_sub, pk_mul, bz_nlt, bz_nle, bz_ltn, bz_len, bz_neq, bz_eqn, bz_nn, ↓reduceIte, Bool.false_eq_true, if_pos, if_neg]
      rw [pk_cpy_in (by omega) (by omega), Nat.sub_zero, Nat.zero_add]
    · simp (disch := omega) only [bl_lit, lgl, lgg, lgl0, lgg0, lglm, lggm, az_us, az_un, az_ue, az_urn, az_ure, bz_lit, nI_leI, nI_ltI, nI_eq, nI_clamp, nI_add, pk_sub, pk_mul, bz_nlt, bz_nle, bz_ltn, bz_len, bz_neq, bz_eqn, bz_nn, ↓reduceIte, Bool.false_eq_true, if_pos, if_neg]
      rw [pk_cpy_in (by omega) (by omega), Nat.sub_zero, Nat.zero_add]
    · simp (disch := omega) only [bl_lit, lgl, lgg, lgl0, lgg0, lglm, lggm, az_us, az_un, az_ue, az_urn, az_ure, bz_lit, nI_leI, nI_ltI, nI_eq, nI_clamp, nI_add, pk_sub, pk_mul, bz_nlt, bz_nle, bz_ltn, bz_len, bz_neq, bz_eqn, bz_nn, ↓reduceIte, Bool.false_eq_true, if_pos, if_neg]
      rw [pk_cpy_in (by omega) (by omega), Nat.sub_zero, Nat.zero_add]
  · intro k hk
    simp (disch := omega) only [bl_lit, lgl, lgg, lgl0, lgg0, lglm, lggm, az_us, az_un, az_ue, az_urn, az_ure, bz_lit, nI_leI, nI_ltI, nI_eq, nI_clamp, nI_add, pk_sub, pk_mul, bz_nlt, bz_nle, bz_ltn, bz_len, bz_neq, bz_eqn, bz_nn, ↓reduceIte, Bool.false_eq_true, if_pos, if_neg]
    rw [pk_cpy_in (by omega) (by omega), Nat.sub_zero, Nat.zero_add]
theorem bk_M {n : Nat} (h : I 73 30 = nI n) (hn : n ≤ 6) : ∃ x, rs_M_back_12 I (nI 0) = some x ∧ ∃ I', x = (I 93 0, I') ∧ az_fr (fun r k => ((r = 78 ∨ r = 79) ∧ k < n) ∨ (r = 74 ∧ (160 ≤ k ∧ k < 160 + n ∨ 166 ≤ k ∧ k < 166 + n)) ∨ (r = 91 ∧ k < 4)) I I' ∧ (∀ w, w < n → I' 78 w = I 92 (4 * w) ∧ I' 74 (160 + w) = I 92 (4 * w + 1) ∧ I' 74 (166 + w) = I 92 (4 * w + 2) ∧ I' 79 w = I 92 (4 * w + 3)) ∧ ∀ k, k < 4 → I' 91 k = I 93 k := by
  unfold rs_M_back_12
  refine az_for0 (fun i (z : Int32 × (Nat → Nat → Int32)) => z.1 = nI i ∧ az_fr (fun r k => ((r = 78 ∨ r = 79) ∧ k < n) ∨ (r = 74 ∧ (160 ≤ k ∧ k < 160 + n ∨ 166 ≤ k ∧ k < 166 + n)) ∨ (r = 91 ∧ k < 4)) I z.2 ∧ (∀ w, w < i → z.2 78 w = I 92 (4 * w) ∧ z.2 74 (160 + w) = I 92 (4 * w + 1) ∧ z.2 74 (166 + w) = I 92 (4 * w + 2) ∧ z.2 79 w = I 92 (4 * w + 3))) n (by omega)
    ⟨rfl, az_fr.refl, fun w hw => absurd hw (Nat.not_lt_zero w)⟩ ?_ ?_
  · intro i z hi hz
    obtain ⟨v, I1⟩ := z
    obtain ⟨e, hf, hs⟩ := hz
    (try dsimp only at e hf hs)
    subst e
    show ∃ o, rs_M_back_12_b (nI i) I1 = some o ∧ _
    unfold rs_M_back_12_b
    have e7 : I1 73 30 = nI n := (hf 73 30 (by (try dsimp only); omega)).trans h
    refine az_nxt (nI (i + 1), az_u (az_u (az_u (az_u I1 78 i (I1 92 (4 * i))) 74 (160 + i) (I1 92 (4 * i + 1))) 74 (166 + i) (I1 92 (4 * i + 2))) 79 i (I1 92 (4 * i + 3))) ?_ ⟨rfl, ?_, ?_⟩
    · simp (disch := omega) only [bl_lit, lgl, lgg, lgl0, lgg0, lglm, lggm, az_us, az_un, az_ue, az_urn, az_ure, bz_lit, nI_leI, nI_ltI, nI_eq, nI_clamp, nI_add, pk_sub, pk_mul, bz_nlt, bz_nle, bz_ltn, bz_len, bz_neq, bz_eqn, bz_nn, ↓reduceIte, Bool.false_eq_true, if_pos, if_neg, e7]
    · exact (((hf.u (by (try dsimp only); omega)).u (by (try dsimp only); omega)).u (by (try dsimp only); omega)).u (by (try dsimp only); omega)
    · intro w hw
      (try dsimp only)
      by_cases e : w = i
      · subst e
        simp (disch := omega) only [bl_lit, lgl, lgg, lgl0, lgg0, lglm, lggm, az_us, az_un, az_ue, az_urn, az_ure, bz_lit, nI_leI, nI_ltI, nI_eq, nI_clamp, nI_add, pk_sub, pk_mul, bz_nlt, bz_nle, bz_ltn, bz_len, bz_neq, bz_eqn, bz_nn, ↓reduceIte, Bool.false_eq_true, if_pos, if_neg]
        exact ⟨hf 92 _ (by (try dsimp only); omega), hf 92 _ (by (try dsimp only); omega), hf 92 _ (by (try dsimp only); omega), hf 92 _ (by (try dsimp only); omega)⟩
      · obtain ⟨y1, y2, y3, y4⟩ := hs w (by omega)
        simp (disch := omega) only [bl_lit, lgl, lgg, lgl0, lgg0, lglm, lggm, az_us, az_un, az_ue, az_urn, az_ure, bz_lit, nI_leI, nI_ltI, nI_eq, nI_clamp, nI_add, pk_sub, pk_mul, bz_nlt, bz_nle, bz_ltn, bz_len, bz_neq, bz_eqn, bz_nn, ↓reduceIte, Bool.false_eq_true, if_pos, if_neg]
        exact ⟨y1, y2, y3, y4⟩
  · intro z hz
    obtain ⟨v, I1⟩ := z
    obtain ⟨e, hf, hs⟩ := hz
    (try dsimp only at e hf hs)
    subst e
    have e7 : I1 73 30 = nI n := (hf 73 30 (by (try dsimp only); omega)).trans h
    have two : ∃ x, rs_M_back_98 I1 (nI 0) = some x ∧ ∃ I', x = (I 93 0, I') ∧ az_fr (fun r k => r = 91 ∧ k < 4) I1 I' ∧ ∀ k, k < 4 → I' 91 k = I 93 k := by
      unfold rs_M_back_98
      refine az_for0 (fun i (z : Int32 × (Nat → Nat → Int32)) => z.1 = nI i ∧ az_fr (fun r k => r = 91 ∧ k < 4) I1 z.2 ∧ ∀ k, k < i → z.2 91 k = I 93 k) 4 (by omega) ⟨rfl, az_fr.refl, fun k hk => absurd hk (Nat.not_lt_zero k)⟩ ?_ ?_
      · intro i z hi hz
        obtain ⟨v, I2⟩ := z
        obtain ⟨e, hf2, hs2⟩ := hz
        (try dsimp only at e hf2 hs2)
        subst e
        show ∃ o, rs_M_back_98_b (nI i) I2 = some o ∧ _
        unfold rs_M_back_98_b
        refine az_nxt (nI (i + 1), az_u I2 91 i (I2 93 i)) ?_ ⟨rfl, hf2.u (by (try dsimp only); omega), ?_⟩
        · simp (disch := omega) only [bl_lit, lgl, lgg, lgl0, lgg0, lglm, lggm, az_us, az_un, az_ue, az_urn, az_ure, bz_lit, nI_leI, nI_ltI, nI_eq, nI_clamp, nI_add, pk_sub, pk_mul, bz_nlt, bz_nle, bz_ltn, bz_len, bz_neq, bz_eqn, bz_nn, ↓reduceIte, Bool.false_eq_true, if_pos, if_neg]
        · intro k hk
          (try dsimp only)
          by_cases e : k = i
          · subst e
            rw [az_us, hf2 93 k (by (try dsimp only); omega), hf 93 k (by (try dsimp only); omega)]
          · rw [az_un (by omega)]
            exact hs2 k (by omega)
      · intro z hz
        obtain ⟨v, I2⟩ := z
        obtain ⟨e, hf2, hs2⟩ := hz
        (try dsimp only at e hf2 hs2)
        subst e
        refine ⟨(I 93 0, I2), ?_, I2, rfl, hf2, hs2⟩
        show rs_M_back_98_b (nI 4) I2 = _
        unfold rs_M_back_98_b rs_M_back_121
        rw [hs2 0 (by omega)]
        simp (disch := omega) only [bl_lit, lgl, lgg, lgl0, lgg0, lglm, lggm, az_us, az_un, az_ue, az_urn, az_ure, bz_lit, nI_leI, nI_ltI, nI_eq, nI_clamp, nI_add, pk_sub, pk_mul, bz_nlt, bz_nle, bz_ltn, bz_len, bz_neq, bz_eqn, bz_nn, ↓reduceIte, Bool.false_eq_true, if_pos, if_neg, Option.map_some]
    obtain ⟨x, r, I', rfl, hf2, hs2⟩ := two
    refine ⟨(I 93 0, I'), ?_, I', rfl, hf.trans (hf2.mono (fun r k q => by (try dsimp only at q ⊢); omega)), ?_, hs2⟩
    · show rs_M_back_12_b (nI n) I1 = _
      unfold rs_M_back_12_b
      simp (disch := omega) only [bl_lit, lgl, lgg, lgl0, lgg0, lglm, lggm, az_us, az_un, az_ue, az_urn, az_ure, bz_lit, nI_leI, nI_ltI, nI_eq, nI_clamp, nI_add, pk_sub, pk_mul, bz_nlt, bz_nle, bz_ltn, bz_len, bz_neq, bz_eqn, bz_nn, ↓reduceIte, Bool.false_eq_true, if_pos, if_neg, e7]
      rw [r]
      rfl
    · intro w hw
      rw [hf2 78 _ (by (try dsimp only); omega), hf2 74 _ (by (try dsimp only); omega), hf2 74 _ (by (try dsimp only); omega), hf2 79 _ (by (try dsimp only); omega)]
      exact hs w hw
theorem mt_back (h : Rel I J rl rd) : mt (rs_X_back I) (fun I => rs_M_back I) J rl rd := by
  have g := h
  obtain ⟨h1, h2, h3, h4, h5, h6, h7, h8, h9, h10, h11, h12⟩ := g
  have g1 := h1
  obtain ⟨np, nw, p1, p2, p3, p4, p5, p6⟩ := g1
  unfold rs_X_back rs_M_back
  rcases h10 with ⟨i1, i2⟩ | ⟨i1, i2, n, i3, i4, i5, i6, i7, i8⟩
  · exact ⟨-nI 5, I, I, by simp (disch := omega) only [bl_lit, lgl, lgg, lgl0, lgg0, lglm, lggm, az_us, az_un, az_ue, az_urn, az_ure, bz_lit, nI_leI, nI_ltI, nI_eq, nI_clamp, nI_add, pk_sub, pk_mul, bz_nlt, bz_nle, bz_ltn, bz_len, bz_neq, bz_eqn, bz_nn, ↓reduceIte, Bool.false_eq_true, if_pos, if_neg, i1], by simp (disch := omega) only [bl_lit, lgl, lgg, lgl0, lgg0, lglm, lggm, az_us, az_un, az_ue, az_urn, az_ure, bz_lit, nI_leI, nI_ltI, nI_eq, nI_clamp, nI_add, pk_sub, pk_mul, bz_nlt, bz_nle, bz_ltn, bz_len, bz_neq, bz_eqn, bz_nn, ↓reduceIte, Bool.false_eq_true, if_pos, if_neg, i2], h⟩
  · obtain ⟨I1, r1, f1, a3, a4⟩ := bk_X i4 i3
    obtain ⟨x, r2, I2, rfl, f2, b3, b4⟩ := bk_M (I := I1) (n := n) (by rw [f1 73 30 (by (try dsimp only); omega)]; exact i5) i3
    have hf : az_fr (fun r k => ((r = 11 ∨ r = 8 ∨ r = 9 ∨ r = 12 ∨ r = 78 ∨ r = 79) ∧ k < n) ∨ ((r = 13 ∨ r = 91) ∧ k < 4) ∨ (r = 74 ∧ (160 ≤ k ∧ k < 160 + n ∨ 166 ≤ k ∧ k < 166 + n))) I I2 := (f1.mono (fun r k q => by (try dsimp only at q ⊢); omega)).trans (f2.mono (fun r k q => by (try dsimp only at q ⊢); omega))
    have c9 := hf 4 9 (by (try dsimp only); omega)
    refine ⟨I 54 0, I1, I2, ?_, ?_, (h1.fr (fun r k q => hf r k (by unfold S_cnt at q; (try dsimp only); omega))), (h2.fr (fun r k q => hf r k (by unfold S_hts at q; (try dsimp only); omega))), (h3.fr (fun r k q => hf r k (by unfold S_pst at q; (try dsimp only); omega))), ⟨fun w hw => ?_, ?_⟩, fun w hw => ?_, fun k hk => ?_, (h7.fr (fun r k q => hf r k (by unfold S_tap at q; (try dsimp only); omega))), (h8.fr (fun r k q => hf r k (by unfold S_law at q; (try dsimp only); omega))), (h9.fr (fun r k q => hf r k (by unfold S_chg at q; (try dsimp only); omega))), rl_img.fr (I := I) (fun r k q => hf r k (by unfold S_img at q; (try dsimp only); omega)) h.2.2.2.2.2.2.2.2.2.1, (h11.fr (fun r k q => hf r k (by unfold S_bod at q; (try dsimp only); omega))), (h12.fr (fun r k q => hf r k (by unfold S_shf at q; (try dsimp only); omega)))⟩
    · simp (disch := omega) only [bl_lit, lgl, lgg, lgl0, lgg0, lglm, lggm, az_us, az_un, az_ue, az_urn, az_ure, bz_lit, nI_leI, nI_ltI, nI_eq, nI_clamp, nI_add, pk_sub, pk_mul, bz_nlt, bz_nle, bz_ltn, bz_len, bz_neq, bz_eqn, bz_nn, ↓reduceIte, Bool.false_eq_true, if_pos, if_neg, i1]
      rw [r1]
      (try dsimp only)
      rw [a4 0 (by omega)]
    · have e1 : I1 73 29 = nI 1 := by rw [f1 73 29 (by (try dsimp only); omega)]; exact i2
      simp (disch := omega) only [bl_lit, lgl, lgg, lgl0, lgg0, lglm, lggm, az_us, az_un, az_ue, az_urn, az_ure, bz_lit, nI_leI, nI_ltI, nI_eq, nI_clamp, nI_add, pk_sub, pk_mul, bz_nlt, bz_nle, bz_ltn, bz_len, bz_neq, bz_eqn, bz_nn, ↓reduceIte, Bool.false_eq_true, if_pos, if_neg, e1]
      rw [r2, f1 93 0 (by (try dsimp only); omega), i8 0 (by omega)]
    · rw [hf 10 w (by (try dsimp only); omega), hf 74 (172 + w) (by (try dsimp only); omega)]
      obtain ⟨u1, u2, u3, u4⟩ := h4.1 w hw
      by_cases e : w < n
      · obtain ⟨y1, y2, y3, y4⟩ := a3 w e
        obtain ⟨z1, z2, z3, z4⟩ := b3 w e
        obtain ⟨⟨c, s1, s2, s3⟩, s4, s5, s6, s7⟩ := i7 w e
        rw [f2 8 w (by (try dsimp only); omega), f2 9 w (by (try dsimp only); omega), y2, y3, z2, z3, f1 92 _ (by (try dsimp only); omega), f1 92 _ (by (try dsimp only); omega)]
        exact ⟨s4, s5, s6, u4⟩
      · rw [hf 8 w (by (try dsimp only); omega), hf 9 w (by (try dsimp only); omega), hf 74 (160 + w) (by (try dsimp only); omega), hf 74 (166 + w) (by (try dsimp only); omega)]
        exact ⟨u1, u2, u3, u4⟩
    · rw [hf 74 178 (by (try dsimp only); omega), hf 4 10 (by (try dsimp only); omega)]; exact h4.2
    · rw [c9]
      by_cases e : w < n
      · obtain ⟨y1, y2, y3, y4⟩ := a3 w e
        obtain ⟨z1, z2, z3, z4⟩ := b3 w e
        obtain ⟨⟨c, s1, s2, s3⟩, s4, s5, s6, s7⟩ := i7 w e
        rw [f2 11 w (by (try dsimp only); omega), f2 12 w (by (try dsimp only); omega), y1, y4, z1, z4, f1 92 _ (by (try dsimp only); omega), f1 92 _ (by (try dsimp only); omega)]
        exact ⟨⟨c, s1, s2, s3⟩, s7, fun q => by omega⟩
      · rw [hf 11 w (by (try dsimp only); omega), hf 12 w (by (try dsimp only); omega), hf 78 w (by (try dsimp only); omega), hf 79 w (by (try dsimp only); omega)]
        exact h5 w hw
    · rw [f2 13 k (by (try dsimp only); omega), a4 k hk, b4 k hk, f1 93 k (by (try dsimp only); omega)]
      exact i8 k hk
end

/-! EASY CALLS -/
theorem bl_lit (n : Nat) : (OfNat.ofNat n : Int64) = lN n := rfl
theorem lgl {a b : Int32} : lg_cmp a.toInt64 b.toInt64 < nI 0 ↔ a < b := by
  rw [show nI 0 = (0 : Int32) from rfl, bz_lcl, bz_lt64', Int32.lt_iff_toInt_lt]
theorem lgg {a b : Int32} : nI 0 < lg_cmp a.toInt64 b.toInt64 ↔ b < a := by
  rw [show nI 0 = (0 : Int32) from rfl, bz_lcg, bz_lt64', Int32.lt_iff_toInt_lt]
theorem lgl0 {a : Int32} {n : Nat} (h : n < 2 ^ 31) : lg_cmp a.toInt64 (lN n) < nI 0 ↔ a < nI n := by
  have q := lgl (a := a) (b := nI n)
  rw [nI_l h] at q
  exact q
theorem lgg0 {a : Int32} {n : Nat} (h : n < 2 ^ 31) : nI 0 < lg_cmp a.toInt64 (lN n) ↔ nI n < a := by
  have q := lgg (a := a) (b := nI n)
  rw [nI_l h] at q
  exact q
theorem lgm {n : Nat} (h : n < 2 ^ 31) : (-nI n).toInt64 = -(lN n) := by
  apply Int64.toInt_inj.mp
  rw [Int32.toInt_toInt64, bz_ng h, Int64.toInt_neg, pk_lT (by omega)]
  exact (Int.bmod_eq_of_le (by omega) (by omega)).symm
theorem lglm {a : Int32} {n : Nat} (h : n < 2 ^ 31) : lg_cmp a.toInt64 (-(lN n)) < nI 0 ↔ a < -nI n := by
  have q := lgl (a := a) (b := -nI n)
  rw [lgm h] at q
  exact q
theorem lggm {a : Int32} {n : Nat} (h : n < 2 ^ 31) : nI 0 < lg_cmp a.toInt64 (-(lN n)) ↔ -nI n < a := by
  have q := lgg (a := a) (b := -nI n)
  rw [lgm h] at q
  exact q
theorem ix (a : Int32) (n : Nat) (hn : n < 2 ^ 29) : a < nI 0 ∨ (¬ a < nI 0 ∧ nI n - nI 1 < a) ∨ ∃ j, j < n ∧ a = nI j := by
  by_cases h : a < nI 0
  · exact Or.inl h
  · obtain ⟨j, hj, rfl⟩ := nI_of (show ¬ a < 0 from h)
    rcases Nat.lt_or_ge j n with q | q
    · exact Or.inr (Or.inr ⟨j, q, rfl⟩)
    · refine Or.inr (Or.inl ⟨h, ?_⟩)
      rw [Int32.lt_iff_toInt_lt, pk_sub_toInt (by omega) (by omega), nI_toInt hj]
      omega
theorem ixc (a : Int32) (m : Nat) (hm : m < 2 ^ 29) : a < nI 0 ∨ (¬ a < nI 0 ∧ nI m < a) ∨ ∃ j, j ≤ m ∧ a = nI j := by
  by_cases h : a < nI 0
  · exact Or.inl h
  · obtain ⟨j, hj, rfl⟩ := nI_of (show ¬ a < 0 from h)
    rcases Nat.lt_or_ge m j with q | q
    · exact Or.inr (Or.inl ⟨h, nI_lt q hj⟩)
    · exact Or.inr (Or.inr ⟨j, q, rfl⟩)
/-- a call: both answer alike, and all stays told alike -/
def mt (X : Option (Int32 × (Nat → Nat → Int32))) (M : (Nat → Nat → Int32) → Option (Int32 × (Nat → Nat → Int32))) (J : Nat → Nat → Int64) (rl rd : Nat) : Prop :=
  ∃ v I1 I2, X = some (v, I1) ∧ M I1 = some (v, I2) ∧ Rel I2 J rl rd
section
variable {I : Nat → Nat → Int32} {J : Nat → Nat → Int64} {rl rd : Nat}
theorem mt_post (h : Rel I J rl rd) (a : Int32) : mt (rs_X_post I a) (fun I => rs_M_post I a) J rl rd := by
  unfold rs_X_post rs_M_post
  rcases ix_ft (a := a) with ⟨x, y⟩ | ⟨x, y, c, d, hc, hd, _, e1, e2⟩
  · rw [x, y]
    exact ⟨_, I, I, rfl, rfl, h⟩
  · rw [x, y, e2, e1]
    obtain ⟨h1, h2, h3, h4, h5, h6, h7, h8, h9, h10, h11, h12⟩ := h
    have g1 := h1
    obtain ⟨np, nw, p1, p2, p3, p4, p5, p6⟩ := g1
    unfold rs_Mo_addPost
    by_cases hn : np < 8
    · have hf : az_fr (fun r k => r = 6 ∨ r = 7 ∨ (r = 4 ∧ k = 3) ∨ (r = 73 ∧ k = 6) ∨ (r = 74 ∧ 144 ≤ k ∧ k < 160)) I (az_u (az_u (az_u (az_u (az_u (az_u I 6 np (nI c)) 7 np (nI d)) 4 3 (nI (np + 1))) 74 (144 + np) (nI c)) 74 (152 + np) (nI d)) 73 6 (nI (np + 1))) := (by refine ((((((az_fr.refl.u ?_).u ?_).u ?_).u ?_).u ?_).u ?_) <;> (try dsimp only) <;> omega)
      refine ⟨nI np, az_u (az_u (az_u I 6 np (nI c)) 7 np (nI d)) 4 3 (nI (np + 1)), az_u (az_u (az_u (az_u (az_u (az_u I 6 np (nI c)) 7 np (nI d)) 4 3 (nI (np + 1))) 74 (144 + np) (nI c)) 74 (152 + np) (nI d)) 73 6 (nI (np + 1)), ?_, ?_, ⟨np + 1, nw, by omega, p2, ?_, ?_, ?_, ?_⟩, (h2.fr (fun r k q => hf r k (by unfold S_hts at q; (try dsimp only); omega))), ?_, (h4.fr (fun r k q => hf r k (by unfold S_wlk at q; (try dsimp only); omega))), (h5.fr (fun r k q => hf r k (by unfold S_std at q; (try dsimp only); omega))), (h6.fr (fun r k q => hf r k (by unfold S_led at q; (try dsimp only); omega))), (h7.fr (fun r k q => hf r k (by unfold S_tap at q; (try dsimp only); omega))), (h8.fr (fun r k q => hf r k (by unfold S_law at q; (try dsimp only); omega))), (h9.fr (fun r k q => hf r k (by unfold S_chg at q; (try dsimp only); omega))), (h10.fr (fun r k q => hf r k (by unfold S_img at q; (try dsimp only); omega))), (h11.fr (fun r k q => hf r k (by unfold S_bod at q; (try dsimp only); omega))), (h12.fr (fun r k q => hf r k (by unfold S_shf at q; (try dsimp only); omega)))⟩
      · simp (disch := omega) only [bl_lit, lgl, lgg, lgl0, lgg0, lglm, lggm, az_us, az_un, az_ue, az_urn, az_ure, bz_lit, nI_leI, nI_ltI, nI_eq, nI_clamp, nI_add, pk_sub, pk_mul, bz_nlt, bz_nle, bz_ltn, bz_len, bz_neq, bz_eqn, bz_nn, ↓reduceIte, Bool.false_eq_true, if_pos, if_neg, p3]
      · simp (disch := omega) only [bl_lit, lgl, lgg, lgl0, lgg0, lglm, lggm, az_us, az_un, az_ue, az_urn, az_ure, bz_lit, nI_leI, nI_ltI, nI_eq, nI_clamp, nI_add, pk_sub, pk_mul, bz_nlt, bz_nle, bz_ltn, bz_len, bz_neq, bz_eqn, bz_nn, ↓reduceIte, Bool.false_eq_true, if_pos, if_neg, p4, Nat.add_sub_cancel]
      · simp (disch := omega) only [bl_lit, lgl, lgg, lgl0, lgg0, lglm, lggm, az_us, az_un, az_ue, az_urn, az_ure, bz_lit, nI_leI, nI_ltI, nI_eq, nI_clamp, nI_add, pk_sub, pk_mul, bz_nlt, bz_nle, bz_ltn, bz_len, bz_neq, bz_eqn, bz_nn, ↓reduceIte, Bool.false_eq_true, if_pos, if_neg]
      · simp (disch := omega) only [bl_lit, lgl, lgg, lgl0, lgg0, lglm, lggm, az_us, az_un, az_ue, az_urn, az_ure, bz_lit, nI_leI, nI_ltI, nI_eq, nI_clamp, nI_add, pk_sub, pk_mul, bz_nlt, bz_nle, bz_ltn, bz_len, bz_neq, bz_eqn, bz_nn, ↓reduceIte, Bool.false_eq_true, if_pos, if_neg]
      · simp (disch := omega) only [bl_lit, lgl, lgg, lgl0, lgg0, lglm, lggm, az_us, az_un, az_ue, az_urn, az_ure, bz_lit, nI_leI, nI_ltI, nI_eq, nI_clamp, nI_add, pk_sub, pk_mul, bz_nlt, bz_nle, bz_ltn, bz_len, bz_neq, bz_eqn, bz_nn, ↓reduceIte, Bool.false_eq_true, if_pos, if_neg, p5]
      · simp (disch := omega) only [bl_lit, lgl, lgg, lgl0, lgg0, lglm, lggm, az_us, az_un, az_ue, az_urn, az_ure, bz_lit, nI_leI, nI_ltI, nI_eq, nI_clamp, nI_add, pk_sub, pk_mul, bz_nlt, bz_nle, bz_ltn, bz_len, bz_neq, bz_eqn, bz_nn, ↓reduceIte, Bool.false_eq_true, if_pos, if_neg, p6]
      · obtain ⟨pc, pt, h3⟩ := h3
        refine ⟨fun k => if k = np then c else pc k, fun k => if k = np then d else pt k, fun k hk => ?_⟩
        obtain ⟨q1, q2, q3, q4, q5, q6⟩ := h3 k hk
        by_cases e : k = np
        · subst e
          simp (disch := omega) only [bl_lit, lgl, lgg, lgl0, lgg0, lglm, lggm, az_us, az_un, az_ue, az_urn, az_ure, bz_lit, nI_leI, nI_ltI, nI_eq, nI_clamp, nI_add, pk_sub, pk_mul, bz_nlt, bz_nle, bz_ltn, bz_len, bz_neq, bz_eqn, bz_nn, ↓reduceIte, Bool.false_eq_true, if_pos, if_neg]
          exact ⟨trivial, trivial, hc, trivial, trivial, hd⟩
        · simp (disch := omega) only [bl_lit, lgl, lgg, lgl0, lgg0, lglm, lggm, az_us, az_un, az_ue, az_urn, az_ure, bz_lit, nI_leI, nI_ltI, nI_eq, nI_clamp, nI_add, pk_sub, pk_mul, bz_nlt, bz_nle, bz_ltn, bz_len, bz_neq, bz_eqn, bz_nn, ↓reduceIte, Bool.false_eq_true, if_pos, if_neg, q1, q2, q4, q5, e]
          exact ⟨trivial, trivial, q3, trivial, trivial, q6⟩
    · have : np = 8 := by omega
      subst this
      refine ⟨-nI 3, I, I, ?_, ?_, h1, h2, h3, h4, h5, h6, h7, h8, h9, h10, h11, h12⟩
      · simp (disch := omega) only [bl_lit, lgl, lgg, lgl0, lgg0, lglm, lggm, az_us, az_un, az_ue, az_urn, az_ure, bz_lit, nI_leI, nI_ltI, nI_eq, nI_clamp, nI_add, pk_sub, pk_mul, bz_nlt, bz_nle, bz_ltn, bz_len, bz_neq, bz_eqn, bz_nn, ↓reduceIte, Bool.false_eq_true, if_pos, if_neg, p3]
      · simp (disch := omega) only [bl_lit, lgl, lgg, lgl0, lgg0, lglm, lggm, az_us, az_un, az_ue, az_urn, az_ure, bz_lit, nI_leI, nI_ltI, nI_eq, nI_clamp, nI_add, pk_sub, pk_mul, bz_nlt, bz_nle, bz_ltn, bz_len, bz_neq, bz_eqn, bz_nn, ↓reduceIte, Bool.false_eq_true, if_pos, if_neg, p4]
theorem mt_feed (h : Rel I J rl rd) (a : Int32) : mt (rs_X_feed I a) (fun I => rs_M_feed I a) J rl rd := by
  unfold rs_X_feed rs_M_feed
  rcases ixc a 255 (by omega) with x | ⟨x, y⟩ | ⟨j, hj, rfl⟩
  · exact ⟨-nI 1, I, I, by simp (disch := omega) only [bl_lit, lgl, lgg, lgl0, lgg0, lglm, lggm, az_us, az_un, az_ue, az_urn, az_ure, bz_lit, nI_leI, nI_ltI, nI_eq, nI_clamp, nI_add, pk_sub, pk_mul, bz_nlt, bz_nle, bz_ltn, bz_len, bz_neq, bz_eqn, bz_nn, ↓reduceIte, Bool.false_eq_true, if_pos, if_neg, x], by simp (disch := omega) only [bl_lit, lgl, lgg, lgl0, lgg0, lglm, lggm, az_us, az_un, az_ue, az_urn, az_ure, bz_lit, nI_leI, nI_ltI, nI_eq, nI_clamp, nI_add, pk_sub, pk_mul, bz_nlt, bz_nle, bz_ltn, bz_len, bz_neq, bz_eqn, bz_nn, ↓reduceIte, Bool.false_eq_true, if_pos, if_neg, x], h⟩
  · exact ⟨-nI 1, I, I, by simp (disch := omega) only [bl_lit, lgl, lgg, lgl0, lgg0, lglm, lggm, az_us, az_un, az_ue, az_urn, az_ure, bz_lit, nI_leI, nI_ltI, nI_eq, nI_clamp, nI_add, pk_sub, pk_mul, bz_nlt, bz_nle, bz_ltn, bz_len, bz_neq, bz_eqn, bz_nn, ↓reduceIte, Bool.false_eq_true, if_pos, if_neg, x, y], by simp (disch := omega) only [bl_lit, lgl, lgg, lgl0, lgg0, lglm, lggm, az_us, az_un, az_ue, az_urn, az_ure, bz_lit, nI_leI, nI_ltI, nI_eq, nI_clamp, nI_add, pk_sub, pk_mul, bz_nlt, bz_nle, bz_ltn, bz_len, bz_neq, bz_eqn, bz_nn, ↓reduceIte, Bool.false_eq_true, if_pos, if_neg, x, y], h⟩
  · obtain ⟨h1, h2, h3, h4, h5, h6, h7, h8, h9, h10, h11, h12⟩ := h
    have g := h7
    obtain ⟨n, q1, q2, q3, q4⟩ := g
    unfold rs_Ta_add
    by_cases hn : n < 120
    · have hf : az_fr (fun r k => r = 15 ∨ r = 80 ∨ (r = 14 ∧ k = 1) ∨ (r = 73 ∧ k = 11)) I (az_u (az_u (az_u (az_u I 15 n (nI j)) 14 1 (nI (n + 1))) 80 n (nI j)) 73 11 (nI (n + 1))) := (by refine ((((az_fr.refl.u ?_).u ?_).u ?_).u ?_) <;> (try dsimp only) <;> omega)
      refine ⟨nI (n + 1), az_u (az_u I 15 n (nI j)) 14 1 (nI (n + 1)), az_u (az_u (az_u (az_u I 15 n (nI j)) 14 1 (nI (n + 1))) 80 n (nI j)) 73 11 (nI (n + 1)), ?_, ?_, (h1.fr (fun r k q => hf r k (by unfold S_cnt at q; (try dsimp only); omega))), (h2.fr (fun r k q => hf r k (by unfold S_hts at q; (try dsimp only); omega))), (h3.fr (fun r k q => hf r k (by unfold S_pst at q; (try dsimp only); omega))), (h4.fr (fun r k q => hf r k (by unfold S_wlk at q; (try dsimp only); omega))), (h5.fr (fun r k q => hf r k (by unfold S_std at q; (try dsimp only); omega))), (h6.fr (fun r k q => hf r k (by unfold S_led at q; (try dsimp only); omega))), ⟨n + 1, by omega, ?_, ?_, fun k hk => ?_⟩, (h8.fr (fun r k q => hf r k (by unfold S_law at q; (try dsimp only); omega))), (h9.fr (fun r k q => hf r k (by unfold S_chg at q; (try dsimp only); omega))), (h10.fr (fun r k q => hf r k (by unfold S_img at q; (try dsimp only); omega))), (h11.fr (fun r k q => hf r k (by unfold S_bod at q; (try dsimp only); omega))), (h12.fr (fun r k q => hf r k (by unfold S_shf at q; (try dsimp only); omega)))⟩
      · simp (disch := omega) only [bl_lit, lgl, lgg, lgl0, lgg0, lglm, lggm, az_us, az_un, az_ue, az_urn, az_ure, bz_lit, nI_leI, nI_ltI, nI_eq, nI_clamp, nI_add, pk_sub, pk_mul, bz_nlt, bz_nle, bz_ltn, bz_len, bz_neq, bz_eqn, bz_nn, ↓reduceIte, Bool.false_eq_true, if_pos, if_neg, q2]
      · simp (disch := omega) only [bl_lit, lgl, lgg, lgl0, lgg0, lglm, lggm, az_us, az_un, az_ue, az_urn, az_ure, bz_lit, nI_leI, nI_ltI, nI_eq, nI_clamp, nI_add, pk_sub, pk_mul, bz_nlt, bz_nle, bz_ltn, bz_len, bz_neq, bz_eqn, bz_nn, ↓reduceIte, Bool.false_eq_true, if_pos, if_neg, q3]
      · simp (disch := omega) only [bl_lit, lgl, lgg, lgl0, lgg0, lglm, lggm, az_us, az_un, az_ue, az_urn, az_ure, bz_lit, nI_leI, nI_ltI, nI_eq, nI_clamp, nI_add, pk_sub, pk_mul, bz_nlt, bz_nle, bz_ltn, bz_len, bz_neq, bz_eqn, bz_nn, ↓reduceIte, Bool.false_eq_true, if_pos, if_neg]
      · simp (disch := omega) only [bl_lit, lgl, lgg, lgl0, lgg0, lglm, lggm, az_us, az_un, az_ue, az_urn, az_ure, bz_lit, nI_leI, nI_ltI, nI_eq, nI_clamp, nI_add, pk_sub, pk_mul, bz_nlt, bz_nle, bz_ltn, bz_len, bz_neq, bz_eqn, bz_nn, ↓reduceIte, Bool.false_eq_true, if_pos, if_neg]
      · by_cases e : k = n
        · subst e
          simp (disch := omega) only [bl_lit, lgl, lgg, lgl0, lgg0, lglm, lggm, az_us, az_un, az_ue, az_urn, az_ure, bz_lit, nI_leI, nI_ltI, nI_eq, nI_clamp, nI_add, pk_sub, pk_mul, bz_nlt, bz_nle, bz_ltn, bz_len, bz_neq, bz_eqn, bz_nn, ↓reduceIte, Bool.false_eq_true, if_pos, if_neg]
        · simp (disch := omega) only [bl_lit, lgl, lgg, lgl0, lgg0, lglm, lggm, az_us, az_un, az_ue, az_urn, az_ure, bz_lit, nI_leI, nI_ltI, nI_eq, nI_clamp, nI_add, pk_sub, pk_mul, bz_nlt, bz_nle, bz_ltn, bz_len, bz_neq, bz_eqn, bz_nn, ↓reduceIte, Bool.false_eq_true, if_pos, if_neg, q4 k (by omega)]
    · have : n = 120 := by omega
      subst this
      refine ⟨-nI 3, I, I, ?_, ?_, h1, h2, h3, h4, h5, h6, h7, h8, h9, h10, h11, h12⟩
      · simp (disch := omega) only [bl_lit, lgl, lgg, lgl0, lgg0, lglm, lggm, az_us, az_un, az_ue, az_urn, az_ure, bz_lit, nI_leI, nI_ltI, nI_eq, nI_clamp, nI_add, pk_sub, pk_mul, bz_nlt, bz_nle, bz_ltn, bz_len, bz_neq, bz_eqn, bz_nn, ↓reduceIte, Bool.false_eq_true, if_pos, if_neg, q2]
      · simp (disch := omega) only [bl_lit, lgl, lgg, lgl0, lgg0, lglm, lggm, az_us, az_un, az_ue, az_urn, az_ure, bz_lit, nI_leI, nI_ltI, nI_eq, nI_clamp, nI_add, pk_sub, pk_mul, bz_nlt, bz_nle, bz_ltn, bz_len, bz_neq, bz_eqn, bz_nn, ↓reduceIte, Bool.false_eq_true, if_pos, if_neg, q3]
theorem mt_led (h : Rel I J rl rd) (a : Int32) : ∃ v, rs_X_led I a = some v ∧ rs_M_led I a = some v := by
  unfold rs_X_led rs_M_led
  rcases ixc a 3 (by omega) with x | ⟨x, y⟩ | ⟨j, hj, rfl⟩
  · exact ⟨-nI 1, by simp (disch := omega) only [bl_lit, lgl, lgg, lgl0, lgg0, lglm, lggm, az_us, az_un, az_ue, az_urn, az_ure, bz_lit, nI_leI, nI_ltI, nI_eq, nI_clamp, nI_add, pk_sub, pk_mul, bz_nlt, bz_nle, bz_ltn, bz_len, bz_neq, bz_eqn, bz_nn, ↓reduceIte, Bool.false_eq_true, if_pos, if_neg, x], by simp (disch := omega) only [bl_lit, lgl, lgg, lgl0, lgg0, lglm, lggm, az_us, az_un, az_ue, az_urn, az_ure, bz_lit, nI_leI, nI_ltI, nI_eq, nI_clamp, nI_add, pk_sub, pk_mul, bz_nlt, bz_nle, bz_ltn, bz_len, bz_neq, bz_eqn, bz_nn, ↓reduceIte, Bool.false_eq_true, if_pos, if_neg, x]⟩
  · exact ⟨-nI 1, by simp (disch := omega) only [bl_lit, lgl, lgg, lgl0, lgg0, lglm, lggm, az_us, az_un, az_ue, az_urn, az_ure, bz_lit, nI_leI, nI_ltI, nI_eq, nI_clamp, nI_add, pk_sub, pk_mul, bz_nlt, bz_nle, bz_ltn, bz_len, bz_neq, bz_eqn, bz_nn, ↓reduceIte, Bool.false_eq_true, if_pos, if_neg, x, y], by simp (disch := omega) only [bl_lit, lgl, lgg, lgl0, lgg0, lglm, lggm, az_us, az_un, az_ue, az_urn, az_ure, bz_lit, nI_leI, nI_ltI, nI_eq, nI_clamp, nI_add, pk_sub, pk_mul, bz_nlt, bz_nle, bz_ltn, bz_len, bz_neq, bz_eqn, bz_nn, ↓reduceIte, Bool.false_eq_true, if_pos, if_neg, x, y]⟩
  · have q := h.2.2.2.2.2.1 j (by omega)
    exact ⟨I 13 j, by simp (disch := omega) only [bl_lit, lgl, lgg, lgl0, lgg0, lglm, lggm, az_us, az_un, az_ue, az_urn, az_ure, bz_lit, nI_leI, nI_ltI, nI_eq, nI_clamp, nI_add, pk_sub, pk_mul, bz_nlt, bz_nle, bz_ltn, bz_len, bz_neq, bz_eqn, bz_nn, ↓reduceIte, Bool.false_eq_true, if_pos, if_neg], by simp (disch := omega) only [bl_lit, lgl, lgg, lgl0, lgg0, lglm, lggm, az_us, az_un, az_ue, az_urn, az_ure, bz_lit, nI_leI, nI_ltI, nI_eq, nI_clamp, nI_add, pk_sub, pk_mul, bz_nlt, bz_nle, bz_ltn, bz_len, bz_neq, bz_eqn, bz_nn, ↓reduceIte, Bool.false_eq_true, if_pos, if_neg, q]⟩
theorem mt_count (h : Rel I J rl rd) (a : Int32) : ∃ v, rs_X_count I a = some v ∧ rs_M_count I a = some v := by
  obtain ⟨h1, h2, h3, h4, h5, h6, h7, h8, h9, h10, h11, h12⟩ := h
  obtain ⟨np, nw, p1, p2, p3, p4, p5, p6⟩ := h1
  obtain ⟨n, q1, q2, q3, q4⟩ := h7
  obtain ⟨d, al, c1, c2, c3, c4, c5, c6, c7⟩ := h9
  obtain ⟨m, r, b1, b2, b3, b4, b5, b6, b7, b8⟩ := h11
  unfold rs_X_count rs_M_count
  rw [p3, p4, p5, p6, q2, q3, c3, c4, b3, b4, b5, b6]
  (repeat' split) <;> exact ⟨_, rfl, rfl⟩
theorem mt_trace (h : Rel I J rl rd) (a : Int32) : ∃ v, rs_X_trace I a = some v ∧ rs_M_trace I a = some v := by
  obtain ⟨h1, h2, h3, h4, h5, h6, h7, h8, h9, h10, h11, h12⟩ := h
  obtain ⟨m, r, b1, b2, b3, b4, b5, b6, b7, b8⟩ := h11
  unfold rs_X_trace rs_M_trace
  rw [b5, b6]
  rcases ix a (if 24 < r then 24 else r) (by split <;> omega) with x | ⟨x, y⟩ | ⟨j, hj, rfl⟩
  · exact ⟨-nI 1, by simp (disch := omega) only [bl_lit, lgl, lgg, lgl0, lgg0, lglm, lggm, az_us, az_un, az_ue, az_urn, az_ure, bz_lit, nI_leI, nI_ltI, nI_eq, nI_clamp, nI_add, pk_sub, pk_mul, bz_nlt, bz_nle, bz_ltn, bz_len, bz_neq, bz_eqn, bz_nn, ↓reduceIte, Bool.false_eq_true, if_pos, if_neg, x], by simp (disch := omega) only [bl_lit, lgl, lgg, lgl0, lgg0, lglm, lggm, az_us, az_un, az_ue, az_urn, az_ure, bz_lit, nI_leI, nI_ltI, nI_eq, nI_clamp, nI_add, pk_sub, pk_mul, bz_nlt, bz_nle, bz_ltn, bz_len, bz_neq, bz_eqn, bz_nn, ↓reduceIte, Bool.false_eq_true, if_pos, if_neg, x]⟩
  · obtain ⟨j, hj, rfl⟩ := nI_of (show ¬ a < 0 from x)
    have y2 : (if 24 < r then 24 else r) ≤ j := by
      rw [Int32.lt_iff_toInt_lt, pk_sub_toInt (by split <;> omega) (by omega), nI_toInt hj] at y
      omega
    by_cases hr : 24 < r
    · rw [if_pos hr] at y2
      by_cases hz : r ≤ j
      · exact ⟨-nI 1, by simp (disch := omega) only [bl_lit, lgl, lgg, lgl0, lgg0, lglm, lggm, az_us, az_un, az_ue, az_urn, az_ure, bz_lit, nI_leI, nI_ltI, nI_eq, nI_clamp, nI_add, pk_sub, pk_mul, bz_nlt, bz_nle, bz_ltn, bz_len, bz_neq, bz_eqn, bz_nn, ↓reduceIte, Bool.false_eq_true, if_pos, if_neg], by simp (disch := omega) only [bl_lit, lgl, lgg, lgl0, lgg0, lglm, lggm, az_us, az_un, az_ue, az_urn, az_ure, bz_lit, nI_leI, nI_ltI, nI_eq, nI_clamp, nI_add, pk_sub, pk_mul, bz_nlt, bz_nle, bz_ltn, bz_len, bz_neq, bz_eqn, bz_nn, ↓reduceIte, Bool.false_eq_true, if_pos, if_neg]⟩
      · exact ⟨-nI 1, by simp (disch := omega) only [bl_lit, lgl, lgg, lgl0, lgg0, lglm, lggm, az_us, az_un, az_ue, az_urn, az_ure, bz_lit, nI_leI, nI_ltI, nI_eq, nI_clamp, nI_add, pk_sub, pk_mul, bz_nlt, bz_nle, bz_ltn, bz_len, bz_neq, bz_eqn, bz_nn, ↓reduceIte, Bool.false_eq_true, if_pos, if_neg], by simp (disch := omega) only [bl_lit, lgl, lgg, lgl0, lgg0, lglm, lggm, az_us, az_un, az_ue, az_urn, az_ure, bz_lit, nI_leI, nI_ltI, nI_eq, nI_clamp, nI_add, pk_sub, pk_mul, bz_nlt, bz_nle, bz_ltn, bz_len, bz_neq, bz_eqn, bz_nn, ↓reduceIte, Bool.false_eq_true, if_pos, if_neg]⟩
    · rw [if_neg hr] at y2
      refine ⟨-nI 1, ?_, by simp (disch := omega) only [bl_lit, lgl, lgg, lgl0, lgg0, lglm, lggm, az_us, az_un, az_ue, az_urn, az_ure, bz_lit, nI_leI, nI_ltI, nI_eq, nI_clamp, nI_add, pk_sub, pk_mul, bz_nlt, bz_nle, bz_ltn, bz_len, bz_neq, bz_eqn, bz_nn, ↓reduceIte, Bool.false_eq_true, if_pos, if_neg]⟩
      by_cases hz : r = 0
      · subst hz
        have : nI 0 - nI 1 < nI j := by
          rw [Int32.lt_iff_toInt_lt, pk_sub_toInt (by omega) (by omega), nI_toInt hj]
          omega
        simp (disch := omega) only [bl_lit, lgl, lgg, lgl0, lgg0, lglm, lggm, az_us, az_un, az_ue, az_urn, az_ure, bz_lit, nI_leI, nI_ltI, nI_eq, nI_clamp, nI_add, pk_sub, pk_mul, bz_nlt, bz_nle, bz_ltn, bz_len, bz_neq, bz_eqn, bz_nn, ↓reduceIte, Bool.false_eq_true, if_pos, if_neg, this]
      · simp (disch := omega) only [bl_lit, lgl, lgg, lgl0, lgg0, lglm, lggm, az_us, az_un, az_ue, az_urn, az_ure, bz_lit, nI_leI, nI_ltI, nI_eq, nI_clamp, nI_add, pk_sub, pk_mul, bz_nlt, bz_nle, bz_ltn, bz_len, bz_neq, bz_eqn, bz_nn, ↓reduceIte, Bool.false_eq_true, if_pos, if_neg]
  · by_cases hr : 24 < r
    · rw [if_pos hr] at hj
      exact ⟨I 57 j, by simp (disch := omega) only [bl_lit, lgl, lgg, lgl0, lgg0, lglm, lggm, az_us, az_un, az_ue, az_urn, az_ure, bz_lit, nI_leI, nI_ltI, nI_eq, nI_clamp, nI_add, pk_sub, pk_mul, bz_nlt, bz_nle, bz_ltn, bz_len, bz_neq, bz_eqn, bz_nn, ↓reduceIte, Bool.false_eq_true, if_pos, if_neg], by simp (disch := omega) only [bl_lit, lgl, lgg, lgl0, lgg0, lglm, lggm, az_us, az_un, az_ue, az_urn, az_ure, bz_lit, nI_leI, nI_ltI, nI_eq, nI_clamp, nI_add, pk_sub, pk_mul, bz_nlt, bz_nle, bz_ltn, bz_len, bz_neq, bz_eqn, bz_nn, ↓reduceIte, Bool.false_eq_true, if_pos, if_neg, b8 j hj]⟩
    · rw [if_neg hr] at hj
      exact ⟨I 57 j, by simp (disch := omega) only [bl_lit, lgl, lgg, lgl0, lgg0, lglm, lggm, az_us, az_un, az_ue, az_urn, az_ure, bz_lit, nI_leI, nI_ltI, nI_eq, nI_clamp, nI_add, pk_sub, pk_mul, bz_nlt, bz_nle, bz_ltn, bz_len, bz_neq, bz_eqn, bz_nn, ↓reduceIte, Bool.false_eq_true, if_pos, if_neg], by simp (disch := omega) only [bl_lit, lgl, lgg, lgl0, lgg0, lglm, lggm, az_us, az_un, az_ue, az_urn, az_ure, bz_lit, nI_leI, nI_ltI, nI_eq, nI_clamp, nI_add, pk_sub, pk_mul, bz_nlt, bz_nle, bz_ltn, bz_len, bz_neq, bz_eqn, bz_nn, ↓reduceIte, Bool.false_eq_true, if_pos, if_neg, b8 j (by omega)]⟩
theorem mt_body (h : Rel I J rl rd) (a : Int32) : mt (rs_X_body I a) (fun I => rs_M_body I a) J rl rd := by
  unfold rs_X_body rs_M_body
  rcases ixc a 7 (by omega) with x | ⟨x, y⟩ | ⟨j, hj, rfl⟩
  · exact ⟨-nI 1, I, I, by simp (disch := omega) only [bl_lit, lgl, lgg, lgl0, lgg0, lglm, lggm, az_us, az_un, az_ue, az_urn, az_ure, bz_lit, nI_leI, nI_ltI, nI_eq, nI_clamp, nI_add, pk_sub, pk_mul, bz_nlt, bz_nle, bz_ltn, bz_len, bz_neq, bz_eqn, bz_nn, ↓reduceIte, Bool.false_eq_true, if_pos, if_neg, x], by simp (disch := omega) only [bl_lit, lgl, lgg, lgl0, lgg0, lglm, lggm, az_us, az_un, az_ue, az_urn, az_ure, bz_lit, nI_leI, nI_ltI, nI_eq, nI_clamp, nI_add, pk_sub, pk_mul, bz_nlt, bz_nle, bz_ltn, bz_len, bz_neq, bz_eqn, bz_nn, ↓reduceIte, Bool.false_eq_true, if_pos, if_neg, x], h⟩
  · exact ⟨-nI 1, I, I, by simp (disch := omega) only [bl_lit, lgl, lgg, lgl0, lgg0, lglm, lggm, az_us, az_un, az_ue, az_urn, az_ure, bz_lit, nI_leI, nI_ltI, nI_eq, nI_clamp, nI_add, pk_sub, pk_mul, bz_nlt, bz_nle, bz_ltn, bz_len, bz_neq, bz_eqn, bz_nn, ↓reduceIte, Bool.false_eq_true, if_pos, if_neg, x, y], by simp (disch := omega) only [bl_lit, lgl, lgg, lgl0, lgg0, lglm, lggm, az_us, az_un, az_ue, az_urn, az_ure, bz_lit, nI_leI, nI_ltI, nI_eq, nI_clamp, nI_add, pk_sub, pk_mul, bz_nlt, bz_nle, bz_ltn, bz_len, bz_neq, bz_eqn, bz_nn, ↓reduceIte, Bool.false_eq_true, if_pos, if_neg, x, y], h⟩
  · obtain ⟨h1, h2, h3, h4, h5, h6, h7, h8, h9, h10, h11, h12⟩ := h
    have g := h11
    obtain ⟨m, r, b1, b2, b3, b4, b5, b6, b7, b8⟩ := g
    unfold rs_Bd_add
    by_cases hn : m < 50
    · have hf : az_fr (fun r k => r = 56 ∨ r = 94 ∨ (r = 55 ∧ k = 1) ∨ (r = 73 ∧ k = 33)) I (az_u (az_u (az_u (az_u I 56 m (nI j)) 55 1 (nI (m + 1))) 94 m (nI j)) 73 33 (nI (m + 1))) := (by refine ((((az_fr.refl.u ?_).u ?_).u ?_).u ?_) <;> (try dsimp only) <;> omega)
      refine ⟨nI m, az_u (az_u I 56 m (nI j)) 55 1 (nI (m + 1)), az_u (az_u (az_u (az_u I 56 m (nI j)) 55 1 (nI (m + 1))) 94 m (nI j)) 73 33 (nI (m + 1)), ?_, ?_, (h1.fr (fun r k q => hf r k (by unfold S_cnt at q; (try dsimp only); omega))), (h2.fr (fun r k q => hf r k (by unfold S_hts at q; (try dsimp only); omega))), (h3.fr (fun r k q => hf r k (by unfold S_pst at q; (try dsimp only); omega))), (h4.fr (fun r k q => hf r k (by unfold S_wlk at q; (try dsimp only); omega))), (h5.fr (fun r k q => hf r k (by unfold S_std at q; (try dsimp only); omega))), (h6.fr (fun r k q => hf r k (by unfold S_led at q; (try dsimp only); omega))), (h7.fr (fun r k q => hf r k (by unfold S_tap at q; (try dsimp only); omega))), (h8.fr (fun r k q => hf r k (by unfold S_law at q; (try dsimp only); omega))), (h9.fr (fun r k q => hf r k (by unfold S_chg at q; (try dsimp only); omega))), (h10.fr (fun r k q => hf r k (by unfold S_img at q; (try dsimp only); omega))), ⟨m + 1, r, by omega, b2, ?_, ?_, ?_, ?_, fun k hk => ?_, fun k hk => ?_⟩, ?_⟩
      · simp (disch := omega) only [bl_lit, lgl, lgg, lgl0, lgg0, lglm, lggm, az_us, az_un, az_ue, az_urn, az_ure, bz_lit, nI_leI, nI_ltI, nI_eq, nI_clamp, nI_add, pk_sub, pk_mul, bz_nlt, bz_nle, bz_ltn, bz_len, bz_neq, bz_eqn, bz_nn, ↓reduceIte, Bool.false_eq_true, if_pos, if_neg, b3]
      · simp (disch := omega) only [bl_lit, lgl, lgg, lgl0, lgg0, lglm, lggm, az_us, az_un, az_ue, az_urn, az_ure, bz_lit, nI_leI, nI_ltI, nI_eq, nI_clamp, nI_add, pk_sub, pk_mul, bz_nlt, bz_nle, bz_ltn, bz_len, bz_neq, bz_eqn, bz_nn, ↓reduceIte, Bool.false_eq_true, if_pos, if_neg, b4, Nat.add_sub_cancel]
      · simp (disch := omega) only [bl_lit, lgl, lgg, lgl0, lgg0, lglm, lggm, az_us, az_un, az_ue, az_urn, az_ure, bz_lit, nI_leI, nI_ltI, nI_eq, nI_clamp, nI_add, pk_sub, pk_mul, bz_nlt, bz_nle, bz_ltn, bz_len, bz_neq, bz_eqn, bz_nn, ↓reduceIte, Bool.false_eq_true, if_pos, if_neg]
      · simp (disch := omega) only [bl_lit, lgl, lgg, lgl0, lgg0, lglm, lggm, az_us, az_un, az_ue, az_urn, az_ure, bz_lit, nI_leI, nI_ltI, nI_eq, nI_clamp, nI_add, pk_sub, pk_mul, bz_nlt, bz_nle, bz_ltn, bz_len, bz_neq, bz_eqn, bz_nn, ↓reduceIte, Bool.false_eq_true, if_pos, if_neg]
      · simp (disch := omega) only [bl_lit, lgl, lgg, lgl0, lgg0, lglm, lggm, az_us, az_un, az_ue, az_urn, az_ure, bz_lit, nI_leI, nI_ltI, nI_eq, nI_clamp, nI_add, pk_sub, pk_mul, bz_nlt, bz_nle, bz_ltn, bz_len, bz_neq, bz_eqn, bz_nn, ↓reduceIte, Bool.false_eq_true, if_pos, if_neg, b5]
      · simp (disch := omega) only [bl_lit, lgl, lgg, lgl0, lgg0, lglm, lggm, az_us, az_un, az_ue, az_urn, az_ure, bz_lit, nI_leI, nI_ltI, nI_eq, nI_clamp, nI_add, pk_sub, pk_mul, bz_nlt, bz_nle, bz_ltn, bz_len, bz_neq, bz_eqn, bz_nn, ↓reduceIte, Bool.false_eq_true, if_pos, if_neg, b6]
      · by_cases e : k = m
        · subst e
          exact ⟨j, by omega, by simp (disch := omega) only [bl_lit, lgl, lgg, lgl0, lgg0, lglm, lggm, az_us, az_un, az_ue, az_urn, az_ure, bz_lit, nI_leI, nI_ltI, nI_eq, nI_clamp, nI_add, pk_sub, pk_mul, bz_nlt, bz_nle, bz_ltn, bz_len, bz_neq, bz_eqn, bz_nn, ↓reduceIte, Bool.false_eq_true, if_pos, if_neg], by simp (disch := omega) only [bl_lit, lgl, lgg, lgl0, lgg0, lglm, lggm, az_us, az_un, az_ue, az_urn, az_ure, bz_lit, nI_leI, nI_ltI, nI_eq, nI_clamp, nI_add, pk_sub, pk_mul, bz_nlt, bz_nle, bz_ltn, bz_len, bz_neq, bz_eqn, bz_nn, ↓reduceIte, Bool.false_eq_true, if_pos, if_neg]⟩
        · obtain ⟨d, d1, d2, d3⟩ := b7 k (by omega)
          exact ⟨d, d1, by simp (disch := omega) only [bl_lit, lgl, lgg, lgl0, lgg0, lglm, lggm, az_us, az_un, az_ue, az_urn, az_ure, bz_lit, nI_leI, nI_ltI, nI_eq, nI_clamp, nI_add, pk_sub, pk_mul, bz_nlt, bz_nle, bz_ltn, bz_len, bz_neq, bz_eqn, bz_nn, ↓reduceIte, Bool.false_eq_true, if_pos, if_neg, d2], by simp (disch := omega) only [bl_lit, lgl, lgg, lgl0, lgg0, lglm, lggm, az_us, az_un, az_ue, az_urn, az_ure, bz_lit, nI_leI, nI_ltI, nI_eq, nI_clamp, nI_add, pk_sub, pk_mul, bz_nlt, bz_nle, bz_ltn, bz_len, bz_neq, bz_eqn, bz_nn, ↓reduceIte, Bool.false_eq_true, if_pos, if_neg, d3]⟩
      · simp (disch := omega) only [bl_lit, lgl, lgg, lgl0, lgg0, lglm, lggm, az_us, az_un, az_ue, az_urn, az_ure, bz_lit, nI_leI, nI_ltI, nI_eq, nI_clamp, nI_add, pk_sub, pk_mul, bz_nlt, bz_nle, bz_ltn, bz_len, bz_neq, bz_eqn, bz_nn, ↓reduceIte, Bool.false_eq_true, if_pos, if_neg, b8 k hk]
      · intro s hs
        have q := h12 s hs
        unfold sh_non sh_hrt sh_row at q ⊢
        rw [hf (61 + 2 * s) 0 (by (try dsimp only); omega), hf (61 + 2 * s) 1 (by (try dsimp only); omega), hf (61 + 2 * s) 2 (by (try dsimp only); omega), hf 96 s (by (try dsimp only); omega), hf 97 s (by (try dsimp only); omega)]
        rcases q with q | ⟨b, q1, q2, q3, q4, q5⟩ | q
        · exact Or.inl q
        · refine Or.inr (Or.inl ⟨b, q1, q2, q3, ?_, q5⟩)
          rw [b3, nI_toInt (by omega)] at q4
          simp (disch := omega) only [bl_lit, lgl, lgg, lgl0, lgg0, lglm, lggm, az_us, az_un, az_ue, az_urn, az_ure, bz_lit, nI_leI, nI_ltI, nI_eq, nI_clamp, nI_add, pk_sub, pk_mul, bz_nlt, bz_nle, bz_ltn, bz_len, bz_neq, bz_eqn, bz_nn, ↓reduceIte, Bool.false_eq_true, if_pos, if_neg]
          rw [nI_toInt (by omega)]
          omega
        · exact Or.inr (Or.inr q)
    · have : m = 50 := by omega
      subst this
      refine ⟨-nI 3, I, I, ?_, ?_, h1, h2, h3, h4, h5, h6, h7, h8, h9, h10, h11, h12⟩
      · simp (disch := omega) only [bl_lit, lgl, lgg, lgl0, lgg0, lglm, lggm, az_us, az_un, az_ue, az_urn, az_ure, bz_lit, nI_leI, nI_ltI, nI_eq, nI_clamp, nI_add, pk_sub, pk_mul, bz_nlt, bz_nle, bz_ltn, bz_len, bz_neq, bz_eqn, bz_nn, ↓reduceIte, Bool.false_eq_true, if_pos, if_neg, b3]
      · simp (disch := omega) only [bl_lit, lgl, lgg, lgl0, lgg0, lglm, lggm, az_us, az_un, az_ue, az_urn, az_ure, bz_lit, nI_leI, nI_ltI, nI_eq, nI_clamp, nI_add, pk_sub, pk_mul, bz_nlt, bz_nle, bz_ltn, bz_len, bz_neq, bz_eqn, bz_nn, ↓reduceIte, Bool.false_eq_true, if_pos, if_neg, b4]
end

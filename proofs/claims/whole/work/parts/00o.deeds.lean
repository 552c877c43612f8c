/-! walkers, putDown, takes, cheer, keep, stumps, image, back -/
def st_b (pc pt : Nat → Nat) : Nat → Int32
  | 0 => nI 0
  | k + 1 => if pc k = pt k then st_b pc pt k ||| (nI 1 <<< (nI k &&& nI 31)) else st_b pc pt k
section
variable {I : Nat → Nat → Int32} {J : Nat → Nat → Int64} {rl rd : Nat}
theorem mt_walkers (h : Rel I J rl rd) (a b d : Int32) : mt (rs_X_walkers I J a b d) (fun I => rs_M_walkers I J a b d) J rl rd := by
  unfold rs_X_walkers rs_M_walkers
  rcases ixc a 5 (by omega) with x | ⟨x, y⟩ | ⟨s, hs, rfl⟩
  · exact ⟨-nI 1, I, I, by simp (disch := omega) only [bl_lit, lgl, lgg, lgl0, lgg0, lglm, lggm, az_us, az_un, az_ue, az_urn, az_ure, bz_lit, nI_leI, nI_ltI, nI_eq, nI_clamp, nI_add, pk_sub, pk_mul, bz_nlt, bz_nle, bz_ltn, bz_len, bz_neq, bz_eqn, bz_nn, ↓reduceIte, Bool.false_eq_true, if_pos, if_neg, x], by simp (disch := omega) only [bl_lit, lgl, lgg, lgl0, lgg0, lglm, lggm, az_us, az_un, az_ue, az_urn, az_ure, bz_lit, nI_leI, nI_ltI, nI_eq, nI_clamp, nI_add, pk_sub, pk_mul, bz_nlt, bz_nle, bz_ltn, bz_len, bz_neq, bz_eqn, bz_nn, ↓reduceIte, Bool.false_eq_true, if_pos, if_neg, x], h⟩
  · exact ⟨-nI 1, I, I, by simp (disch := omega) only [bl_lit, lgl, lgg, lgl0, lgg0, lglm, lggm, az_us, az_un, az_ue, az_urn, az_ure, bz_lit, nI_leI, nI_ltI, nI_eq, nI_clamp, nI_add, pk_sub, pk_mul, bz_nlt, bz_nle, bz_ltn, bz_len, bz_neq, bz_eqn, bz_nn, ↓reduceIte, Bool.false_eq_true, if_pos, if_neg, x, y], by simp (disch := omega) only [bl_lit, lgl, lgg, lgl0, lgg0, lglm, lggm, az_us, az_un, az_ue, az_urn, az_ure, bz_lit, nI_leI, nI_ltI, nI_eq, nI_clamp, nI_add, pk_sub, pk_mul, bz_nlt, bz_nle, bz_ltn, bz_len, bz_neq, bz_eqn, bz_nn, ↓reduceIte, Bool.false_eq_true, if_pos, if_neg, x, y], h⟩
  · by_cases d1 : d < nI 1
    · exact ⟨-nI 1, I, I, by simp (disch := omega) only [bl_lit, lgl, lgg, lgl0, lgg0, lglm, lggm, az_us, az_un, az_ue, az_urn, az_ure, bz_lit, nI_leI, nI_ltI, nI_eq, nI_clamp, nI_add, pk_sub, pk_mul, bz_nlt, bz_nle, bz_ltn, bz_len, bz_neq, bz_eqn, bz_nn, ↓reduceIte, Bool.false_eq_true, if_pos, if_neg, d1], by simp (disch := omega) only [bl_lit, lgl, lgg, lgl0, lgg0, lglm, lggm, az_us, az_un, az_ue, az_urn, az_ure, bz_lit, nI_leI, nI_ltI, nI_eq, nI_clamp, nI_add, pk_sub, pk_mul, bz_nlt, bz_nle, bz_ltn, bz_len, bz_neq, bz_eqn, bz_nn, ↓reduceIte, Bool.false_eq_true, if_pos, if_neg, d1], h⟩
    · by_cases d2 : nI 6 < d
      · exact ⟨-nI 1, I, I, by simp (disch := omega) only [bl_lit, lgl, lgg, lgl0, lgg0, lglm, lggm, az_us, az_un, az_ue, az_urn, az_ure, bz_lit, nI_leI, nI_ltI, nI_eq, nI_clamp, nI_add, pk_sub, pk_mul, bz_nlt, bz_nle, bz_ltn, bz_len, bz_neq, bz_eqn, bz_nn, ↓reduceIte, Bool.false_eq_true, if_pos, if_neg, d1, d2], by simp (disch := omega) only [bl_lit, lgl, lgg, lgl0, lgg0, lglm, lggm, az_us, az_un, az_ue, az_urn, az_ure, bz_lit, nI_leI, nI_ltI, nI_eq, nI_clamp, nI_add, pk_sub, pk_mul, bz_nlt, bz_nle, bz_ltn, bz_len, bz_neq, bz_eqn, bz_nn, ↓reduceIte, Bool.false_eq_true, if_pos, if_neg, d1, d2], h⟩
      · have hd : ∃ n, 1 ≤ n ∧ n ≤ 6 ∧ d = nI n := by
          have hd0 : ¬ d < 0 := by
            intro q
            apply d1
            rw [Int32.lt_iff_toInt_lt] at q ⊢
            rw [nI_toInt (by omega)]
            have : (0 : Int32).toInt = 0 := rfl
            omega
          obtain ⟨n, hn, rfl⟩ := nI_of hd0
          rw [nI_ltI (by omega) (by omega)] at d1 d2
          exact ⟨n, by omega, by omega, rfl⟩
        obtain ⟨n, hn1, hn2, rfl⟩ := hd
        have g := h
        obtain ⟨h1, h2, h3, h4, h5, h6, h7, h8, h9, h10, h11, h12⟩ := g
        obtain ⟨np, nw, p1, p2, p3, p4, p5, p6⟩ := h1
        unfold rs_X_walkers_25 rs_M_walkers_44
        rcases h12 s (by omega) with ⟨e1, e2, e3⟩ | ⟨q, e1, e2, e3, e4, e5⟩ | ⟨t, m, t1, t2, e1, e2, e3, e4, e5, e6⟩
        · refine ⟨nI 0, I, I, ?_, ?_, h⟩
          · simp (disch := omega) only [bl_lit, lgl, lgg, lgl0, lgg0, lglm, lggm, az_us, az_un, az_ue, az_urn, az_ure, bz_lit, nI_leI, nI_ltI, nI_eq, nI_clamp, nI_add, pk_sub, pk_mul, bz_nlt, bz_nle, bz_ltn, bz_len, bz_neq, bz_eqn, bz_nn, ↓reduceIte, Bool.false_eq_true, if_pos, if_neg, e1, e2]
          · simp (disch := omega) only [bl_lit, lgl, lgg, lgl0, lgg0, lglm, lggm, az_us, az_un, az_ue, az_urn, az_ure, bz_lit, nI_leI, nI_ltI, nI_eq, nI_clamp, nI_add, pk_sub, pk_mul, bz_nlt, bz_nle, bz_ltn, bz_len, bz_neq, bz_eqn, bz_nn, ↓reduceIte, Bool.false_eq_true, if_pos, if_neg, e3]
            unfold rs_M_walkers_69 az_lp rs_M_walkers_69_b
            simp (disch := omega) only [bl_lit, lgl, lgg, lgl0, lgg0, lglm, lggm, az_us, az_un, az_ue, az_urn, az_ure, bz_lit, nI_leI, nI_ltI, nI_eq, nI_clamp, nI_add, pk_sub, pk_mul, bz_nlt, bz_nle, bz_ltn, bz_len, bz_neq, bz_eqn, bz_nn, ↓reduceIte, Bool.false_eq_true, if_pos, if_neg]
        · refine ⟨-nI 12, I, I, ?_, ?_, h⟩
          · simp (disch := omega) only [bl_lit, lgl, lgg, lgl0, lgg0, lglm, lggm, az_us, az_un, az_ue, az_urn, az_ure, bz_lit, nI_leI, nI_ltI, nI_eq, nI_clamp, nI_add, pk_sub, pk_mul, bz_nlt, bz_nle, bz_ltn, bz_len, bz_neq, bz_eqn, bz_nn, ↓reduceIte, Bool.false_eq_true, if_pos, if_neg, e1, e2]
          · simp (disch := omega) only [bl_lit, lgl, lgg, lgl0, lgg0, lglm, lggm, az_us, az_un, az_ue, az_urn, az_ure, bz_lit, nI_leI, nI_ltI, nI_eq, nI_clamp, nI_add, pk_sub, pk_mul, bz_nlt, bz_nle, bz_ltn, bz_len, bz_neq, bz_eqn, bz_nn, ↓reduceIte, Bool.false_eq_true, if_pos, if_neg, e3]
        · by_cases ht : t = 0
          · subst ht
            have stop : ∀ v5, v5 = nI 0 → rs_M_walkers_69 I J (nI s) b (nI n) (nI 0) v5 = some (nI 0, I) := by
              intro v5 hv
              subst hv
              unfold rs_M_walkers_69 az_lp rs_M_walkers_69_b
              simp (disch := omega) only [bl_lit, lgl, lgg, lgl0, lgg0, lglm, lggm, az_us, az_un, az_ue, az_urn, az_ure, bz_lit, nI_leI, nI_ltI, nI_eq, nI_clamp, nI_add, pk_sub, pk_mul, bz_nlt, bz_nle, bz_ltn, bz_len, bz_neq, bz_eqn, bz_nn, ↓reduceIte, Bool.false_eq_true, if_pos, if_neg]
            by_cases b0 : b < nI 0
            · refine ⟨nI 0, I, I, ?_, ?_, h⟩
              · simp (disch := omega) only [bl_lit, lgl, lgg, lgl0, lgg0, lglm, lggm, az_us, az_un, az_ue, az_urn, az_ure, bz_lit, nI_leI, nI_ltI, nI_eq, nI_clamp, nI_add, pk_sub, pk_mul, bz_nlt, bz_nle, bz_ltn, bz_len, bz_neq, bz_eqn, bz_nn, ↓reduceIte, Bool.false_eq_true, if_pos, if_neg, e1, e2]
                unfold rs_X_walkers_52 az_lp rs_X_walkers_52_b
                simp (disch := omega) only [bl_lit, lgl, lgg, lgl0, lgg0, lglm, lggm, az_us, az_un, az_ue, az_urn, az_ure, bz_lit, nI_leI, nI_ltI, nI_eq, nI_clamp, nI_add, pk_sub, pk_mul, bz_nlt, bz_nle, bz_ltn, bz_len, bz_neq, bz_eqn, bz_nn, ↓reduceIte, Bool.false_eq_true, if_pos, if_neg, b0]
              · simp (disch := omega) only [bl_lit, lgl, lgg, lgl0, lgg0, lglm, lggm, az_us, az_un, az_ue, az_urn, az_ure, bz_lit, nI_leI, nI_ltI, nI_eq, nI_clamp, nI_add, pk_sub, pk_mul, bz_nlt, bz_nle, bz_ltn, bz_len, bz_neq, bz_eqn, bz_nn, ↓reduceIte, Bool.false_eq_true, if_pos, if_neg, e4, b0, stop _ rfl]
            · obtain ⟨i, hi, rfl⟩ := nI_of (show ¬ b < 0 from b0)
              by_cases b1 : i < 60
              · obtain ⟨x, rx, c, I1, rfl, cP, cN, cle, c49, ccs, cf⟩ := wk_Xl (I := I) (J := J) (s := s) (n := n) (by omega) b1 t2 hn2 p5 p2 e3
                obtain ⟨y, ry, c', I2, rfl, cP', cN', cle', c77, ccs', cf'⟩ := wk_Ml (I := I1) (J := J) (s := s) (i := i) (m := m) (n := n) (nw := nw) (by omega) b1 t2 hn2 (by rw [cf 73 7 (by (try dsimp only); omega)]; exact p6) p2 (by rw [cf 97 s (by (try dsimp only); omega)]; exact e5) (fun j hj => ⟨(e6 j hj).1, (e6 j hj).2.1 rfl⟩)
                have hcc : c' = c := by
                  rcases Nat.lt_trichotomy c' c with q | q | q
                  · exact absurd (cP c' q) cN'
                  · exact q
                  · exact absurd (cP' c q) cN
                subst hcc
                refine ⟨nI c', I1, I2, ?_, ?_, wk_add h p5 cle (fun j => (J (62 + 2 * s) (i + 3 * j)).toInt32) (fun j => (J (62 + 2 * s) (i + 3 * j + 1)).toInt32) (fun j => (J (62 + 2 * s) (i + 3 * j + 2)).toInt32) (fun j hj => ?_) ?_ c77 (fun j hj => ?_) ?_⟩
                · simp (disch := omega) only [bl_lit, lgl, lgg, lgl0, lgg0, lglm, lggm, az_us, az_un, az_ue, az_urn, az_ure, bz_lit, nI_leI, nI_ltI, nI_eq, nI_clamp, nI_add, pk_sub, pk_mul, bz_nlt, bz_nle, bz_ltn, bz_len, bz_neq, bz_eqn, bz_nn, ↓reduceIte, Bool.false_eq_true, if_pos, if_neg, e1, e2]
                  exact rx
                · have e4' : I1 96 s = nI 50 := by rw [cf 96 s (by (try dsimp only); omega)]; exact e4
                  simp (disch := omega) only [bl_lit, lgl, lgg, lgl0, lgg0, lglm, lggm, az_us, az_un, az_ue, az_urn, az_ure, bz_lit, nI_leI, nI_ltI, nI_eq, nI_clamp, nI_add, pk_sub, pk_mul, bz_nlt, bz_nle, bz_ltn, bz_len, bz_neq, bz_eqn, bz_nn, ↓reduceIte, Bool.false_eq_true, if_pos, if_neg, e4']
                  exact ry
                · obtain ⟨_, _, _, ⟨z1, z2⟩, _⟩ := cP j hj
                  exact bz_rng2 (m := 9) (n := 9) (by decide) (by decide) z1 z2
                · rw [cf' 4 9 (by (try dsimp only); omega)]; exact c49
                · obtain ⟨y1, y2, y3⟩ := ccs j hj
                  obtain ⟨y4, y5, y6, y7, y8⟩ := ccs' j hj
                  rw [cf' 8 _ (by (try dsimp only); omega), cf' 9 _ (by (try dsimp only); omega), cf' 10 _ (by (try dsimp only); omega)]
                  exact ⟨⟨y1, y2, y3⟩, y4, y5, y6, y7, y8⟩
                · refine (cf.mono ?_).trans (cf'.mono ?_)
                  · intro r k q; (try dsimp only at q); unfold wk_F; omega
                  · intro r k q; (try dsimp only at q); unfold wk_F; omega
              · refine ⟨nI 0, I, I, ?_, ?_, h⟩
                · simp (disch := omega) only [bl_lit, lgl, lgg, lgl0, lgg0, lglm, lggm, az_us, az_un, az_ue, az_urn, az_ure, bz_lit, nI_leI, nI_ltI, nI_eq, nI_clamp, nI_add, pk_sub, pk_mul, bz_nlt, bz_nle, bz_ltn, bz_len, bz_neq, bz_eqn, bz_nn, ↓reduceIte, Bool.false_eq_true, if_pos, if_neg, e1, e2]
                  unfold rs_X_walkers_52 az_lp rs_X_walkers_52_b
                  simp (disch := omega) only [bl_lit, lgl, lgg, lgl0, lgg0, lglm, lggm, az_us, az_un, az_ue, az_urn, az_ure, bz_lit, nI_leI, nI_ltI, nI_eq, nI_clamp, nI_add, pk_sub, pk_mul, bz_nlt, bz_nle, bz_ltn, bz_len, bz_neq, bz_eqn, bz_nn, ↓reduceIte, Bool.false_eq_true, if_pos, if_neg]
                · simp (disch := omega) only [bl_lit, lgl, lgg, lgl0, lgg0, lglm, lggm, az_us, az_un, az_ue, az_urn, az_ure, bz_lit, nI_leI, nI_ltI, nI_eq, nI_clamp, nI_add, pk_sub, pk_mul, bz_nlt, bz_nle, bz_ltn, bz_len, bz_neq, bz_eqn, bz_nn, ↓reduceIte, Bool.false_eq_true, if_pos, if_neg, e4]
                  unfold rs_M_walkers_69 az_lp rs_M_walkers_69_b rs_M_walkers_110 rs_M_walkers_111 rs_M_walkers_166 rs_M_walkers_167
                  have : nI m - nI 3 - nI (3 * 0) < nI i := by
                    rw [Int32.lt_iff_toInt_lt, nI_toInt (by omega)]
                    have e3 : (nI m - nI 3).toInt = (m : Int) - 3 := pk_sub_toInt (by omega) (by omega)
                    rw [bz_sub (by rw [e3, nI_toInt (by omega)]; omega) (by rw [e3, nI_toInt (by omega)]; omega), e3, nI_toInt (by omega)]
                    omega
                  by_cases m3 : 3 ≤ m
                  · simp (disch := omega) only [bl_lit, lgl, lgg, lgl0, lgg0, lglm, lggm, az_us, az_un, az_ue, az_urn, az_ure, bz_lit, nI_leI, nI_ltI, nI_eq, nI_clamp, nI_add, pk_sub, pk_mul, bz_nlt, bz_nle, bz_ltn, bz_len, bz_neq, bz_eqn, bz_nn, ↓reduceIte, Bool.false_eq_true, if_pos, if_neg, e5]
                    exact stop _ rfl
                  · simp (disch := omega) only [bl_lit, lgl, lgg, lgl0, lgg0, lglm, lggm, az_us, az_un, az_ue, az_urn, az_ure, bz_lit, nI_leI, nI_ltI, nI_eq, nI_clamp, nI_add, pk_sub, pk_mul, bz_nlt, bz_nle, bz_ltn, bz_len, bz_neq, bz_eqn, bz_nn, ↓reduceIte, Bool.false_eq_true, if_pos, if_neg, e5, this]
                    exact stop _ rfl
          · refine ⟨-nI 12, I, I, ?_, ?_, h⟩
            · simp (disch := omega) only [bl_lit, lgl, lgg, lgl0, lgg0, lglm, lggm, az_us, az_un, az_ue, az_urn, az_ure, bz_lit, nI_leI, nI_ltI, nI_eq, nI_clamp, nI_add, pk_sub, pk_mul, bz_nlt, bz_nle, bz_ltn, bz_len, bz_neq, bz_eqn, bz_nn, ↓reduceIte, Bool.false_eq_true, if_pos, if_neg, e1, e2]
            · simp (disch := omega) only [bl_lit, lgl, lgg, lgl0, lgg0, lglm, lggm, az_us, az_un, az_ue, az_urn, az_ure, bz_lit, nI_leI, nI_ltI, nI_eq, nI_clamp, nI_add, pk_sub, pk_mul, bz_nlt, bz_nle, bz_ltn, bz_len, bz_neq, bz_eqn, bz_nn, ↓reduceIte, Bool.false_eq_true, if_pos, if_neg, e4]
theorem mt_putDown (h : Rel I J rl rd) (a : Int32) : mt (rs_X_putDown I a) (fun I => rs_M_putDown I a) J rl rd := by
  unfold rs_X_putDown rs_M_putDown rs_M_putDown_49
  have g := h
  obtain ⟨h1, h2, h3, h4, h5, h6, h7, h8, h9, h10, h11, h12⟩ := g
  obtain ⟨np, nw, p1, p2, p3, p4, p5, p6⟩ := h1
  rcases ix a nw (by omega) with x | ⟨x, y⟩ | ⟨w, hw, rfl⟩
  · exact ⟨-nI 1, I, I, by simp (disch := omega) only [bl_lit, lgl, lgg, lgl0, lgg0, lglm, lggm, az_us, az_un, az_ue, az_urn, az_ure, bz_lit, nI_leI, nI_ltI, nI_eq, nI_clamp, nI_add, pk_sub, pk_mul, bz_nlt, bz_nle, bz_ltn, bz_len, bz_neq, bz_eqn, bz_nn, ↓reduceIte, Bool.false_eq_true, if_pos, if_neg, x], by simp (disch := omega) only [bl_lit, lgl, lgg, lgl0, lgg0, lglm, lggm, az_us, az_un, az_ue, az_urn, az_ure, bz_lit, nI_leI, nI_ltI, nI_eq, nI_clamp, nI_add, pk_sub, pk_mul, bz_nlt, bz_nle, bz_ltn, bz_len, bz_neq, bz_eqn, bz_nn, ↓reduceIte, Bool.false_eq_true, if_pos, if_neg, x], h⟩
  · exact ⟨-nI 1, I, I, by simp (disch := omega) only [bl_lit, lgl, lgg, lgl0, lgg0, lglm, lggm, az_us, az_un, az_ue, az_urn, az_ure, bz_lit, nI_leI, nI_ltI, nI_eq, nI_clamp, nI_add, pk_sub, pk_mul, bz_nlt, bz_nle, bz_ltn, bz_len, bz_neq, bz_eqn, bz_nn, ↓reduceIte, Bool.false_eq_true, if_pos, if_neg, x, y, p5], by simp (disch := omega) only [bl_lit, lgl, lgg, lgl0, lgg0, lglm, lggm, az_us, az_un, az_ue, az_urn, az_ure, bz_lit, nI_leI, nI_ltI, nI_eq, nI_clamp, nI_add, pk_sub, pk_mul, bz_nlt, bz_nle, bz_ltn, bz_len, bz_neq, bz_eqn, bz_nn, ↓reduceIte, Bool.false_eq_true, if_pos, if_neg, x, y, p6], h⟩
  · obtain ⟨w1, w2, w3, w4⟩ := h4.1 w (by omega)
    have mid : ∀ I2 : Nat → Nat → Int32, az_fr (fun r k => (r = 9 ∧ k = w) ∨ (r = 74 ∧ k = 166 + w) ∨ (r = 13 ∧ k = 2) ∨ (r = 91 ∧ k = 2)) I I2 → I2 9 w = nI 0 → I2 74 (166 + w) = nI 0 → I2 91 2 = I2 13 2 → Rel I2 J rl rd := by
      intro I2 hf v1 v2 v3
      refine ⟨h.1.fr (fun r k q => hf r k (by unfold S_cnt at q; (try dsimp only); omega)), (h2.fr (fun r k q => hf r k (by unfold S_hts at q; (try dsimp only); omega))), (h3.fr (fun r k q => hf r k (by unfold S_pst at q; (try dsimp only); omega))), ⟨fun w' hw' => ?_, ?_⟩, (h5.fr (fun r k q => hf r k (by unfold S_std at q; (try dsimp only); omega))), fun k hk => ?_, (h7.fr (fun r k q => hf r k (by unfold S_tap at q; (try dsimp only); omega))), (h8.fr (fun r k q => hf r k (by unfold S_law at q; (try dsimp only); omega))), (h9.fr (fun r k q => hf r k (by unfold S_chg at q; (try dsimp only); omega))), (h10.fr (fun r k q => hf r k (by unfold S_img at q; (try dsimp only); omega))), (h11.fr (fun r k q => hf r k (by unfold S_bod at q; (try dsimp only); omega))), (h12.fr (fun r k q => hf r k (by unfold S_shf at q; (try dsimp only); omega)))⟩
      · rw [hf 8 w' (by (try dsimp only); omega), hf 10 w' (by (try dsimp only); omega), hf 74 (160 + w') (by (try dsimp only); omega), hf 74 (172 + w') (by (try dsimp only); omega)]
        obtain ⟨u1, u2, u3, u4⟩ := h4.1 w' hw'
        refine ⟨u1, u2, ?_, u4⟩
        by_cases e : w' = w
        · subst e; rw [v1, v2]
        · rw [hf 9 w' (by (try dsimp only); omega), hf 74 (166 + w') (by (try dsimp only); omega)]; exact u3
      · rw [hf 74 178 (by (try dsimp only); omega), hf 4 10 (by (try dsimp only); omega)]; exact h4.2
      · by_cases e : k = 2
        · subst e; exact v3
        · rw [hf 91 k (by (try dsimp only); omega), hf 13 k (by (try dsimp only); omega)]; exact h6 k hk
    by_cases hl : I 9 w ≤ nI 0
    · refine ⟨I 9 w, az_u I 9 w (nI 0), az_u (az_u (az_u I 9 w (nI 0)) 74 (166 + w) (nI 0)) 91 2 (I 91 2 + nI 0), ?_, ?_, mid _ (by refine (((az_fr.refl.u ?_).u ?_).u ?_) <;> (try dsimp only) <;> omega) (by simp (disch := omega) only [bl_lit, lgl, lgg, lgl0, lgg0, lglm, lggm, az_us, az_un, az_ue, az_urn, az_ure, bz_lit, nI_leI, nI_ltI, nI_eq, nI_clamp, nI_add, pk_sub, pk_mul, bz_nlt, bz_nle, bz_ltn, bz_len, bz_neq, bz_eqn, bz_nn, ↓reduceIte, Bool.false_eq_true, if_pos, if_neg]) (by simp (disch := omega) only [bl_lit, lgl, lgg, lgl0, lgg0, lglm, lggm, az_us, az_un, az_ue, az_urn, az_ure, bz_lit, nI_leI, nI_ltI, nI_eq, nI_clamp, nI_add, pk_sub, pk_mul, bz_nlt, bz_nle, bz_ltn, bz_len, bz_neq, bz_eqn, bz_nn, ↓reduceIte, Bool.false_eq_true, if_pos, if_neg]) ?_⟩
      · simp (disch := omega) only [bl_lit, lgl, lgg, lgl0, lgg0, lglm, lggm, az_us, az_un, az_ue, az_urn, az_ure, bz_lit, nI_leI, nI_ltI, nI_eq, nI_clamp, nI_add, pk_sub, pk_mul, bz_nlt, bz_nle, bz_ltn, bz_len, bz_neq, bz_eqn, bz_nn, ↓reduceIte, Bool.false_eq_true, if_pos, if_neg, p5, hl]
      · simp (disch := omega) only [bl_lit, lgl, lgg, lgl0, lgg0, lglm, lggm, az_us, az_un, az_ue, az_urn, az_ure, bz_lit, nI_leI, nI_ltI, nI_eq, nI_clamp, nI_add, pk_sub, pk_mul, bz_nlt, bz_nle, bz_ltn, bz_len, bz_neq, bz_eqn, bz_nn, ↓reduceIte, Bool.false_eq_true, if_pos, if_neg, p6, w3, hl]
      · simp (disch := omega) only [bl_lit, lgl, lgg, lgl0, lgg0, lglm, lggm, az_us, az_un, az_ue, az_urn, az_ure, bz_lit, nI_leI, nI_ltI, nI_eq, nI_clamp, nI_add, pk_sub, pk_mul, bz_nlt, bz_nle, bz_ltn, bz_len, bz_neq, bz_eqn, bz_nn, ↓reduceIte, Bool.false_eq_true, if_pos, if_neg, h6 2 (by omega)]
        exact Int32.add_zero _
    · refine ⟨I 9 w, az_u (az_u I 9 w (nI 0)) 13 2 (I 13 2 + nI 1), az_u (az_u (az_u (az_u I 9 w (nI 0)) 13 2 (I 13 2 + nI 1)) 74 (166 + w) (nI 0)) 91 2 (I 91 2 + nI 1), ?_, ?_, mid _ (by refine ((((az_fr.refl.u ?_).u ?_).u ?_).u ?_) <;> (try dsimp only) <;> omega) (by simp (disch := omega) only [bl_lit, lgl, lgg, lgl0, lgg0, lglm, lggm, az_us, az_un, az_ue, az_urn, az_ure, bz_lit, nI_leI, nI_ltI, nI_eq, nI_clamp, nI_add, pk_sub, pk_mul, bz_nlt, bz_nle, bz_ltn, bz_len, bz_neq, bz_eqn, bz_nn, ↓reduceIte, Bool.false_eq_true, if_pos, if_neg]) (by simp (disch := omega) only [bl_lit, lgl, lgg, lgl0, lgg0, lglm, lggm, az_us, az_un, az_ue, az_urn, az_ure, bz_lit, nI_leI, nI_ltI, nI_eq, nI_clamp, nI_add, pk_sub, pk_mul, bz_nlt, bz_nle, bz_ltn, bz_len, bz_neq, bz_eqn, bz_nn, ↓reduceIte, Bool.false_eq_true, if_pos, if_neg]) ?_⟩
      · simp (disch := omega) only [bl_lit, lgl, lgg, lgl0, lgg0, lglm, lggm, az_us, az_un, az_ue, az_urn, az_ure, bz_lit, nI_leI, nI_ltI, nI_eq, nI_clamp, nI_add, pk_sub, pk_mul, bz_nlt, bz_nle, bz_ltn, bz_len, bz_neq, bz_eqn, bz_nn, ↓reduceIte, Bool.false_eq_true, if_pos, if_neg, p5, hl]
      · simp (disch := omega) only [bl_lit, lgl, lgg, lgl0, lgg0, lglm, lggm, az_us, az_un, az_ue, az_urn, az_ure, bz_lit, nI_leI, nI_ltI, nI_eq, nI_clamp, nI_add, pk_sub, pk_mul, bz_nlt, bz_nle, bz_ltn, bz_len, bz_neq, bz_eqn, bz_nn, ↓reduceIte, Bool.false_eq_true, if_pos, if_neg, p6, w3, hl]
      · simp (disch := omega) only [bl_lit, lgl, lgg, lgl0, lgg0, lglm, lggm, az_us, az_un, az_ue, az_urn, az_ure, bz_lit, nI_leI, nI_ltI, nI_eq, nI_clamp, nI_add, pk_sub, pk_mul, bz_nlt, bz_nle, bz_ltn, bz_len, bz_neq, bz_eqn, bz_nn, ↓reduceIte, Bool.false_eq_true, if_pos, if_neg, h6 2 (by omega)]
theorem mt_takes (h : Rel I J rl rd) (a b : Int32) : mt (rs_X_takes I a b) (fun I => rs_M_takes I a b) J rl rd := by
  unfold rs_X_takes rs_M_takes
  have g := h
  obtain ⟨h1, h2, h3, h4, h5, h6, h7, h8, h9, h10, h11, h12⟩ := g
  obtain ⟨np, nw, p1, p2, p3, p4, p5, p6⟩ := h1
  rcases ix a nw (by omega) with x | ⟨x, y⟩ | ⟨w, hw, rfl⟩
  · exact ⟨-nI 1, I, I, by simp (disch := omega) only [bl_lit, lgl, lgg, lgl0, lgg0, lglm, lggm, az_us, az_un, az_ue, az_urn, az_ure, bz_lit, nI_leI, nI_ltI, nI_eq, nI_clamp, nI_add, pk_sub, pk_mul, bz_nlt, bz_nle, bz_ltn, bz_len, bz_neq, bz_eqn, bz_nn, ↓reduceIte, Bool.false_eq_true, if_pos, if_neg, x], by simp (disch := omega) only [bl_lit, lgl, lgg, lgl0, lgg0, lglm, lggm, az_us, az_un, az_ue, az_urn, az_ure, bz_lit, nI_leI, nI_ltI, nI_eq, nI_clamp, nI_add, pk_sub, pk_mul, bz_nlt, bz_nle, bz_ltn, bz_len, bz_neq, bz_eqn, bz_nn, ↓reduceIte, Bool.false_eq_true, if_pos, if_neg, x], h⟩
  · exact ⟨-nI 1, I, I, by simp (disch := omega) only [bl_lit, lgl, lgg, lgl0, lgg0, lglm, lggm, az_us, az_un, az_ue, az_urn, az_ure, bz_lit, nI_leI, nI_ltI, nI_eq, nI_clamp, nI_add, pk_sub, pk_mul, bz_nlt, bz_nle, bz_ltn, bz_len, bz_neq, bz_eqn, bz_nn, ↓reduceIte, Bool.false_eq_true, if_pos, if_neg, x, y, p5], by simp (disch := omega) only [bl_lit, lgl, lgg, lgl0, lgg0, lglm, lggm, az_us, az_un, az_ue, az_urn, az_ure, bz_lit, nI_leI, nI_ltI, nI_eq, nI_clamp, nI_add, pk_sub, pk_mul, bz_nlt, bz_nle, bz_ltn, bz_len, bz_neq, bz_eqn, bz_nn, ↓reduceIte, Bool.false_eq_true, if_pos, if_neg, x, y, p6], h⟩
  · obtain ⟨w1, w2, w3, w4⟩ := h4.1 w (by omega)
    by_cases d1 : b < nI 1
    · exact ⟨-nI 1, I, I, by simp (disch := omega) only [bl_lit, lgl, lgg, lgl0, lgg0, lglm, lggm, az_us, az_un, az_ue, az_urn, az_ure, bz_lit, nI_leI, nI_ltI, nI_eq, nI_clamp, nI_add, pk_sub, pk_mul, bz_nlt, bz_nle, bz_ltn, bz_len, bz_neq, bz_eqn, bz_nn, ↓reduceIte, Bool.false_eq_true, if_pos, if_neg, d1, p5], by simp (disch := omega) only [bl_lit, lgl, lgg, lgl0, lgg0, lglm, lggm, az_us, az_un, az_ue, az_urn, az_ure, bz_lit, nI_leI, nI_ltI, nI_eq, nI_clamp, nI_add, pk_sub, pk_mul, bz_nlt, bz_nle, bz_ltn, bz_len, bz_neq, bz_eqn, bz_nn, ↓reduceIte, Bool.false_eq_true, if_pos, if_neg, d1, p6], h⟩
    · by_cases d2 : nI 9 < b
      · exact ⟨-nI 1, I, I, by simp (disch := omega) only [bl_lit, lgl, lgg, lgl0, lgg0, lglm, lggm, az_us, az_un, az_ue, az_urn, az_ure, bz_lit, nI_leI, nI_ltI, nI_eq, nI_clamp, nI_add, pk_sub, pk_mul, bz_nlt, bz_nle, bz_ltn, bz_len, bz_neq, bz_eqn, bz_nn, ↓reduceIte, Bool.false_eq_true, if_pos, if_neg, d1, d2, p5], by simp (disch := omega) only [bl_lit, lgl, lgg, lgl0, lgg0, lglm, lggm, az_us, az_un, az_ue, az_urn, az_ure, bz_lit, nI_leI, nI_ltI, nI_eq, nI_clamp, nI_add, pk_sub, pk_mul, bz_nlt, bz_nle, bz_ltn, bz_len, bz_neq, bz_eqn, bz_nn, ↓reduceIte, Bool.false_eq_true, if_pos, if_neg, d1, d2, p6], h⟩
      · by_cases hl : I 9 w ≤ nI 0
        · have hf : az_fr (fun r k => (r = 9 ∧ k = w) ∨ (r = 74 ∧ k = 166 + w)) I (az_u (az_u I 9 w b) 74 (166 + w) b) := (by refine ((az_fr.refl.u ?_).u ?_) <;> (try dsimp only) <;> omega)
          refine ⟨nI 1, az_u I 9 w b, az_u (az_u I 9 w b) 74 (166 + w) b, by simp (disch := omega) only [bl_lit, lgl, lgg, lgl0, lgg0, lglm, lggm, az_us, az_un, az_ue, az_urn, az_ure, bz_lit, nI_leI, nI_ltI, nI_eq, nI_clamp, nI_add, pk_sub, pk_mul, bz_nlt, bz_nle, bz_ltn, bz_len, bz_neq, bz_eqn, bz_nn, ↓reduceIte, Bool.false_eq_true, if_pos, if_neg, d1, d2, p5, hl], by simp (disch := omega) only [bl_lit, lgl, lgg, lgl0, lgg0, lglm, lggm, az_us, az_un, az_ue, az_urn, az_ure, bz_lit, nI_leI, nI_ltI, nI_eq, nI_clamp, nI_add, pk_sub, pk_mul, bz_nlt, bz_nle, bz_ltn, bz_len, bz_neq, bz_eqn, bz_nn, ↓reduceIte, Bool.false_eq_true, if_pos, if_neg, d1, d2, p6, w3, hl], h.1.fr (fun r k q => hf r k (by unfold S_cnt at q; (try dsimp only); omega)), (h2.fr (fun r k q => hf r k (by unfold S_hts at q; (try dsimp only); omega))), (h3.fr (fun r k q => hf r k (by unfold S_pst at q; (try dsimp only); omega))), ⟨fun w' hw' => ?_, ?_⟩, (h5.fr (fun r k q => hf r k (by unfold S_std at q; (try dsimp only); omega))), (h6.fr (fun r k q => hf r k (by unfold S_led at q; (try dsimp only); omega))), (h7.fr (fun r k q => hf r k (by unfold S_tap at q; (try dsimp only); omega))), (h8.fr (fun r k q => hf r k (by unfold S_law at q; (try dsimp only); omega))), (h9.fr (fun r k q => hf r k (by unfold S_chg at q; (try dsimp only); omega))), (h10.fr (fun r k q => hf r k (by unfold S_img at q; (try dsimp only); omega))), (h11.fr (fun r k q => hf r k (by unfold S_bod at q; (try dsimp only); omega))), (h12.fr (fun r k q => hf r k (by unfold S_shf at q; (try dsimp only); omega)))⟩
          · rw [hf 8 w' (by (try dsimp only); omega), hf 10 w' (by (try dsimp only); omega), hf 74 (160 + w') (by (try dsimp only); omega), hf 74 (172 + w') (by (try dsimp only); omega)]
            obtain ⟨u1, u2, u3, u4⟩ := h4.1 w' hw'
            refine ⟨u1, u2, ?_, u4⟩
            by_cases e : w' = w
            · subst e; simp (disch := omega) only [bl_lit, lgl, lgg, lgl0, lgg0, lglm, lggm, az_us, az_un, az_ue, az_urn, az_ure, bz_lit, nI_leI, nI_ltI, nI_eq, nI_clamp, nI_add, pk_sub, pk_mul, bz_nlt, bz_nle, bz_ltn, bz_len, bz_neq, bz_eqn, bz_nn, ↓reduceIte, Bool.false_eq_true, if_pos, if_neg]
            · rw [hf 9 w' (by (try dsimp only); omega), hf 74 (166 + w') (by (try dsimp only); omega)]; exact u3
          · rw [hf 74 178 (by (try dsimp only); omega), hf 4 10 (by (try dsimp only); omega)]; exact h4.2
        · exact ⟨-nI 5, I, I, by simp (disch := omega) only [bl_lit, lgl, lgg, lgl0, lgg0, lglm, lggm, az_us, az_un, az_ue, az_urn, az_ure, bz_lit, nI_leI, nI_ltI, nI_eq, nI_clamp, nI_add, pk_sub, pk_mul, bz_nlt, bz_nle, bz_ltn, bz_len, bz_neq, bz_eqn, bz_nn, ↓reduceIte, Bool.false_eq_true, if_pos, if_neg, d1, d2, p5, hl], by simp (disch := omega) only [bl_lit, lgl, lgg, lgl0, lgg0, lglm, lggm, az_us, az_un, az_ue, az_urn, az_ure, bz_lit, nI_leI, nI_ltI, nI_eq, nI_clamp, nI_add, pk_sub, pk_mul, bz_nlt, bz_nle, bz_ltn, bz_len, bz_neq, bz_eqn, bz_nn, ↓reduceIte, Bool.false_eq_true, if_pos, if_neg, d1, d2, p6, w3, hl], h⟩
theorem mt_cheer (h : Rel I J rl rd) (a : Int32) : mt (rs_X_cheer I a) (fun I => rs_M_cheer I a) J rl rd := by
  unfold rs_X_cheer rs_M_cheer rs_M_cheer_43
  have g := h
  obtain ⟨h1, h2, h3, h4, h5, h6, h7, h8, h9, h10, h11, h12⟩ := g
  obtain ⟨np, nw, p1, p2, p3, p4, p5, p6⟩ := h1
  rcases ix a nw (by omega) with x | ⟨x, y⟩ | ⟨w, hw, rfl⟩
  · exact ⟨-nI 2000000000, I, I, by simp (disch := omega) only [bl_lit, lgl, lgg, lgl0, lgg0, lglm, lggm, az_us, az_un, az_ue, az_urn, az_ure, bz_lit, nI_leI, nI_ltI, nI_eq, nI_clamp, nI_add, pk_sub, pk_mul, bz_nlt, bz_nle, bz_ltn, bz_len, bz_neq, bz_eqn, bz_nn, ↓reduceIte, Bool.false_eq_true, if_pos, if_neg, x], by simp (disch := omega) only [bl_lit, lgl, lgg, lgl0, lgg0, lglm, lggm, az_us, az_un, az_ue, az_urn, az_ure, bz_lit, nI_leI, nI_ltI, nI_eq, nI_clamp, nI_add, pk_sub, pk_mul, bz_nlt, bz_nle, bz_ltn, bz_len, bz_neq, bz_eqn, bz_nn, ↓reduceIte, Bool.false_eq_true, if_pos, if_neg, x], h⟩
  · exact ⟨-nI 2000000000, I, I, by simp (disch := omega) only [bl_lit, lgl, lgg, lgl0, lgg0, lglm, lggm, az_us, az_un, az_ue, az_urn, az_ure, bz_lit, nI_leI, nI_ltI, nI_eq, nI_clamp, nI_add, pk_sub, pk_mul, bz_nlt, bz_nle, bz_ltn, bz_len, bz_neq, bz_eqn, bz_nn, ↓reduceIte, Bool.false_eq_true, if_pos, if_neg, x, y, p5], by simp (disch := omega) only [bl_lit, lgl, lgg, lgl0, lgg0, lglm, lggm, az_us, az_un, az_ue, az_urn, az_ure, bz_lit, nI_leI, nI_ltI, nI_eq, nI_clamp, nI_add, pk_sub, pk_mul, bz_nlt, bz_nle, bz_ltn, bz_len, bz_neq, bz_eqn, bz_nn, ↓reduceIte, Bool.false_eq_true, if_pos, if_neg, x, y, p6], h⟩
  · obtain ⟨w1, ⟨w2, w2'⟩, w3, w4⟩ := h4.1 w (by omega)
    have e1 : (I 8 w + nI 1).toInt = (I 8 w).toInt + 1 := by
      rw [bz_add (by rw [nI_toInt (by omega)]; omega) (by rw [nI_toInt (by omega)]; omega), nI_toInt (by omega)]
      rfl
    have mid : ∀ v : Int32, -9 ≤ v.toInt ∧ v.toInt ≤ 9 → ∀ I2 : Nat → Nat → Int32, az_fr (fun r k => (r = 8 ∧ k = w) ∨ (r = 74 ∧ k = 160 + w) ∨ (r = 13 ∧ k = 3) ∨ (r = 91 ∧ k = 3)) I I2 → I2 8 w = v → I2 74 (160 + w) = v → I2 91 3 = I2 13 3 → Rel I2 J rl rd := by
      intro v hv I2 hf v1 v2 v3
      refine ⟨h.1.fr (fun r k q => hf r k (by unfold S_cnt at q; (try dsimp only); omega)), (h2.fr (fun r k q => hf r k (by unfold S_hts at q; (try dsimp only); omega))), (h3.fr (fun r k q => hf r k (by unfold S_pst at q; (try dsimp only); omega))), ⟨fun w' hw' => ?_, ?_⟩, (h5.fr (fun r k q => hf r k (by unfold S_std at q; (try dsimp only); omega))), fun k hk => ?_, (h7.fr (fun r k q => hf r k (by unfold S_tap at q; (try dsimp only); omega))), (h8.fr (fun r k q => hf r k (by unfold S_law at q; (try dsimp only); omega))), (h9.fr (fun r k q => hf r k (by unfold S_chg at q; (try dsimp only); omega))), (h10.fr (fun r k q => hf r k (by unfold S_img at q; (try dsimp only); omega))), (h11.fr (fun r k q => hf r k (by unfold S_bod at q; (try dsimp only); omega))), (h12.fr (fun r k q => hf r k (by unfold S_shf at q; (try dsimp only); omega)))⟩
      · rw [hf 9 w' (by (try dsimp only); omega), hf 10 w' (by (try dsimp only); omega), hf 74 (166 + w') (by (try dsimp only); omega), hf 74 (172 + w') (by (try dsimp only); omega)]
        obtain ⟨u1, u2, u3, u4⟩ := h4.1 w' hw'
        by_cases e : w' = w
        · subst e; rw [v1, v2]; exact ⟨rfl, hv, u3, u4⟩
        · rw [hf 8 w' (by (try dsimp only); omega), hf 74 (160 + w') (by (try dsimp only); omega)]; exact ⟨u1, u2, u3, u4⟩
      · rw [hf 74 178 (by (try dsimp only); omega), hf 4 10 (by (try dsimp only); omega)]; exact h4.2
      · by_cases e : k = 3
        · subst e; exact v3
        · rw [hf 91 k (by (try dsimp only); omega), hf 13 k (by (try dsimp only); omega)]; exact h6 k hk
    by_cases hl : (I 8 w).toInt = 9
    · have h9' : I 8 w = nI 9 := Int32.toInt_inj.mp (by rw [hl, nI_toInt (by omega)]; rfl)
      refine ⟨nI 9, az_u (az_u I 8 w (nI 9)) 13 3 (I 13 3 + nI 1), az_u (az_u (az_u (az_u I 8 w (nI 9)) 13 3 (I 13 3 + nI 1)) 74 (160 + w) (nI 9)) 91 3 (I 91 3 + nI 1), ?_, ?_, mid (nI 9) (by decide) _ (by refine ((((az_fr.refl.u ?_).u ?_).u ?_).u ?_) <;> (try dsimp only) <;> omega) (by simp (disch := omega) only [bl_lit, lgl, lgg, lgl0, lgg0, lglm, lggm, az_us, az_un, az_ue, az_urn, az_ure, bz_lit, nI_leI, nI_ltI, nI_eq, nI_clamp, nI_add, pk_sub, pk_mul, bz_nlt, bz_nle, bz_ltn, bz_len, bz_neq, bz_eqn, bz_nn, ↓reduceIte, Bool.false_eq_true, if_pos, if_neg]) (by simp (disch := omega) only [bl_lit, lgl, lgg, lgl0, lgg0, lglm, lggm, az_us, az_un, az_ue, az_urn, az_ure, bz_lit, nI_leI, nI_ltI, nI_eq, nI_clamp, nI_add, pk_sub, pk_mul, bz_nlt, bz_nle, bz_ltn, bz_len, bz_neq, bz_eqn, bz_nn, ↓reduceIte, Bool.false_eq_true, if_pos, if_neg]) ?_⟩
      · simp (disch := omega) only [bl_lit, lgl, lgg, lgl0, lgg0, lglm, lggm, az_us, az_un, az_ue, az_urn, az_ure, bz_lit, nI_leI, nI_ltI, nI_eq, nI_clamp, nI_add, pk_sub, pk_mul, bz_nlt, bz_nle, bz_ltn, bz_len, bz_neq, bz_eqn, bz_nn, ↓reduceIte, Bool.false_eq_true, if_pos, if_neg, p5, h9']
      · simp (disch := omega) only [bl_lit, lgl, lgg, lgl0, lgg0, lglm, lggm, az_us, az_un, az_ue, az_urn, az_ure, bz_lit, nI_leI, nI_ltI, nI_eq, nI_clamp, nI_add, pk_sub, pk_mul, bz_nlt, bz_nle, bz_ltn, bz_len, bz_neq, bz_eqn, bz_nn, ↓reduceIte, Bool.false_eq_true, if_pos, if_neg, p6, w1, h9']
      · simp (disch := omega) only [bl_lit, lgl, lgg, lgl0, lgg0, lglm, lggm, az_us, az_un, az_ue, az_urn, az_ure, bz_lit, nI_leI, nI_ltI, nI_eq, nI_clamp, nI_add, pk_sub, pk_mul, bz_nlt, bz_nle, bz_ltn, bz_len, bz_neq, bz_eqn, bz_nn, ↓reduceIte, Bool.false_eq_true, if_pos, if_neg, h6 3 (by omega)]
    · have c2 : ¬ nI 9 ≤ I 8 w := by
        rw [Int32.le_iff_toInt_le, nI_toInt (by omega)]
        omega
      have val : (if I 8 w + nI 1 < nI 9 then I 8 w + nI 1 else nI 9) = I 8 w + nI 1 := by
        by_cases c1 : I 8 w + nI 1 < nI 9
        · rw [if_pos c1]
        · rw [if_neg c1]
          rw [Int32.lt_iff_toInt_lt, e1, nI_toInt (by omega)] at c1
          apply Int32.toInt_inj.mp
          rw [e1, nI_toInt (by omega)]
          omega
      refine ⟨I 8 w + nI 1, az_u (az_u I 8 w (I 8 w + nI 1)) 13 3 (I 13 3 + nI 1), az_u (az_u (az_u (az_u I 8 w (I 8 w + nI 1)) 13 3 (I 13 3 + nI 1)) 74 (160 + w) (I 8 w + nI 1)) 91 3 (I 91 3 + nI 1), ?_, ?_, mid (I 8 w + nI 1) (by rw [e1]; omega) _ (by refine ((((az_fr.refl.u ?_).u ?_).u ?_).u ?_) <;> (try dsimp only) <;> omega) (by simp (disch := omega) only [bl_lit, lgl, lgg, lgl0, lgg0, lglm, lggm, az_us, az_un, az_ue, az_urn, az_ure, bz_lit, nI_leI, nI_ltI, nI_eq, nI_clamp, nI_add, pk_sub, pk_mul, bz_nlt, bz_nle, bz_ltn, bz_len, bz_neq, bz_eqn, bz_nn, ↓reduceIte, Bool.false_eq_true, if_pos, if_neg]) (by simp (disch := omega) only [bl_lit, lgl, lgg, lgl0, lgg0, lglm, lggm, az_us, az_un, az_ue, az_urn, az_ure, bz_lit, nI_leI, nI_ltI, nI_eq, nI_clamp, nI_add, pk_sub, pk_mul, bz_nlt, bz_nle, bz_ltn, bz_len, bz_neq, bz_eqn, bz_nn, ↓reduceIte, Bool.false_eq_true, if_pos, if_neg]) ?_⟩
      · simp (disch := omega) only [bl_lit, lgl, lgg, lgl0, lgg0, lglm, lggm, az_us, az_un, az_ue, az_urn, az_ure, bz_lit, nI_leI, nI_ltI, nI_eq, nI_clamp, nI_add, pk_sub, pk_mul, bz_nlt, bz_nle, bz_ltn, bz_len, bz_neq, bz_eqn, bz_nn, ↓reduceIte, Bool.false_eq_true, if_pos, if_neg, p5]
        simp only [val]
      · simp (disch := omega) only [bl_lit, lgl, lgg, lgl0, lgg0, lglm, lggm, az_us, az_un, az_ue, az_urn, az_ure, bz_lit, nI_leI, nI_ltI, nI_eq, nI_clamp, nI_add, pk_sub, pk_mul, bz_nlt, bz_nle, bz_ltn, bz_len, bz_neq, bz_eqn, bz_nn, ↓reduceIte, Bool.false_eq_true, if_pos, if_neg, p6, w1, c2]
      · simp (disch := omega) only [bl_lit, lgl, lgg, lgl0, lgg0, lglm, lggm, az_us, az_un, az_ue, az_urn, az_ure, bz_lit, nI_leI, nI_ltI, nI_eq, nI_clamp, nI_add, pk_sub, pk_mul, bz_nlt, bz_nle, bz_ltn, bz_len, bz_neq, bz_eqn, bz_nn, ↓reduceIte, Bool.false_eq_true, if_pos, if_neg, h6 3 (by omega)]
theorem mt_keep (h : Rel I J rl rd) (a b : Int32) : mt (rs_X_keep I a b) (fun I => rs_M_keep I a b) J rl rd := by
  unfold rs_X_keep rs_M_keep rs_X_keep_25 rs_M_keep_22 rs_X_keep_36 rs_X_keep_48 rs_Sh_becomeHeart rs_Sh_becomeEmpty
  have g := h
  obtain ⟨h1, h2, h3, h4, h5, h6, h7, h8, h9, h10, h11, h12⟩ := g
  have g11 := h11
  obtain ⟨m, r, b1, b2, b3, b4, b5, b6, b7, b8⟩ := g11
  rcases ixc a 5 (by omega) with x | ⟨x, y⟩ | ⟨s, hs, rfl⟩
  · exact ⟨-nI 1, I, I, by simp (disch := omega) only [bl_lit, lgl, lgg, lgl0, lgg0, lglm, lggm, az_us, az_un, az_ue, az_urn, az_ure, bz_lit, nI_leI, nI_ltI, nI_eq, nI_clamp, nI_add, pk_sub, pk_mul, bz_nlt, bz_nle, bz_ltn, bz_len, bz_neq, bz_eqn, bz_nn, ↓reduceIte, Bool.false_eq_true, if_pos, if_neg, x], by simp (disch := omega) only [bl_lit, lgl, lgg, lgl0, lgg0, lglm, lggm, az_us, az_un, az_ue, az_urn, az_ure, bz_lit, nI_leI, nI_ltI, nI_eq, nI_clamp, nI_add, pk_sub, pk_mul, bz_nlt, bz_nle, bz_ltn, bz_len, bz_neq, bz_eqn, bz_nn, ↓reduceIte, Bool.false_eq_true, if_pos, if_neg, x], h⟩
  · exact ⟨-nI 1, I, I, by simp (disch := omega) only [bl_lit, lgl, lgg, lgl0, lgg0, lglm, lggm, az_us, az_un, az_ue, az_urn, az_ure, bz_lit, nI_leI, nI_ltI, nI_eq, nI_clamp, nI_add, pk_sub, pk_mul, bz_nlt, bz_nle, bz_ltn, bz_len, bz_neq, bz_eqn, bz_nn, ↓reduceIte, Bool.false_eq_true, if_pos, if_neg, x, y], by simp (disch := omega) only [bl_lit, lgl, lgg, lgl0, lgg0, lglm, lggm, az_us, az_un, az_ue, az_urn, az_ure, bz_lit, nI_leI, nI_ltI, nI_eq, nI_clamp, nI_add, pk_sub, pk_mul, bz_nlt, bz_nle, bz_ltn, bz_len, bz_neq, bz_eqn, bz_nn, ↓reduceIte, Bool.false_eq_true, if_pos, if_neg, x, y], h⟩
  · have mid : ∀ I2 : Nat → Nat → Int32, az_fr (fun r k => r = 61 + 2 * s ∨ (r = 96 ∧ k = s) ∨ (r = 97 ∧ k = s)) I I2 → (sh_non I2 s ∨ ∃ b, sh_hrt I2 s b) → Rel I2 J rl rd := by
      intro I2 hf hor
      refine ⟨(h1.fr (fun r k q => hf r k (by unfold S_cnt at q; (try dsimp only); omega))), (h2.fr (fun r k q => hf r k (by unfold S_hts at q; (try dsimp only); omega))), (h3.fr (fun r k q => hf r k (by unfold S_pst at q; (try dsimp only); omega))), (h4.fr (fun r k q => hf r k (by unfold S_wlk at q; (try dsimp only); omega))), (h5.fr (fun r k q => hf r k (by unfold S_std at q; (try dsimp only); omega))), (h6.fr (fun r k q => hf r k (by unfold S_led at q; (try dsimp only); omega))), (h7.fr (fun r k q => hf r k (by unfold S_tap at q; (try dsimp only); omega))), (h8.fr (fun r k q => hf r k (by unfold S_law at q; (try dsimp only); omega))), (h9.fr (fun r k q => hf r k (by unfold S_chg at q; (try dsimp only); omega))), (h10.fr (fun r k q => hf r k (by unfold S_img at q; (try dsimp only); omega))), (h11.fr (fun r k q => hf r k (by unfold S_bod at q; (try dsimp only); omega))), fun s' hs' => ?_⟩
      by_cases e : s' = s
      · subst e
        rcases hor with q | q
        · exact Or.inl q
        · exact Or.inr (Or.inl q)
      · have q := h12 s' hs'
        unfold sh_non sh_hrt sh_row at q ⊢
        rw [hf (61 + 2 * s') 0 (by (try dsimp only); omega), hf (61 + 2 * s') 1 (by (try dsimp only); omega), hf (61 + 2 * s') 2 (by (try dsimp only); omega), hf 96 s' (by (try dsimp only); omega), hf 97 s' (by (try dsimp only); omega), hf 55 1 (by (try dsimp only); omega)]
        exact q
    by_cases e : b = -nI 1
    · subst e
      refine ⟨nI 1, az_u (az_u (az_u I (61 + 2 * s) 0 (-nI 1)) (61 + 2 * s) 1 (-nI 1)) (61 + 2 * s) 2 (nI 0), az_u (az_u (az_u (az_u (az_u I (61 + 2 * s) 0 (-nI 1)) (61 + 2 * s) 1 (-nI 1)) (61 + 2 * s) 2 (nI 0)) 96 s (-nI 1)) 97 s (nI 0), by simp (disch := omega) only [bl_lit, lgl, lgg, lgl0, lgg0, lglm, lggm, az_us, az_un, az_ue, az_urn, az_ure, bz_lit, nI_leI, nI_ltI, nI_eq, nI_clamp, nI_add, pk_sub, pk_mul, bz_nlt, bz_nle, bz_ltn, bz_len, bz_neq, bz_eqn, bz_nn, ↓reduceIte, Bool.false_eq_true, if_pos, if_neg], by simp (disch := omega) only [bl_lit, lgl, lgg, lgl0, lgg0, lglm, lggm, az_us, az_un, az_ue, az_urn, az_ure, bz_lit, nI_leI, nI_ltI, nI_eq, nI_clamp, nI_add, pk_sub, pk_mul, bz_nlt, bz_nle, bz_ltn, bz_len, bz_neq, bz_eqn, bz_nn, ↓reduceIte, Bool.false_eq_true, if_pos, if_neg], mid _ (by refine (((((az_fr.refl.u ?_).u ?_).u ?_).u ?_).u ?_) <;> (try dsimp only) <;> omega) (Or.inl ⟨?_, ?_, ?_⟩)⟩
      · simp (disch := omega) only [bl_lit, lgl, lgg, lgl0, lgg0, lglm, lggm, az_us, az_un, az_ue, az_urn, az_ure, bz_lit, nI_leI, nI_ltI, nI_eq, nI_clamp, nI_add, pk_sub, pk_mul, bz_nlt, bz_nle, bz_ltn, bz_len, bz_neq, bz_eqn, bz_nn, ↓reduceIte, Bool.false_eq_true, if_pos, if_neg]
      · simp (disch := omega) only [bl_lit, lgl, lgg, lgl0, lgg0, lglm, lggm, az_us, az_un, az_ue, az_urn, az_ure, bz_lit, nI_leI, nI_ltI, nI_eq, nI_clamp, nI_add, pk_sub, pk_mul, bz_nlt, bz_nle, bz_ltn, bz_len, bz_neq, bz_eqn, bz_nn, ↓reduceIte, Bool.false_eq_true, if_pos, if_neg]
      · simp (disch := omega) only [bl_lit, lgl, lgg, lgl0, lgg0, lglm, lggm, az_us, az_un, az_ue, az_urn, az_ure, bz_lit, nI_leI, nI_ltI, nI_eq, nI_clamp, nI_add, pk_sub, pk_mul, bz_nlt, bz_nle, bz_ltn, bz_len, bz_neq, bz_eqn, bz_nn, ↓reduceIte, Bool.false_eq_true, if_pos, if_neg]
    · rcases ix b m (by omega) with x | ⟨x, y⟩ | ⟨j, hj, rfl⟩
      · exact ⟨-nI 1, I, I, by simp (disch := omega) only [bl_lit, lgl, lgg, lgl0, lgg0, lglm, lggm, az_us, az_un, az_ue, az_urn, az_ure, bz_lit, nI_leI, nI_ltI, nI_eq, nI_clamp, nI_add, pk_sub, pk_mul, bz_nlt, bz_nle, bz_ltn, bz_len, bz_neq, bz_eqn, bz_nn, ↓reduceIte, Bool.false_eq_true, if_pos, if_neg, e, x], by simp (disch := omega) only [bl_lit, lgl, lgg, lgl0, lgg0, lglm, lggm, az_us, az_un, az_ue, az_urn, az_ure, bz_lit, nI_leI, nI_ltI, nI_eq, nI_clamp, nI_add, pk_sub, pk_mul, bz_nlt, bz_nle, bz_ltn, bz_len, bz_neq, bz_eqn, bz_nn, ↓reduceIte, Bool.false_eq_true, if_pos, if_neg, e, x], h⟩
      · exact ⟨-nI 1, I, I, by simp (disch := omega) only [bl_lit, lgl, lgg, lgl0, lgg0, lglm, lggm, az_us, az_un, az_ue, az_urn, az_ure, bz_lit, nI_leI, nI_ltI, nI_eq, nI_clamp, nI_add, pk_sub, pk_mul, bz_nlt, bz_nle, bz_ltn, bz_len, bz_neq, bz_eqn, bz_nn, ↓reduceIte, Bool.false_eq_true, if_pos, if_neg, e, x, y, b3], by simp (disch := omega) only [bl_lit, lgl, lgg, lgl0, lgg0, lglm, lggm, az_us, az_un, az_ue, az_urn, az_ure, bz_lit, nI_leI, nI_ltI, nI_eq, nI_clamp, nI_add, pk_sub, pk_mul, bz_nlt, bz_nle, bz_ltn, bz_len, bz_neq, bz_eqn, bz_nn, ↓reduceIte, Bool.false_eq_true, if_pos, if_neg, e, x, y, b4], h⟩
      · refine ⟨nI 1, az_u (az_u (az_u (az_u I (61 + 2 * s) 0 (-nI 1)) (61 + 2 * s) 1 (-nI 1)) (61 + 2 * s) 2 (nI 0)) (61 + 2 * s) 0 (nI j), az_u (az_u (az_u (az_u (az_u (az_u I (61 + 2 * s) 0 (-nI 1)) (61 + 2 * s) 1 (-nI 1)) (61 + 2 * s) 2 (nI 0)) (61 + 2 * s) 0 (nI j)) 96 s (nI j)) 97 s (nI 0), by simp (disch := omega) only [bl_lit, lgl, lgg, lgl0, lgg0, lglm, lggm, az_us, az_un, az_ue, az_urn, az_ure, bz_lit, nI_leI, nI_ltI, nI_eq, nI_clamp, nI_add, pk_sub, pk_mul, bz_nlt, bz_nle, bz_ltn, bz_len, bz_neq, bz_eqn, bz_nn, ↓reduceIte, Bool.false_eq_true, if_pos, if_neg, b3], by simp (disch := omega) only [bl_lit, lgl, lgg, lgl0, lgg0, lglm, lggm, az_us, az_un, az_ue, az_urn, az_ure, bz_lit, nI_leI, nI_ltI, nI_eq, nI_clamp, nI_add, pk_sub, pk_mul, bz_nlt, bz_nle, bz_ltn, bz_len, bz_neq, bz_eqn, bz_nn, ↓reduceIte, Bool.false_eq_true, if_pos, if_neg, b4], mid _ (by refine ((((((az_fr.refl.u ?_).u ?_).u ?_).u ?_).u ?_).u ?_) <;> (try dsimp only) <;> omega) (Or.inr ⟨j, ?_, ?_, ?_, ?_, by omega⟩)⟩
        · simp (disch := omega) only [bl_lit, lgl, lgg, lgl0, lgg0, lglm, lggm, az_us, az_un, az_ue, az_urn, az_ure, bz_lit, nI_leI, nI_ltI, nI_eq, nI_clamp, nI_add, pk_sub, pk_mul, bz_nlt, bz_nle, bz_ltn, bz_len, bz_neq, bz_eqn, bz_nn, ↓reduceIte, Bool.false_eq_true, if_pos, if_neg]
        · simp (disch := omega) only [bl_lit, lgl, lgg, lgl0, lgg0, lglm, lggm, az_us, az_un, az_ue, az_urn, az_ure, bz_lit, nI_leI, nI_ltI, nI_eq, nI_clamp, nI_add, pk_sub, pk_mul, bz_nlt, bz_nle, bz_ltn, bz_len, bz_neq, bz_eqn, bz_nn, ↓reduceIte, Bool.false_eq_true, if_pos, if_neg]
        · simp (disch := omega) only [bl_lit, lgl, lgg, lgl0, lgg0, lglm, lggm, az_us, az_un, az_ue, az_urn, az_ure, bz_lit, nI_leI, nI_ltI, nI_eq, nI_clamp, nI_add, pk_sub, pk_mul, bz_nlt, bz_nle, bz_ltn, bz_len, bz_neq, bz_eqn, bz_nn, ↓reduceIte, Bool.false_eq_true, if_pos, if_neg]
        · simp (disch := omega) only [bl_lit, lgl, lgg, lgl0, lgg0, lglm, lggm, az_us, az_un, az_ue, az_urn, az_ure, bz_lit, nI_leI, nI_ltI, nI_eq, nI_clamp, nI_add, pk_sub, pk_mul, bz_nlt, bz_nle, bz_ltn, bz_len, bz_neq, bz_eqn, bz_nn, ↓reduceIte, Bool.false_eq_true, if_pos, if_neg, b3]
          rw [nI_toInt (by omega)]
          omega
theorem mt_stumps (h : Rel I J rl rd) : ∃ v, rs_X_stumps I = some v ∧ rs_M_stumps I = some v := by
  obtain ⟨h1, h2, h3, h4, h5, h6, h7, h8, h9, h10, h11, h12⟩ := h
  obtain ⟨np, nw, p1, p2, p3, p4, p5, p6⟩ := h1
  obtain ⟨pc, pt, h3⟩ := h3
  unfold rs_X_stumps rs_M_stumps rs_X_stumps_4 rs_M_stumps_4
  have one : ∃ x, az_lp (fun s : (Int32 × Int32) => rs_X_stumps_4_b I s.1 s.2) 100000 (0, 0) = some x ∧ x = st_b pc pt np := by
    refine az_for0 (fun k (z : Int32 × Int32) => z = (st_b pc pt k, nI k)) np (by omega) rfl ?_ ?_
    · intro k z hk e
      subst e
      obtain ⟨q1, q2, q3, q4, q5, q6⟩ := h3 k (by omega)
      refine az_nxt (st_b pc pt (k + 1), nI (k + 1)) ?_ rfl
      show rs_X_stumps_4_b I (st_b pc pt k) (nI k) = some (.inl (if pc k = pt k then st_b pc pt k ||| (nI 1 <<< (nI k &&& nI 31)) else st_b pc pt k, nI (k + 1)))
      unfold rs_X_stumps_4_b
      by_cases e : pc k = pt k
      · simp (disch := omega) only [bl_lit, lgl, lgg, lgl0, lgg0, lglm, lggm, az_us, az_un, az_ue, az_urn, az_ure, bz_lit, nI_leI, nI_ltI, nI_eq, nI_clamp, nI_add, pk_sub, pk_mul, bz_nlt, bz_nle, bz_ltn, bz_len, bz_neq, bz_eqn, bz_nn, ↓reduceIte, Bool.false_eq_true, if_pos, if_neg, p3, q1, q4, e]
      · simp (disch := omega) only [bl_lit, lgl, lgg, lgl0, lgg0, lglm, lggm, az_us, az_un, az_ue, az_urn, az_ure, bz_lit, nI_leI, nI_ltI, nI_eq, nI_clamp, nI_add, pk_sub, pk_mul, bz_nlt, bz_nle, bz_ltn, bz_len, bz_neq, bz_eqn, bz_nn, ↓reduceIte, Bool.false_eq_true, if_pos, if_neg, p3, q1, q4, e]
    · intro z e
      subst e
      refine ⟨_, ?_, rfl⟩
      show rs_X_stumps_4_b I (st_b pc pt np) (nI np) = _
      unfold rs_X_stumps_4_b
      simp (disch := omega) only [bl_lit, lgl, lgg, lgl0, lgg0, lglm, lggm, az_us, az_un, az_ue, az_urn, az_ure, bz_lit, nI_leI, nI_ltI, nI_eq, nI_clamp, nI_add, pk_sub, pk_mul, bz_nlt, bz_nle, bz_ltn, bz_len, bz_neq, bz_eqn, bz_nn, ↓reduceIte, Bool.false_eq_true, if_pos, if_neg, p3]
  have two : ∃ x, az_lp (fun s : (Int32 × Int32) => rs_M_stumps_4_b I s.1 s.2) 100000 (0, 0) = some x ∧ x = st_b pc pt np := by
    refine az_for0 (fun k (z : Int32 × Int32) => z = (st_b pc pt k, nI k)) np (by omega) rfl ?_ ?_
    · intro k z hk e
      subst e
      obtain ⟨q1, q2, q3, q4, q5, q6⟩ := h3 k (by omega)
      refine az_nxt (st_b pc pt (k + 1), nI (k + 1)) ?_ rfl
      show rs_M_stumps_4_b I (st_b pc pt k) (nI k) = some (.inl (if pc k = pt k then st_b pc pt k ||| (nI 1 <<< (nI k &&& nI 31)) else st_b pc pt k, nI (k + 1)))
      unfold rs_M_stumps_4_b
      by_cases e : pc k = pt k
      · simp (disch := omega) only [bl_lit, lgl, lgg, lgl0, lgg0, lglm, lggm, az_us, az_un, az_ue, az_urn, az_ure, bz_lit, nI_leI, nI_ltI, nI_eq, nI_clamp, nI_add, pk_sub, pk_mul, bz_nlt, bz_nle, bz_ltn, bz_len, bz_neq, bz_eqn, bz_nn, ↓reduceIte, Bool.false_eq_true, if_pos, if_neg, p4, q2, q5, e]
      · have z : st_b pc pt k ||| nI 0 = st_b pc pt k := Int32.or_zero
        simp (disch := omega) only [bl_lit, lgl, lgg, lgl0, lgg0, lglm, lggm, az_us, az_un, az_ue, az_urn, az_ure, bz_lit, nI_leI, nI_ltI, nI_eq, nI_clamp, nI_add, pk_sub, pk_mul, bz_nlt, bz_nle, bz_ltn, bz_len, bz_neq, bz_eqn, bz_nn, ↓reduceIte, Bool.false_eq_true, if_pos, if_neg, p4, q2, q5, e, z]
    · intro z e
      subst e
      refine ⟨_, ?_, rfl⟩
      show rs_M_stumps_4_b I (st_b pc pt np) (nI np) = _
      unfold rs_M_stumps_4_b
      simp (disch := omega) only [bl_lit, lgl, lgg, lgl0, lgg0, lglm, lggm, az_us, az_un, az_ue, az_urn, az_ure, bz_lit, nI_leI, nI_ltI, nI_eq, nI_clamp, nI_add, pk_sub, pk_mul, bz_nlt, bz_nle, bz_ltn, bz_len, bz_neq, bz_eqn, bz_nn, ↓reduceIte, Bool.false_eq_true, if_pos, if_neg, p4]
  obtain ⟨x, x1, rfl⟩ := one
  obtain ⟨y, y1, rfl⟩ := two
  exact ⟨_, x1, y1⟩
end

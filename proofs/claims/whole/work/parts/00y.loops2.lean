/-! longest, light, carry, drawn -/
section
variable {I : Nat → Nat → Int32} {J : Nat → Nat → Int64} {rl rd : Nat}
theorem mt_longest (h : Rel I J rl rd) (a b : Int32) : mt (rs_X_longest rd rl I a b) (fun I => rs_M_longest I a b) J rl rd := by
  obtain ⟨np, nw, L, hh, pc, pt, n1, n2, ⟨c1, c2, c3, c4⟩, hrl, hB, qX, qM, hw, hwe⟩ := h.w
  unfold rs_X_longest rs_M_longest
  rcases ix a nw (by omega) with x | ⟨x, y⟩ | ⟨w, hww, rfl⟩
  · exact ⟨-nI 1, I, I, by simp (disch := omega) only [bl_lit, lgl, lgg, lgl0, lgg0, lglm, lggm, az_us, az_un, az_ue, az_urn, az_ure, bz_lit, nI_leI, nI_ltI, nI_eq, nI_clamp, nI_add, pk_sub, pk_mul, bz_nlt, bz_nle, bz_ltn, bz_len, bz_neq, bz_eqn, bz_nn, ↓reduceIte, Bool.false_eq_true, if_pos, if_neg, x], by simp (disch := omega) only [bl_lit, lgl, lgg, lgl0, lgg0, lglm, lggm, az_us, az_un, az_ue, az_urn, az_ure, bz_lit, nI_leI, nI_ltI, nI_eq, nI_clamp, nI_add, pk_sub, pk_mul, bz_nlt, bz_nle, bz_ltn, bz_len, bz_neq, bz_eqn, bz_nn, ↓reduceIte, Bool.false_eq_true, if_pos, if_neg, x], h⟩
  · exact ⟨-nI 1, I, I, by simp (disch := omega) only [bl_lit, lgl, lgg, lgl0, lgg0, lglm, lggm, az_us, az_un, az_ue, az_urn, az_ure, bz_lit, nI_leI, nI_ltI, nI_eq, nI_clamp, nI_add, pk_sub, pk_mul, bz_nlt, bz_nle, bz_ltn, bz_len, bz_neq, bz_eqn, bz_nn, ↓reduceIte, Bool.false_eq_true, if_pos, if_neg, x, y, c3], by simp (disch := omega) only [bl_lit, lgl, lgg, lgl0, lgg0, lglm, lggm, az_us, az_un, az_ue, az_urn, az_ure, bz_lit, nI_leI, nI_ltI, nI_eq, nI_clamp, nI_add, pk_sub, pk_mul, bz_nlt, bz_nle, bz_ltn, bz_len, bz_neq, bz_eqn, bz_nn, ↓reduceIte, Bool.false_eq_true, if_pos, if_neg, x, y, c4], h⟩
  · rcases ixc b 1 (by omega) with x | ⟨x, y⟩ | ⟨j, hj, rfl⟩
    · exact ⟨-nI 1, I, I, by simp (disch := omega) only [sub_lt, le_sub, bl_lit, lgl, lgg, lgl0, lgg0, lglm, lggm, az_us, az_un, az_ue, az_urn, az_ure, bz_lit, nI_leI, nI_ltI, nI_eq, nI_clamp, nI_add, pk_sub, pk_mul, bz_nlt, bz_nle, bz_ltn, bz_len, bz_neq, bz_eqn, bz_nn, ↓reduceIte, Bool.false_eq_true, if_pos, if_neg, bz_neL x, c3], by simp (disch := omega) only [sub_lt, le_sub, bl_lit, lgl, lgg, lgl0, lgg0, lglm, lggm, az_us, az_un, az_ue, az_urn, az_ure, bz_lit, nI_leI, nI_ltI, nI_eq, nI_clamp, nI_add, pk_sub, pk_mul, bz_nlt, bz_nle, bz_ltn, bz_len, bz_neq, bz_eqn, bz_nn, ↓reduceIte, Bool.false_eq_true, if_pos, if_neg, x, c4], h⟩
    · exact ⟨-nI 1, I, I, by simp (disch := omega) only [sub_lt, le_sub, bl_lit, lgl, lgg, lgl0, lgg0, lglm, lggm, az_us, az_un, az_ue, az_urn, az_ure, bz_lit, nI_leI, nI_ltI, nI_eq, nI_clamp, nI_add, pk_sub, pk_mul, bz_nlt, bz_nle, bz_ltn, bz_len, bz_neq, bz_eqn, bz_nn, ↓reduceIte, Bool.false_eq_true, if_pos, if_neg, bz_neG y, c3], by simp (disch := omega) only [sub_lt, le_sub, bl_lit, lgl, lgg, lgl0, lgg0, lglm, lggm, az_us, az_un, az_ue, az_urn, az_ure, bz_lit, nI_leI, nI_ltI, nI_eq, nI_clamp, nI_add, pk_sub, pk_mul, bz_nlt, bz_nle, bz_ltn, bz_len, bz_neq, bz_eqn, bz_nn, ↓reduceIte, Bool.false_eq_true, if_pos, if_neg, x, y, c4], h⟩
    · obtain ⟨I1, r1, f1, p1⟩ := px_set hrl hB qX (w := w) (by omega)
      obtain ⟨g1, g2, g3⟩ := hw w (by omega)
      have hμ : ∀ s : Int32 × Int32 × Int32 × Nat, (s.2.2.2 ≤ np ∧ (s.1 = -nI 2 ∨ ∃ j, j < 8 ∧ s.1 = nI j)) → (∃ s', f_lon np (fun i => am hh (tt L (I 8 w) (I 9 w) (I 10 w) (I 4 10)) (pc i) (pt i)) (nI j) s = .inl s' ∧ (s'.2.2.2 ≤ np ∧ (s'.1 = -nI 2 ∨ ∃ j, j < 8 ∧ s'.1 = nI j)) ∧ np - s'.2.2.2 < np - s.2.2.2) ∨ ∃ v, f_lon np (fun i => am hh (tt L (I 8 w) (I 9 w) (I 10 w) (I 4 10)) (pc i) (pt i)) (nI j) s = .inr v := by
        intro s hs
        unfold f_lon
        by_cases hi : np ≤ s.2.2.2
        · exact Or.inr ⟨_, if_pos hi⟩
        · have := f_lon_s (A := fun i => am hh (tt L (I 8 w) (I 9 w) (I 10 w) (I 4 10)) (pc i) (pt i)) n1 hi hs
          exact Or.inl ⟨_, if_neg hi, this.1, this.2⟩
      obtain ⟨v, hv⟩ := pl_ex (fun s : Int32 × Int32 × Int32 × Nat => np - s.2.2.2) hμ 100000 (-nI 2, nI 0, nI 0, 0) (by (try dsimp only); omega) ⟨by (try dsimp only); omega, Or.inl rfl⟩
      obtain ⟨I2, x, fx, px⟩ := pl_sim (b := fun s : (Int32 × Int32 × Int32 × Int32 × (Nat → Nat → Int32)) => rs_X_longest_34_b rd rl (nI j) s.1 s.2.1 s.2.2.1 s.2.2.2.1 s.2.2.2.2) (pk := fun s I => (s.1, s.2.1, s.2.2.1, nI s.2.2.2, I)) (fin := fun v I => (v, I)) (Inv := fun s => s.2.2.2 ≤ np ∧ (s.1 = -nI 2 ∨ ∃ j, j < 8 ∧ s.1 = nI j)) (P := fun I' => az_fr scX I I' ∧ pq I' L hh (I 8 w) (I 9 w) (I 10 w) (I 4 10))
        (by
          intro s I' hs hP
          obtain ⟨v3, v4, v5, i⟩ := s
          obtain ⟨ff, pp⟩ := hP
          have c1' : I' 4 3 = nI np := by rw [ff 4 3 (by unfold scX; omega)]; exact c1
          unfold f_lon
          by_cases hi : np ≤ i
          · refine ⟨I', ⟨ff, pp⟩, Or.inr ⟨_, if_pos hi, ?_⟩⟩
            (try dsimp only at hs ⊢)
            unfold rs_X_longest_34_b rs_X_longest_87
            by_cases j0 : j = 0
            · simp (disch := omega) only [bl_lit, lgl, lgg, lgl0, lgg0, lglm, lggm, az_us, az_un, az_ue, az_urn, az_ure, bz_lit, nI_leI, nI_ltI, nI_eq, nI_clamp, nI_add, pk_sub, pk_mul, bz_nlt, bz_nle, bz_ltn, bz_len, bz_neq, bz_eqn, bz_nn, ↓reduceIte, Bool.false_eq_true, if_pos, if_neg, c1', j0, Option.map_some]
            · simp (disch := omega) only [bl_lit, lgl, lgg, lgl0, lgg0, lglm, lggm, az_us, az_un, az_ue, az_urn, az_ure, bz_lit, nI_leI, nI_ltI, nI_eq, nI_clamp, nI_add, pk_sub, pk_mul, bz_nlt, bz_nle, bz_ltn, bz_len, bz_neq, bz_eqn, bz_nn, ↓reduceIte, Bool.false_eq_true, if_pos, if_neg, c1', j0, Option.map_some]
          · have := f_lon_s (A := fun i => am hh (tt L (I 8 w) (I 9 w) (I 10 w) (I 4 10)) (pc i) (pt i)) n1 hi hs
            (try dsimp only at hs)
            obtain ⟨I5, r5, f5, p5⟩ := px_arm hrl hB qX ff pp (k := i) (by omega)
            refine ⟨I5, ⟨f5, p5⟩, Or.inl ⟨_, if_neg hi, this.1, ?_⟩⟩
            (try dsimp only)
            unfold rs_X_longest_34_b
            by_cases z : v3 = -nI 2
            · simp (disch := omega) only [bl_lit, lgl, lgg, lgl0, lgg0, lglm, lggm, az_us, az_un, az_ue, az_urn, az_ure, bz_lit, nI_leI, nI_ltI, nI_eq, nI_clamp, nI_add, pk_sub, pk_mul, bz_nlt, bz_nle, bz_ltn, bz_len, bz_neq, bz_eqn, bz_nn, ↓reduceIte, Bool.false_eq_true, if_pos, if_neg, c1', r5, z]
            · by_cases z2 : nI (am hh (tt L (I 8 w) (I 9 w) (I 10 w) (I 4 10)) (pc i) (pt i)) ≤ v4
              · simp (disch := omega) only [bl_lit, lgl, lgg, lgl0, lgg0, lglm, lggm, az_us, az_un, az_ue, az_urn, az_ure, bz_lit, nI_leI, nI_ltI, nI_eq, nI_clamp, nI_add, pk_sub, pk_mul, bz_nlt, bz_nle, bz_ltn, bz_len, bz_neq, bz_eqn, bz_nn, ↓reduceIte, Bool.false_eq_true, if_pos, if_neg, c1', r5, z, z2]
              · simp (disch := omega) only [bl_lit, lgl, lgg, lgl0, lgg0, lglm, lggm, az_us, az_un, az_ue, az_urn, az_ure, bz_lit, nI_leI, nI_ltI, nI_eq, nI_clamp, nI_add, pk_sub, pk_mul, bz_nlt, bz_nle, bz_ltn, bz_len, bz_neq, bz_eqn, bz_nn, ↓reduceIte, Bool.false_eq_true, if_pos, if_neg, c1', r5, z, z2]) 100000 (-nI 2, nI 0, nI 0, 0) I1 v ⟨by (try dsimp only); omega, Or.inl rfl⟩ ⟨f1, p1⟩ hv
      have qM' := qM.fr (scX_sc fx)
      obtain ⟨I3, r3, f3, p3⟩ := pm_for qM' hB az_fr.refl (w := w) (by omega)
      rw [fx 74 (160 + w) (by unfold scX; omega), fx 74 (166 + w) (by unfold scX; omega), fx 74 (172 + w) (by unfold scX; omega), fx 74 178 (by unfold scX; omega), g1, g2, g3, hwe] at p3
      obtain ⟨I4, y, fy, py⟩ := pl_sim (b := fun s : (Int32 × Int32 × Int32 × Int32 × (Nat → Nat → Int32)) => rs_M_longest_38_b (nI j) s.1 s.2.1 s.2.2.1 s.2.2.2.1 s.2.2.2.2) (pk := fun s I => (s.1, s.2.1, s.2.2.1, nI s.2.2.2, I)) (fin := fun v I => (v, I)) (Inv := fun s => s.2.2.2 ≤ np ∧ (s.1 = -nI 2 ∨ ∃ j, j < 8 ∧ s.1 = nI j)) (P := fun I' => az_fr scM I2 I' ∧ dk_in I' hh (tt L (I 8 w) (I 9 w) (I 10 w) (I 4 10)))
        (by
          intro s I' hs hP
          obtain ⟨v3, v4, v5, i⟩ := s
          obtain ⟨ff, pp⟩ := hP
          have c1' : I' 73 6 = nI np := by rw [ff 73 6 (by unfold scM; omega), fx 73 6 (by unfold scX; omega)]; exact c2
          unfold f_lon
          by_cases hi : np ≤ i
          · refine ⟨I', ⟨ff, pp⟩, Or.inr ⟨_, if_pos hi, ?_⟩⟩
            (try dsimp only at hs ⊢)
            unfold rs_M_longest_38_b rs_M_longest_86
            by_cases j0 : j = 0
            · simp (disch := omega) only [bl_lit, lgl, lgg, lgl0, lgg0, lglm, lggm, az_us, az_un, az_ue, az_urn, az_ure, bz_lit, nI_leI, nI_ltI, nI_eq, nI_clamp, nI_add, pk_sub, pk_mul, bz_nlt, bz_nle, bz_ltn, bz_len, bz_neq, bz_eqn, bz_nn, ↓reduceIte, Bool.false_eq_true, if_pos, if_neg, c1', j0, Option.map_some]
            · simp (disch := omega) only [bl_lit, lgl, lgg, lgl0, lgg0, lglm, lggm, az_us, az_un, az_ue, az_urn, az_ure, bz_lit, nI_leI, nI_ltI, nI_eq, nI_clamp, nI_add, pk_sub, pk_mul, bz_nlt, bz_nle, bz_ltn, bz_len, bz_neq, bz_eqn, bz_nn, ↓reduceIte, Bool.false_eq_true, if_pos, if_neg, c1', j0, Option.map_some]
          · have := f_lon_s (A := fun i => am hh (tt L (I 8 w) (I 9 w) (I 10 w) (I 4 10)) (pc i) (pt i)) n1 hi hs
            (try dsimp only at hs)
            obtain ⟨I5, r5, f5, p5⟩ := pm_arm (qX.ok hB _ _ _ _) qM' ff pp (k := i) (by omega)
            refine ⟨I5, ⟨f5, p5⟩, Or.inl ⟨_, if_neg hi, this.1, ?_⟩⟩
            (try dsimp only)
            unfold rs_M_longest_38_b
            rcases hs.2 with z | ⟨jj, hjj, z⟩
            · simp (disch := omega) only [bl_lit, lgl, lgg, lgl0, lgg0, lglm, lggm, az_us, az_un, az_ue, az_urn, az_ure, bz_lit, nI_leI, nI_ltI, nI_eq, nI_clamp, nI_add, pk_sub, pk_mul, bz_nlt, bz_nle, bz_ltn, bz_len, bz_neq, bz_eqn, bz_nn, ↓reduceIte, Bool.false_eq_true, if_pos, if_neg, c1', r5, z]
            · by_cases z2 : nI (am hh (tt L (I 8 w) (I 9 w) (I 10 w) (I 4 10)) (pc i) (pt i)) ≤ v4
              · simp (disch := omega) only [bl_lit, lgl, lgg, lgl0, lgg0, lglm, lggm, az_us, az_un, az_ue, az_urn, az_ure, bz_lit, nI_leI, nI_ltI, nI_eq, nI_clamp, nI_add, pk_sub, pk_mul, bz_nlt, bz_nle, bz_ltn, bz_len, bz_neq, bz_eqn, bz_nn, ↓reduceIte, Bool.false_eq_true, if_pos, if_neg, c1', r5, z, z2]
              · simp (disch := omega) only [bl_lit, lgl, lgg, lgl0, lgg0, lglm, lggm, az_us, az_un, az_ue, az_urn, az_ure, bz_lit, nI_leI, nI_ltI, nI_eq, nI_clamp, nI_add, pk_sub, pk_mul, bz_nlt, bz_nle, bz_ltn, bz_len, bz_neq, bz_eqn, bz_nn, ↓reduceIte, Bool.false_eq_true, if_pos, if_neg, c1', r5, z, z2]) 100000 (-nI 2, nI 0, nI 0, 0) I3 v ⟨by (try dsimp only); omega, Or.inl rfl⟩ ⟨f3, p3⟩ hv
      refine mt_mk h v ?_ fx ?_ fy
      · have j2 : j = 0 ∨ j = 1 := by omega
        rcases j2 with rfl | rfl
        · simp (disch := omega) only [sub_lt, le_sub, bl_lit, lgl, lgg, lgl0, lgg0, lglm, lggm, az_us, az_un, az_ue, az_urn, az_ure, bz_lit, nI_leI, nI_ltI, nI_eq, nI_clamp, nI_add, pk_sub, pk_mul, bz_nlt, bz_nle, bz_ltn, bz_len, bz_neq, bz_eqn, bz_nn, ↓reduceIte, Bool.false_eq_true, if_pos, if_neg, c3, r1]
          exact x
        · simp (disch := omega) only [sub_lt, le_sub, bl_lit, lgl, lgg, lgl0, lgg0, lglm, lggm, az_us, az_un, az_ue, az_urn, az_ure, bz_lit, nI_leI, nI_ltI, nI_eq, nI_clamp, nI_add, pk_sub, pk_mul, bz_nlt, bz_nle, bz_ltn, bz_len, bz_neq, bz_eqn, bz_nn, ↓reduceIte, Bool.false_eq_true, if_pos, if_neg, c3, r1]
          exact x
      · have c4' : I2 73 7 = nI nw := by rw [fx 73 7 (by unfold scX; omega)]; exact c4
        simp (disch := omega) only [sub_lt, le_sub, bl_lit, lgl, lgg, lgl0, lgg0, lglm, lggm, az_us, az_un, az_ue, az_urn, az_ure, bz_lit, nI_leI, nI_ltI, nI_eq, nI_clamp, nI_add, pk_sub, pk_mul, bz_nlt, bz_nle, bz_ltn, bz_len, bz_neq, bz_eqn, bz_nn, ↓reduceIte, Bool.false_eq_true, if_pos, if_neg, c4', r3]
        exact y
theorem mt_light (h : Rel I J rl rd) (a b t : Int32) : mt (rs_X_light rd rl I a b t) (fun I => rs_M_light I a b t) J rl rd := by
  obtain ⟨np, nw, L, hh, pc, pt, n1, n2, ⟨c1, c2, c3, c4⟩, hrl, hB, qX, qM, hw, hwe⟩ := h.w
  unfold rs_X_light rs_M_light
  rcases ix_ft (a := a) with ⟨x, y⟩ | ⟨x, y, c, d, hc, hd, _, e1, e2⟩
  · rw [x, y]
    exact ⟨_, I, I, rfl, rfl, h⟩
  · rw [x, y]
    rcases ix b nw (by omega) with x | ⟨x, y⟩ | ⟨w, hww, rfl⟩
    · exact ⟨-nI 2000000000, I, I, by simp (disch := omega) only [bl_lit, lgl, lgg, lgl0, lgg0, lglm, lggm, az_us, az_un, az_ue, az_urn, az_ure, bz_lit, nI_leI, nI_ltI, nI_eq, nI_clamp, nI_add, pk_sub, pk_mul, bz_nlt, bz_nle, bz_ltn, bz_len, bz_neq, bz_eqn, bz_nn, ↓reduceIte, Bool.false_eq_true, if_pos, if_neg, x], by simp (disch := omega) only [bl_lit, lgl, lgg, lgl0, lgg0, lglm, lggm, az_us, az_un, az_ue, az_urn, az_ure, bz_lit, nI_leI, nI_ltI, nI_eq, nI_clamp, nI_add, pk_sub, pk_mul, bz_nlt, bz_nle, bz_ltn, bz_len, bz_neq, bz_eqn, bz_nn, ↓reduceIte, Bool.false_eq_true, if_pos, if_neg, x], h⟩
    · exact ⟨-nI 2000000000, I, I, by simp (disch := omega) only [bl_lit, lgl, lgg, lgl0, lgg0, lglm, lggm, az_us, az_un, az_ue, az_urn, az_ure, bz_lit, nI_leI, nI_ltI, nI_eq, nI_clamp, nI_add, pk_sub, pk_mul, bz_nlt, bz_nle, bz_ltn, bz_len, bz_neq, bz_eqn, bz_nn, ↓reduceIte, Bool.false_eq_true, if_pos, if_neg, x, y, c3], by simp (disch := omega) only [bl_lit, lgl, lgg, lgl0, lgg0, lglm, lggm, az_us, az_un, az_ue, az_urn, az_ure, bz_lit, nI_leI, nI_ltI, nI_eq, nI_clamp, nI_add, pk_sub, pk_mul, bz_nlt, bz_nle, bz_ltn, bz_len, bz_neq, bz_eqn, bz_nn, ↓reduceIte, Bool.false_eq_true, if_pos, if_neg, x, y, c4], h⟩
    · by_cases b0 : t < nI 0
      · exact ⟨-nI 2000000000, I, I, by simp (disch := omega) only [sub_lt, le_sub, bl_lit, lgl, lgg, lgl0, lgg0, lglm, lggm, az_us, az_un, az_ue, az_urn, az_ure, bz_lit, nI_leI, nI_ltI, nI_eq, nI_clamp, nI_add, pk_sub, pk_mul, bz_nlt, bz_nle, bz_ltn, bz_len, bz_neq, bz_eqn, bz_nn, ↓reduceIte, Bool.false_eq_true, if_pos, if_neg, b0, c3], by simp (disch := omega) only [sub_lt, le_sub, bl_lit, lgl, lgg, lgl0, lgg0, lglm, lggm, az_us, az_un, az_ue, az_urn, az_ure, bz_lit, nI_leI, nI_ltI, nI_eq, nI_clamp, nI_add, pk_sub, pk_mul, bz_nlt, bz_nle, bz_ltn, bz_len, bz_neq, bz_eqn, bz_nn, ↓reduceIte, Bool.false_eq_true, if_pos, if_neg, b0, c4], h⟩
      · by_cases b1 : nI 9999 < t
        · exact ⟨-nI 2000000000, I, I, by simp (disch := omega) only [sub_lt, le_sub, bl_lit, lgl, lgg, lgl0, lgg0, lglm, lggm, az_us, az_un, az_ue, az_urn, az_ure, bz_lit, nI_leI, nI_ltI, nI_eq, nI_clamp, nI_add, pk_sub, pk_mul, bz_nlt, bz_nle, bz_ltn, bz_len, bz_neq, bz_eqn, bz_nn, ↓reduceIte, Bool.false_eq_true, if_pos, if_neg, b0, b1, c3], by simp (disch := omega) only [sub_lt, le_sub, bl_lit, lgl, lgg, lgl0, lgg0, lglm, lggm, az_us, az_un, az_ue, az_urn, az_ure, bz_lit, nI_leI, nI_ltI, nI_eq, nI_clamp, nI_add, pk_sub, pk_mul, bz_nlt, bz_nle, bz_ltn, bz_len, bz_neq, bz_eqn, bz_nn, ↓reduceIte, Bool.false_eq_true, if_pos, if_neg, b0, b1, c4], h⟩
        · obtain ⟨I1, r1, f1, p1⟩ := px_set hrl hB qX (w := w) (by omega)
          obtain ⟨g1, g2, g3⟩ := hw w (by omega)
          obtain ⟨v, I2, I3, x, fx, y, fy⟩ := mt_loop (I0 := I) (I1 := I1) (bX := fun s : (Int32 × (Nat → Nat → Int32)) => rs_X_light_38_b rd rl a t s.1 s.2) (bM := fun s : (Int32 × (Nat → Nat → Int32)) => rs_M_light_35_b a (nI w) t s.1 s.2)
            (fun s : Nat => if 19 ≤ s then .inr (-nI 99) else if t < nI (am hh (tt L (hk s) (I 9 w) (I 10 w) (I 4 10)) c d) then .inl (s + 1) else .inr (hk s)) (pX := fun s I => (hk s, I)) (pM := fun s I => (hk s, I)) (fun s => s ≤ 19) (fun s => 19 - s) 0 (by omega) (by omega)
            (by
              intro s hs
              (try dsimp only at hs ⊢)
              by_cases hi : 19 ≤ s
              · exact Or.inr ⟨_, if_pos hi⟩
              · rw [if_neg hi]
                by_cases z : t < nI (am hh (tt L (hk s) (I 9 w) (I 10 w) (I 4 10)) c d)
                · exact Or.inl ⟨_, if_pos z, by omega, by omega⟩
                · exact Or.inr ⟨_, if_neg z⟩)
            (PX := fun I' => az_fr scX I I' ∧ ∃ he, pq I' L hh he (I 9 w) (I 10 w) (I 4 10)) ⟨f1, _, p1⟩
            (by
              intro s I' hs hP
              obtain ⟨ff, he, pp⟩ := hP
              (try dsimp only at hs ⊢)
              by_cases hi : 19 ≤ s
              · refine ⟨I', ⟨ff, he, pp⟩, Or.inr ⟨_, if_pos hi, ?_⟩⟩
                unfold rs_X_light_38_b
                simp (disch := omega) only [bl_lit, lgl, lgg, lgl0, lgg0, lglm, lggm, az_us, az_un, az_ue, az_urn, az_ure, bz_lit, nI_leI, nI_ltI, nI_eq, nI_clamp, nI_add, pk_sub, pk_mul, bz_nlt, bz_nle, bz_ltn, bz_len, bz_neq, bz_eqn, bz_nn, ↓reduceIte, Bool.false_eq_true, if_pos, if_neg, hk_lt]
              · rw [if_neg hi]
                obtain ⟨I4, r4, f4, p4⟩ := px_heart hrl hB qX ff pp (hk s)
                obtain ⟨I5, r5, f5, p5⟩ := px_min hB f4 p4 hc hd
                refine ⟨I5, ⟨f5, _, p5⟩, ?_⟩
                unfold rs_X_light_38_b
                rw [e2, e1]
                by_cases z : t < nI (am hh (tt L (hk s) (I 9 w) (I 10 w) (I 4 10)) c d)
                · refine Or.inl ⟨_, if_pos z, by omega, ?_⟩
                  simp (disch := omega) only [bl_lit, lgl, lgg, lgl0, lgg0, lglm, lggm, az_us, az_un, az_ue, az_urn, az_ure, bz_lit, nI_leI, nI_ltI, nI_eq, nI_clamp, nI_add, pk_sub, pk_mul, bz_nlt, bz_nle, bz_ltn, bz_len, bz_neq, bz_eqn, bz_nn, ↓reduceIte, Bool.false_eq_true, if_pos, if_neg, hk_lt, r4, r5, z, hk_add]
                · refine Or.inr ⟨_, if_neg z, ?_⟩
                  simp (disch := omega) only [bl_lit, lgl, lgg, lgl0, lgg0, lglm, lggm, az_us, az_un, az_ue, az_urn, az_ure, bz_lit, nI_leI, nI_ltI, nI_eq, nI_clamp, nI_add, pk_sub, pk_mul, bz_nlt, bz_nle, bz_ltn, bz_len, bz_neq, bz_eqn, bz_nn, ↓reduceIte, Bool.false_eq_true, if_pos, if_neg, hk_lt, r4, r5, z])
            (fun _ q => q.1)
            (by
              intro I0' ff0 s I' hs ff
              (try dsimp only at hs ⊢)
              by_cases hi : 19 ≤ s
              · refine ⟨I', ff, Or.inr ⟨_, if_pos hi, ?_⟩⟩
                unfold rs_M_light_35_b
                simp (disch := omega) only [bl_lit, lgl, lgg, lgl0, lgg0, lglm, lggm, az_us, az_un, az_ue, az_urn, az_ure, bz_lit, nI_leI, nI_ltI, nI_eq, nI_clamp, nI_add, pk_sub, pk_mul, bz_nlt, bz_nle, bz_ltn, bz_len, bz_neq, bz_eqn, bz_nn, ↓reduceIte, Bool.false_eq_true, if_pos, if_neg, hk_lt]
              · rw [if_neg hi]
                have qM' := qM.fr (scX_sc ff0)
                obtain ⟨I4, r4, f4, p4⟩ := pm_steps qM' hB ff (hk s) (I 9 w) (I 10 w) (I 4 10)
                obtain ⟨I5, r5, f5, p5⟩ := pm_min (qX.ok hB _ _ _ _) f4 p4 hc hd
                have k2 : I' 74 (166 + w) = I 9 w := by rw [ff 74 (166 + w) (by unfold scM; omega), ff0 74 (166 + w) (by unfold scX; omega)]; exact g2
                have k3 : I' 74 (172 + w) = I 10 w := by rw [ff 74 (172 + w) (by unfold scM; omega), ff0 74 (172 + w) (by unfold scX; omega)]; exact g3
                have k4 : I' 74 178 = I 4 10 := by rw [ff 74 178 (by unfold scM; omega), ff0 74 178 (by unfold scX; omega)]; exact hwe
                refine ⟨I5, f5, ?_⟩
                unfold rs_M_light_35_b
                rw [e2, e1]
                by_cases z : t < nI (am hh (tt L (hk s) (I 9 w) (I 10 w) (I 4 10)) c d)
                · refine Or.inl ⟨_, if_pos z, by omega, ?_⟩
                  simp (disch := omega) only [bl_lit, lgl, lgg, lgl0, lgg0, lglm, lggm, az_us, az_un, az_ue, az_urn, az_ure, bz_lit, nI_leI, nI_ltI, nI_eq, nI_clamp, nI_add, pk_sub, pk_mul, bz_nlt, bz_nle, bz_ltn, bz_len, bz_neq, bz_eqn, bz_nn, ↓reduceIte, Bool.false_eq_true, if_pos, if_neg, hk_lt, k2, k3, k4, r4, r5, z, hk_add]
                · refine Or.inr ⟨_, if_neg z, ?_⟩
                  simp (disch := omega) only [bl_lit, lgl, lgg, lgl0, lgg0, lglm, lggm, az_us, az_un, az_ue, az_urn, az_ure, bz_lit, nI_leI, nI_ltI, nI_eq, nI_clamp, nI_add, pk_sub, pk_mul, bz_nlt, bz_nle, bz_ltn, bz_len, bz_neq, bz_eqn, bz_nn, ↓reduceIte, Bool.false_eq_true, if_pos, if_neg, hk_lt, k2, k3, k4, r4, r5, z])
          refine mt_mk h v ?_ fx ?_ fy
          · simp (disch := omega) only [sub_lt, le_sub, bl_lit, lgl, lgg, lgl0, lgg0, lglm, lggm, az_us, az_un, az_ue, az_urn, az_ure, bz_lit, nI_leI, nI_ltI, nI_eq, nI_clamp, nI_add, pk_sub, pk_mul, bz_nlt, bz_nle, bz_ltn, bz_len, bz_neq, bz_eqn, bz_nn, ↓reduceIte, Bool.false_eq_true, if_pos, if_neg, b0, b1, c3, r1, hk_0]
            exact x
          · have c4' : I2 73 7 = nI nw := by rw [fx 73 7 (by unfold scX; omega)]; exact c4
            simp (disch := omega) only [sub_lt, le_sub, bl_lit, lgl, lgg, lgl0, lgg0, lglm, lggm, az_us, az_un, az_ue, az_urn, az_ure, bz_lit, nI_leI, nI_ltI, nI_eq, nI_clamp, nI_add, pk_sub, pk_mul, bz_nlt, bz_nle, bz_ltn, bz_len, bz_neq, bz_eqn, bz_nn, ↓reduceIte, Bool.false_eq_true, if_pos, if_neg, b0, b1, c4', hk_0]
            exact y
def ck (n : Nat) : Int32 := nI n - nI 1
theorem ck_lt0 : ∀ n, n < 11 → decide (ck n < nI 0) = decide (n = 0) := by decide +kernel
theorem ck_s : ∀ n, n < 11 → ck (n + 1) = nI n := by decide +kernel
theorem ck_m : ∀ n, n < 11 → nI n + -nI 1 = ck n := by decide +kernel
theorem mt_carry (h : Rel I J rl rd) (a b t : Int32) : mt (rs_X_carry rd rl I a b t) (fun I => rs_M_carry I a b t) J rl rd := by
  obtain ⟨np, nw, L, hh, pc, pt, n1, n2, ⟨c1, c2, c3, c4⟩, hrl, hB, qX, qM, hw, hwe⟩ := h.w
  unfold rs_X_carry rs_M_carry
  rcases ix_ft (a := a) with ⟨x, y⟩ | ⟨x, y, c, d, hc, hd, _, e1, e2⟩
  · rw [x, y]
    exact ⟨_, I, I, rfl, rfl, h⟩
  · rw [x, y]
    rcases ix b nw (by omega) with x | ⟨x, y⟩ | ⟨w, hww, rfl⟩
    · exact ⟨-nI 1, I, I, by simp (disch := omega) only [bl_lit, lgl, lgg, lgl0, lgg0, lglm, lggm, az_us, az_un, az_ue, az_urn, az_ure, bz_lit, nI_leI, nI_ltI, nI_eq, nI_clamp, nI_add, pk_sub, pk_mul, bz_nlt, bz_nle, bz_ltn, bz_len, bz_neq, bz_eqn, bz_nn, ↓reduceIte, Bool.false_eq_true, if_pos, if_neg, x], by simp (disch := omega) only [bl_lit, lgl, lgg, lgl0, lgg0, lglm, lggm, az_us, az_un, az_ue, az_urn, az_ure, bz_lit, nI_leI, nI_ltI, nI_eq, nI_clamp, nI_add, pk_sub, pk_mul, bz_nlt, bz_nle, bz_ltn, bz_len, bz_neq, bz_eqn, bz_nn, ↓reduceIte, Bool.false_eq_true, if_pos, if_neg, x], h⟩
    · exact ⟨-nI 1, I, I, by simp (disch := omega) only [bl_lit, lgl, lgg, lgl0, lgg0, lglm, lggm, az_us, az_un, az_ue, az_urn, az_ure, bz_lit, nI_leI, nI_ltI, nI_eq, nI_clamp, nI_add, pk_sub, pk_mul, bz_nlt, bz_nle, bz_ltn, bz_len, bz_neq, bz_eqn, bz_nn, ↓reduceIte, Bool.false_eq_true, if_pos, if_neg, x, y, c3], by simp (disch := omega) only [bl_lit, lgl, lgg, lgl0, lgg0, lglm, lggm, az_us, az_un, az_ue, az_urn, az_ure, bz_lit, nI_leI, nI_ltI, nI_eq, nI_clamp, nI_add, pk_sub, pk_mul, bz_nlt, bz_nle, bz_ltn, bz_len, bz_neq, bz_eqn, bz_nn, ↓reduceIte, Bool.false_eq_true, if_pos, if_neg, x, y, c4], h⟩
    · by_cases b0 : t < nI 0
      · exact ⟨-nI 1, I, I, by simp (disch := omega) only [sub_lt, le_sub, bl_lit, lgl, lgg, lgl0, lgg0, lglm, lggm, az_us, az_un, az_ue, az_urn, az_ure, bz_lit, nI_leI, nI_ltI, nI_eq, nI_clamp, nI_add, pk_sub, pk_mul, bz_nlt, bz_nle, bz_ltn, bz_len, bz_neq, bz_eqn, bz_nn, ↓reduceIte, Bool.false_eq_true, if_pos, if_neg, b0, c3], by simp (disch := omega) only [sub_lt, le_sub, bl_lit, lgl, lgg, lgl0, lgg0, lglm, lggm, az_us, az_un, az_ue, az_urn, az_ure, bz_lit, nI_leI, nI_ltI, nI_eq, nI_clamp, nI_add, pk_sub, pk_mul, bz_nlt, bz_nle, bz_ltn, bz_len, bz_neq, bz_eqn, bz_nn, ↓reduceIte, Bool.false_eq_true, if_pos, if_neg, b0, c4], h⟩
      · by_cases b1 : nI 9999 < t
        · exact ⟨-nI 1, I, I, by simp (disch := omega) only [sub_lt, le_sub, bl_lit, lgl, lgg, lgl0, lgg0, lglm, lggm, az_us, az_un, az_ue, az_urn, az_ure, bz_lit, nI_leI, nI_ltI, nI_eq, nI_clamp, nI_add, pk_sub, pk_mul, bz_nlt, bz_nle, bz_ltn, bz_len, bz_neq, bz_eqn, bz_nn, ↓reduceIte, Bool.false_eq_true, if_pos, if_neg, b0, b1, c3], by simp (disch := omega) only [sub_lt, le_sub, bl_lit, lgl, lgg, lgl0, lgg0, lglm, lggm, az_us, az_un, az_ue, az_urn, az_ure, bz_lit, nI_leI, nI_ltI, nI_eq, nI_clamp, nI_add, pk_sub, pk_mul, bz_nlt, bz_nle, bz_ltn, bz_len, bz_neq, bz_eqn, bz_nn, ↓reduceIte, Bool.false_eq_true, if_pos, if_neg, b0, b1, c4], h⟩
        · obtain ⟨I1, r1, f1, p1⟩ := px_set hrl hB qX (w := w) (by omega)
          obtain ⟨g1, g2, g3⟩ := hw w (by omega)
          have k0 : ck 0 < nI 0 := by decide
          obtain ⟨v, I2, I3, x, fx, y, fy⟩ := mt_loop (I0 := I) (I1 := I1) (bX := fun s : (Int32 × (Nat → Nat → Int32)) => rs_X_carry_37_b rd rl a t s.1 s.2) (bM := fun s : (Int32 × (Nat → Nat → Int32)) => rs_M_carry_34_b a (nI w) t s.1 s.2)
            (fun s : Nat => match s with
              | 0 => .inr (-nI 2)
              | n + 1 => if t < nI (am hh (tt L (I 8 w) (nI n) (I 10 w) (I 4 10)) c d) then .inl n else .inr (nI n)) (pX := fun s I => (ck s, I)) (pM := fun s I => (ck s, I)) (fun s => s ≤ 10) (fun s => s) 10 (by omega) (by omega)
            (by
              intro s hs
              (try dsimp only at hs ⊢)
              cases s with
              | zero => exact Or.inr ⟨_, rfl⟩
              | succ n =>
                (try dsimp only)
                by_cases z : t < nI (am hh (tt L (I 8 w) (nI n) (I 10 w) (I 4 10)) c d)
                · exact Or.inl ⟨_, if_pos z, by omega, by omega⟩
                · exact Or.inr ⟨_, if_neg z⟩)
            (PX := fun I' => az_fr scX I I' ∧ ∃ lo, pq I' L hh (I 8 w) lo (I 10 w) (I 4 10)) ⟨f1, _, p1⟩
            (by
              intro s I' hs hP
              obtain ⟨ff, lo, pp⟩ := hP
              (try dsimp only at hs ⊢)
              cases s with
              | zero =>
                refine ⟨I', ⟨ff, lo, pp⟩, Or.inr ⟨_, rfl, ?_⟩⟩
                unfold rs_X_carry_37_b
                simp (disch := omega) only [bl_lit, lgl, lgg, lgl0, lgg0, lglm, lggm, az_us, az_un, az_ue, az_urn, az_ure, bz_lit, nI_leI, nI_ltI, nI_eq, nI_clamp, nI_add, pk_sub, pk_mul, bz_nlt, bz_nle, bz_ltn, bz_len, bz_neq, bz_eqn, bz_nn, ↓reduceIte, Bool.false_eq_true, if_pos, if_neg, k0]
              | succ n =>
                (try dsimp only)
                rw [ck_s n (by omega)]
                obtain ⟨I4, r4, f4, p4⟩ := px_load hrl hB qX ff pp (nI n)
                obtain ⟨I5, r5, f5, p5⟩ := px_min hB f4 p4 hc hd
                refine ⟨I5, ⟨f5, _, p5⟩, ?_⟩
                unfold rs_X_carry_37_b
                rw [e2, e1]
                by_cases z : t < nI (am hh (tt L (I 8 w) (nI n) (I 10 w) (I 4 10)) c d)
                · refine Or.inl ⟨_, if_pos z, by omega, ?_⟩
                  simp (disch := omega) only [bl_lit, lgl, lgg, lgl0, lgg0, lglm, lggm, az_us, az_un, az_ue, az_urn, az_ure, bz_lit, nI_leI, nI_ltI, nI_eq, nI_clamp, nI_add, pk_sub, pk_mul, bz_nlt, bz_nle, bz_ltn, bz_len, bz_neq, bz_eqn, bz_nn, ↓reduceIte, Bool.false_eq_true, if_pos, if_neg, r4, r5, z, ck_m n (by omega)]
                · refine Or.inr ⟨_, if_neg z, ?_⟩
                  simp (disch := omega) only [bl_lit, lgl, lgg, lgl0, lgg0, lglm, lggm, az_us, az_un, az_ue, az_urn, az_ure, bz_lit, nI_leI, nI_ltI, nI_eq, nI_clamp, nI_add, pk_sub, pk_mul, bz_nlt, bz_nle, bz_ltn, bz_len, bz_neq, bz_eqn, bz_nn, ↓reduceIte, Bool.false_eq_true, if_pos, if_neg, r4, r5, z])
            (fun _ q => q.1)
            (by
              intro I0' ff0 s I' hs ff
              (try dsimp only at hs ⊢)
              cases s with
              | zero =>
                refine ⟨I', ff, Or.inr ⟨_, rfl, ?_⟩⟩
                unfold rs_M_carry_34_b
                simp (disch := omega) only [bl_lit, lgl, lgg, lgl0, lgg0, lglm, lggm, az_us, az_un, az_ue, az_urn, az_ure, bz_lit, nI_leI, nI_ltI, nI_eq, nI_clamp, nI_add, pk_sub, pk_mul, bz_nlt, bz_nle, bz_ltn, bz_len, bz_neq, bz_eqn, bz_nn, ↓reduceIte, Bool.false_eq_true, if_pos, if_neg, k0]
              | succ n =>
                (try dsimp only)
                rw [ck_s n (by omega)]
                have qM' := qM.fr (scX_sc ff0)
                obtain ⟨I4, r4, f4, p4⟩ := pm_steps qM' hB ff (I 8 w) (nI n) (I 10 w) (I 4 10)
                obtain ⟨I5, r5, f5, p5⟩ := pm_min (qX.ok hB _ _ _ _) f4 p4 hc hd
                have k2 : I' 74 (160 + w) = I 8 w := by rw [ff 74 (160 + w) (by unfold scM; omega), ff0 74 (160 + w) (by unfold scX; omega)]; exact g1
                have k3 : I' 74 (172 + w) = I 10 w := by rw [ff 74 (172 + w) (by unfold scM; omega), ff0 74 (172 + w) (by unfold scX; omega)]; exact g3
                have k4 : I' 74 178 = I 4 10 := by rw [ff 74 178 (by unfold scM; omega), ff0 74 178 (by unfold scX; omega)]; exact hwe
                refine ⟨I5, f5, ?_⟩
                unfold rs_M_carry_34_b
                rw [e2, e1]
                by_cases z : t < nI (am hh (tt L (I 8 w) (nI n) (I 10 w) (I 4 10)) c d)
                · refine Or.inl ⟨_, if_pos z, by omega, ?_⟩
                  simp (disch := omega) only [bl_lit, lgl, lgg, lgl0, lgg0, lglm, lggm, az_us, az_un, az_ue, az_urn, az_ure, bz_lit, nI_leI, nI_ltI, nI_eq, nI_clamp, nI_add, pk_sub, pk_mul, bz_nlt, bz_nle, bz_ltn, bz_len, bz_neq, bz_eqn, bz_nn, ↓reduceIte, Bool.false_eq_true, if_pos, if_neg, k2, k3, k4, r4, r5, z, ck_m n (by omega)]
                · refine Or.inr ⟨_, if_neg z, ?_⟩
                  simp (disch := omega) only [bl_lit, lgl, lgg, lgl0, lgg0, lglm, lggm, az_us, az_un, az_ue, az_urn, az_ure, bz_lit, nI_leI, nI_ltI, nI_eq, nI_clamp, nI_add, pk_sub, pk_mul, bz_nlt, bz_nle, bz_ltn, bz_len, bz_neq, bz_eqn, bz_nn, ↓reduceIte, Bool.false_eq_true, if_pos, if_neg, k2, k3, k4, r4, r5, z])
          have k10 : ck 10 = nI 9 := by decide
          rw [k10] at x y
          refine mt_mk h v ?_ fx ?_ fy
          · simp (disch := omega) only [sub_lt, le_sub, bl_lit, lgl, lgg, lgl0, lgg0, lglm, lggm, az_us, az_un, az_ue, az_urn, az_ure, bz_lit, nI_leI, nI_ltI, nI_eq, nI_clamp, nI_add, pk_sub, pk_mul, bz_nlt, bz_nle, bz_ltn, bz_len, bz_neq, bz_eqn, bz_nn, ↓reduceIte, Bool.false_eq_true, if_pos, if_neg, b0, b1, c3, r1]
            exact x
          · have c4' : I2 73 7 = nI nw := by rw [fx 73 7 (by unfold scX; omega)]; exact c4
            simp (disch := omega) only [sub_lt, le_sub, bl_lit, lgl, lgg, lgl0, lgg0, lglm, lggm, az_us, az_un, az_ue, az_urn, az_ure, bz_lit, nI_leI, nI_ltI, nI_eq, nI_clamp, nI_add, pk_sub, pk_mul, bz_nlt, bz_nle, bz_ltn, bz_len, bz_neq, bz_eqn, bz_nn, ↓reduceIte, Bool.false_eq_true, if_pos, if_neg, b0, b1, c4']
            exact y
/-- bits shifted down are a small number -/
theorem dr_u (x : Int32) : ∃ m, m < 4096 ∧ (x.toUInt32 >>> ((20 : Int32).toUInt32 &&& Int32.toUInt32 31)).toInt32 = nI m := by
  have q := pk_ushr x 20 20 (by decide)
  have hx : x.toBitVec.toNat < 2 ^ 32 := x.toBitVec.isLt
  refine ⟨x.toBitVec.toNat / 2 ^ 20, by omega, ?_⟩
  apply Int32.toBitVec_inj.mp
  apply BitVec.eq_of_toNat_eq
  rw [q, pk_tn (by omega)]
end

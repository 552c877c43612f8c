/-! step, goes -/
theorem gd_on {c w d : Nat} (hc : c < 144) (hd : d < 144) : gd_o (gd_s c w) = nI d ↔ gd_s c w = some d := by
  cases e : gd_s c w with
  | none =>
    refine ⟨fun q => ?_, fun q => by cases q⟩
    exfalso
    have := (bz_neq (a := 1) (b := d) (by omega) (by omega)).mp q
    omega
  | some o =>
    have ho := gd_lt hc e
    refine ⟨fun q => ?_, fun q => by injection q with q; rw [q]; rfl⟩
    rw [(nI_eq (by omega) (by omega)).mp q]
theorem gd_side {c d : Nat} (hc : c < 144) (hd : d < 144) : ∃ x, rs_X_areSideBySide (nI c) (nI d) = some x ∧ ((x = nI 1 ∧ gd_e c d) ∨ (x = nI 0 ∧ ¬ gd_e c d)) := by
  unfold rs_X_areSideBySide rs_X_areSideBySide_2
  refine az_for0 (fun k (s : Int32) => s = nI k ∧ ∀ w, w < k → gd_s c w ≠ some d) 4 (by omega) ⟨rfl, fun w hw => absurd hw (Nat.not_lt_zero w)⟩ ?_ ?_
  · intro k s hk hs
    obtain ⟨rfl, hs⟩ := hs
    show ∃ o, rs_X_areSideBySide_2_b (nI c) (nI d) (nI k) = some o ∧ _
    unfold rs_X_areSideBySide_2_b
    rw [gd_X c hc k hk]
    by_cases e : gd_s c k = some d
    · have e' := (gd_on (w := k) hc hd).mpr e
      exact az_out (nI 1) (by simp (disch := omega) only [bl_lit, lgl, lgg, lgl0, lgg0, lglm, lggm, az_us, az_un, az_ue, az_urn, az_ure, bz_lit, nI_leI, nI_ltI, nI_eq, nI_clamp, nI_add, pk_sub, pk_mul, bz_nlt, bz_nle, bz_ltn, bz_len, bz_neq, bz_eqn, bz_nn, ↓reduceIte, Bool.false_eq_true, if_pos, if_neg, e']) (Or.inl ⟨rfl, k, hk, e⟩)
    · have e' : ¬ gd_o (gd_s c k) = nI d := fun q => e ((gd_on hc hd).mp q)
      refine az_nxt (nI (k + 1)) (by simp (disch := omega) only [bl_lit, lgl, lgg, lgl0, lgg0, lglm, lggm, az_us, az_un, az_ue, az_urn, az_ure, bz_lit, nI_leI, nI_ltI, nI_eq, nI_clamp, nI_add, pk_sub, pk_mul, bz_nlt, bz_nle, bz_ltn, bz_len, bz_neq, bz_eqn, bz_nn, ↓reduceIte, Bool.false_eq_true, if_pos, if_neg, e']) ⟨rfl, fun w hw => ?_⟩
      by_cases z : w = k
      · subst z; exact e
      · exact hs w (by omega)
  · intro s hs
    obtain ⟨rfl, hs⟩ := hs
    refine ⟨nI 0, ?_, Or.inr ⟨rfl, fun ⟨w, hw, q⟩ => hs w hw q⟩⟩
    show rs_X_areSideBySide_2_b (nI c) (nI d) (nI 4) = _
    unfold rs_X_areSideBySide_2_b
    simp (disch := omega) only [bl_lit, lgl, lgg, lgl0, lgg0, lglm, lggm, az_us, az_un, az_ue, az_urn, az_ure, bz_lit, nI_leI, nI_ltI, nI_eq, nI_clamp, nI_add, pk_sub, pk_mul, bz_nlt, bz_nle, bz_ltn, bz_len, bz_neq, bz_eqn, bz_nn, ↓reduceIte, Bool.false_eq_true, if_pos, if_neg]
theorem tt_at {L : lw_T} {he lo sh we : Int32} {a b : Nat} (hb : b < 10) : tt L he lo sh we (10 * a + b) = L (nI b - nI a) he lo sh we (nI b) := by
  unfold tt
  rw [show (10 * a + b) % 10 = b from by omega, show (10 * a + b) / 10 = a from by omega]
section
variable {I : Nat → Nat → Int32} {J : Nat → Nat → Int64} {rl rd : Nat}
theorem px_step {L : lw_T} {h pc pt : Nat → Nat} (hrl : rl = 16 ∨ rl = 21) (q : wX I rl L h pc pt) {w c d : Nat} (hw : w < 6) (hc : c < 144) (hd : d < 144) : ∃ I', rs_X_stepMinutes rl I (nI w) (nI c) (nI d) = some (nI (tt L (I 8 w) (I 9 w) (I 10 w) (I 4 10) (10 * h c + h d)), I') ∧ az_fr scX I I' := by
  obtain ⟨a1, a2⟩ := q.2.1 c hc
  obtain ⟨b1, b2⟩ := q.2.1 d hd
  obtain ⟨I', r, f⟩ := q.1 I (fun _ _ _ => rfl) (nI (h d) - nI (h c)) (I 8 w) (I 9 w) (I 10 w) (I 4 10) (nI (h d))
  refine ⟨I', ?_, f.mono (fun r k q => by (try dsimp only at q); unfold scX; omega)⟩
  unfold rs_X_stepMinutes
  rw [nI_clamp (n := c) (by omega), nI_clamp (n := d) (by omega), nI_clamp (n := w) (by omega), a1, b1, r, tt_at b2]
  simp (disch := omega) only [bl_lit, lgl, lgg, lgl0, lgg0, lglm, lggm, az_us, az_un, az_ue, az_urn, az_ure, bz_lit, nI_leI, nI_ltI, nI_eq, nI_clamp, nI_add, pk_sub, pk_mul, bz_nlt, bz_nle, bz_ltn, bz_len, bz_neq, bz_eqn, bz_nn, ↓reduceIte, Bool.false_eq_true, if_pos, if_neg]
theorem mt_step (h : Rel I J rl rd) (a b : Int32) : mt (rs_X_step rl I a b) (fun I => rs_M_step I a b) J rl rd := by
  obtain ⟨np, nw, L, hh, pc, pt, n1, n2, ⟨c1, c2, c3, c4⟩, hrl, hB, qX, qM, hw, hwe⟩ := h.w
  unfold rs_X_step rs_M_step
  rcases ix_ft (a := a) with ⟨x, y⟩ | ⟨x, y, c, d, hc, hd, _, e1, e2⟩
  · rw [x, y]
    exact ⟨_, I, I, rfl, rfl, h⟩
  · rw [x, y, e2, e1]
    rcases ix b nw (by omega) with x | ⟨x, y⟩ | ⟨w, hww, rfl⟩
    · exact ⟨-nI 1, I, I, by simp (disch := omega) only [bl_lit, lgl, lgg, lgl0, lgg0, lglm, lggm, az_us, az_un, az_ue, az_urn, az_ure, bz_lit, nI_leI, nI_ltI, nI_eq, nI_clamp, nI_add, pk_sub, pk_mul, bz_nlt, bz_nle, bz_ltn, bz_len, bz_neq, bz_eqn, bz_nn, ↓reduceIte, Bool.false_eq_true, if_pos, if_neg, x], by simp (disch := omega) only [bl_lit, lgl, lgg, lgl0, lgg0, lglm, lggm, az_us, az_un, az_ue, az_urn, az_ure, bz_lit, nI_leI, nI_ltI, nI_eq, nI_clamp, nI_add, pk_sub, pk_mul, bz_nlt, bz_nle, bz_ltn, bz_len, bz_neq, bz_eqn, bz_nn, ↓reduceIte, Bool.false_eq_true, if_pos, if_neg, x], h⟩
    · exact ⟨-nI 1, I, I, by simp (disch := omega) only [bl_lit, lgl, lgg, lgl0, lgg0, lglm, lggm, az_us, az_un, az_ue, az_urn, az_ure, bz_lit, nI_leI, nI_ltI, nI_eq, nI_clamp, nI_add, pk_sub, pk_mul, bz_nlt, bz_nle, bz_ltn, bz_len, bz_neq, bz_eqn, bz_nn, ↓reduceIte, Bool.false_eq_true, if_pos, if_neg, x, y, c3], by simp (disch := omega) only [bl_lit, lgl, lgg, lgl0, lgg0, lglm, lggm, az_us, az_un, az_ue, az_urn, az_ure, bz_lit, nI_leI, nI_ltI, nI_eq, nI_clamp, nI_add, pk_sub, pk_mul, bz_nlt, bz_nle, bz_ltn, bz_len, bz_neq, bz_eqn, bz_nn, ↓reduceIte, Bool.false_eq_true, if_pos, if_neg, x, y, c4], h⟩
    · have loop : ∀ I : Nat → Nat → Int32, ∃ v3, ((v3 = nI 1 ∧ gd_e c d) ∨ (v3 = nI 0 ∧ ¬ gd_e c d)) ∧ ∀ z, rs_M_step_63 I a (nI w) v3 = some z → rs_M_step_23 I a (nI w) (nI 0) (nI 0) = some z := by
        intro I
        by_cases ge : gd_e c d
        · refine ⟨nI 1, Or.inl ⟨rfl, ge⟩, fun z hz => ?_⟩
          unfold rs_M_step_23
          have main : ∃ x, az_lp (fun s : (Int32 × Int32) => rs_M_step_23_b I a (nI w) s.1 s.2) 100000 (nI 0, nI 0) = some x ∧ x = z := by
            refine az_for0 (fun k (s : Int32 × Int32) => s.2 = nI k ∧ ((s.1 = nI 1 ∧ ∃ w, w < k ∧ gd_s c w = some d) ∨ (s.1 = nI 0 ∧ ∀ w, w < k → gd_s c w ≠ some d))) 4 (by omega) ⟨rfl, Or.inr ⟨rfl, fun w hw => absurd hw (Nat.not_lt_zero w)⟩⟩ ?_ ?_
            · intro k s hk hs
              obtain ⟨v3, v4⟩ := s
              obtain ⟨e, hs⟩ := hs
              (try dsimp only at e hs)
              subst e
              show ∃ o, rs_M_step_23_b I a (nI w) v3 (nI k) = some o ∧ _
              unfold rs_M_step_23_b
              rw [e2, e1, gd_M c hc k hk]
              rcases hs with ⟨rfl, w', hw', q⟩ | ⟨rfl, q⟩
              · exact az_nxt (nI 1, nI (k + 1)) (by simp (disch := omega) only [bl_lit, lgl, lgg, lgl0, lgg0, lglm, lggm, az_us, az_un, az_ue, az_urn, az_ure, bz_lit, nI_leI, nI_ltI, nI_eq, nI_clamp, nI_add, pk_sub, pk_mul, bz_nlt, bz_nle, bz_ltn, bz_len, bz_neq, bz_eqn, bz_nn, ↓reduceIte, Bool.false_eq_true, if_pos, if_neg]) ⟨rfl, Or.inl ⟨rfl, w', by omega, q⟩⟩
              · by_cases e : gd_s c k = some d
                · have e' : gd_o (gd_s c k) = nI d := (gd_on (w := k) hc hd).mpr e
                  exact az_nxt (nI 1, nI (k + 1)) (by simp (disch := omega) only [bl_lit, lgl, lgg, lgl0, lgg0, lglm, lggm, az_us, az_un, az_ue, az_urn, az_ure, bz_lit, nI_leI, nI_ltI, nI_eq, nI_clamp, nI_add, pk_sub, pk_mul, bz_nlt, bz_nle, bz_ltn, bz_len, bz_neq, bz_eqn, bz_nn, ↓reduceIte, Bool.false_eq_true, if_pos, if_neg, e']) ⟨rfl, Or.inl ⟨rfl, k, by omega, e⟩⟩
                · have e' : ¬ gd_o (gd_s c k) = nI d := fun z => e ((gd_on hc hd).mp z)
                  refine az_nxt (nI 0, nI (k + 1)) (by simp (disch := omega) only [bl_lit, lgl, lgg, lgl0, lgg0, lglm, lggm, az_us, az_un, az_ue, az_urn, az_ure, bz_lit, nI_leI, nI_ltI, nI_eq, nI_clamp, nI_add, pk_sub, pk_mul, bz_nlt, bz_nle, bz_ltn, bz_len, bz_neq, bz_eqn, bz_nn, ↓reduceIte, Bool.false_eq_true, if_pos, if_neg, e']) ⟨rfl, Or.inr ⟨rfl, fun w' hw' => ?_⟩⟩
                  by_cases z : w' = k
                  · subst z; exact e
                  · exact q w' (by omega)
            · intro s hs
              obtain ⟨v3, v4⟩ := s
              obtain ⟨e, hs⟩ := hs
              (try dsimp only at e hs)
              subst e
              refine ⟨z, ?_, rfl⟩
              show rs_M_step_23_b I a (nI w) v3 (nI 4) = _
              unfold rs_M_step_23_b
              rcases hs with ⟨rfl, w', hw', q⟩ | ⟨rfl, q⟩
              · rw [hz]
                simp (disch := omega) only [bl_lit, lgl, lgg, lgl0, lgg0, lglm, lggm, az_us, az_un, az_ue, az_urn, az_ure, bz_lit, nI_leI, nI_ltI, nI_eq, nI_clamp, nI_add, pk_sub, pk_mul, bz_nlt, bz_nle, bz_ltn, bz_len, bz_neq, bz_eqn, bz_nn, ↓reduceIte, Bool.false_eq_true, if_pos, if_neg, Option.map_some]
              · obtain ⟨w', hw', ge⟩ := ge
                exact absurd ge (q w' hw')
          obtain ⟨x, hx, rfl⟩ := main
          exact hx
        · refine ⟨nI 0, Or.inr ⟨rfl, ge⟩, fun z hz => ?_⟩
          unfold rs_M_step_23
          have main : ∃ x, az_lp (fun s : (Int32 × Int32) => rs_M_step_23_b I a (nI w) s.1 s.2) 100000 (nI 0, nI 0) = some x ∧ x = z := by
            refine az_for0 (fun k (s : Int32 × Int32) => s.2 = nI k ∧ s.1 = nI 0) 4 (by omega) ⟨rfl, rfl⟩ ?_ ?_
            · intro k s hk hs
              obtain ⟨v3, v4⟩ := s
              obtain ⟨e, hs⟩ := hs
              (try dsimp only at e hs)
              subst e hs
              show ∃ o, rs_M_step_23_b I a (nI w) (nI 0) (nI k) = some o ∧ _
              unfold rs_M_step_23_b
              rw [e2, e1, gd_M c hc k hk]
              have e' : ¬ gd_o (gd_s c k) = nI d := fun z => ge ⟨k, hk, (gd_on hc hd).mp z⟩
              exact az_nxt (nI 0, nI (k + 1)) (by simp (disch := omega) only [bl_lit, lgl, lgg, lgl0, lgg0, lglm, lggm, az_us, az_un, az_ue, az_urn, az_ure, bz_lit, nI_leI, nI_ltI, nI_eq, nI_clamp, nI_add, pk_sub, pk_mul, bz_nlt, bz_nle, bz_ltn, bz_len, bz_neq, bz_eqn, bz_nn, ↓reduceIte, Bool.false_eq_true, if_pos, if_neg, e']) ⟨rfl, rfl⟩
            · intro s hs
              obtain ⟨v3, v4⟩ := s
              obtain ⟨e, hs⟩ := hs
              (try dsimp only at e hs)
              subst e hs
              refine ⟨z, ?_, rfl⟩
              show rs_M_step_23_b I a (nI w) (nI 0) (nI 4) = _
              unfold rs_M_step_23_b
              rw [hz]
              simp (disch := omega) only [bl_lit, lgl, lgg, lgl0, lgg0, lglm, lggm, az_us, az_un, az_ue, az_urn, az_ure, bz_lit, nI_leI, nI_ltI, nI_eq, nI_clamp, nI_add, pk_sub, pk_mul, bz_nlt, bz_nle, bz_ltn, bz_len, bz_neq, bz_eqn, bz_nn, ↓reduceIte, Bool.false_eq_true, if_pos, if_neg, Option.map_some]
          obtain ⟨x, hx, rfl⟩ := main
          exact hx
      obtain ⟨sx, sx1, sx2⟩ := gd_side hc hd
      rcases sx2 with ⟨rfl, ge⟩ | ⟨rfl, ge⟩
      · obtain ⟨I1, r1, f1⟩ := px_step hrl qX (w := w) (by omega) hc hd
        have qM' := qM.fr (scX_sc f1)
        obtain ⟨I2, r2, f2, p2⟩ := pm_for qM' hB az_fr.refl (w := w) (by omega)
        obtain ⟨g1, g2, g3⟩ := hw w (by omega)
        rw [f1 74 (160 + w) (by unfold scX; omega), f1 74 (166 + w) (by unfold scX; omega), f1 74 (172 + w) (by unfold scX; omega), f1 74 178 (by unfold scX; omega), g1, g2, g3, hwe] at p2
        obtain ⟨v3, hv, hl⟩ := loop I1
        have hv3 : v3 = nI 1 := by
          rcases hv with ⟨q, _⟩ | ⟨_, q⟩
          · exact q
          · exact absurd ge q
        subst hv3
        obtain ⟨a1, a2⟩ := p2.1 c hc
        obtain ⟨b1, b2⟩ := p2.1 d hd
        obtain ⟨t1, _⟩ := p2.2 (10 * hh c + hh d) (by omega)
        refine mt_mk h (nI (tt L (I 8 w) (I 9 w) (I 10 w) (I 4 10) (10 * hh c + hh d))) ?_ f1 ?_ f2
        · simp (disch := omega) only [sub_lt, le_sub, bl_lit, lgl, lgg, lgl0, lgg0, lglm, lggm, az_us, az_un, az_ue, az_urn, az_ure, bz_lit, nI_leI, nI_ltI, nI_eq, nI_clamp, nI_add, pk_sub, pk_mul, bz_nlt, bz_nle, bz_ltn, bz_len, bz_neq, bz_eqn, bz_nn, ↓reduceIte, Bool.false_eq_true, if_pos, if_neg, c3, sx1, r1]
        · have c4' : I1 73 7 = nI nw := by rw [f1 73 7 (by unfold scX; omega)]; exact c4
          simp (disch := omega) only [sub_lt, le_sub, bl_lit, lgl, lgg, lgl0, lgg0, lglm, lggm, az_us, az_un, az_ue, az_urn, az_ure, bz_lit, nI_leI, nI_ltI, nI_eq, nI_clamp, nI_add, pk_sub, pk_mul, bz_nlt, bz_nle, bz_ltn, bz_len, bz_neq, bz_eqn, bz_nn, ↓reduceIte, Bool.false_eq_true, if_pos, if_neg, c4']
          refine hl _ ?_
          unfold rs_M_step_63
          rw [r2, e2, e1]
          simp (disch := omega) only [sub_lt, le_sub, bl_lit, lgl, lgg, lgl0, lgg0, lglm, lggm, az_us, az_un, az_ue, az_urn, az_ure, bz_lit, nI_leI, nI_ltI, nI_eq, nI_clamp, nI_add, pk_sub, pk_mul, bz_nlt, bz_nle, bz_ltn, bz_len, bz_neq, bz_eqn, bz_nn, ↓reduceIte, Bool.false_eq_true, if_pos, if_neg, a1, b1, t1]
      · obtain ⟨v3, hv, hl⟩ := loop I
        have hv3 : v3 = nI 0 := by
          rcases hv with ⟨_, q⟩ | ⟨q, _⟩
          · exact absurd q ge
          · exact q
        subst hv3
        refine ⟨-nI 1, I, I, ?_, ?_, h⟩
        · simp (disch := omega) only [sub_lt, le_sub, bl_lit, lgl, lgg, lgl0, lgg0, lglm, lggm, az_us, az_un, az_ue, az_urn, az_ure, bz_lit, nI_leI, nI_ltI, nI_eq, nI_clamp, nI_add, pk_sub, pk_mul, bz_nlt, bz_nle, bz_ltn, bz_len, bz_neq, bz_eqn, bz_nn, ↓reduceIte, Bool.false_eq_true, if_pos, if_neg, c3, sx1]
        · simp (disch := omega) only [sub_lt, le_sub, bl_lit, lgl, lgg, lgl0, lgg0, lglm, lggm, az_us, az_un, az_ue, az_urn, az_ure, bz_lit, nI_leI, nI_ltI, nI_eq, nI_clamp, nI_add, pk_sub, pk_mul, bz_nlt, bz_nle, bz_ltn, bz_len, bz_neq, bz_eqn, bz_nn, ↓reduceIte, Bool.false_eq_true, if_pos, if_neg, c4]
          refine hl _ ?_
          unfold rs_M_step_63
          simp (disch := omega) only [bl_lit, lgl, lgg, lgl0, lgg0, lglm, lggm, az_us, az_un, az_ue, az_urn, az_ure, bz_lit, nI_leI, nI_ltI, nI_eq, nI_clamp, nI_add, pk_sub, pk_mul, bz_nlt, bz_nle, bz_ltn, bz_len, bz_neq, bz_eqn, bz_nn, ↓reduceIte, Bool.false_eq_true, if_pos, if_neg]
theorem mt_goes (h : Rel I J rl rd) (a b : Int32) : mt (rs_X_goes rl I a b) (fun I => rs_M_goes I a b) J rl rd := by
  obtain ⟨np, nw, L, hh, pc, pt, n1, n2, ⟨c1, c2, c3, c4⟩, hrl, hB, qX, qM, hw, hwe⟩ := h.w
  unfold rs_X_goes rs_M_goes
  rcases ix a nw (by omega) with x | ⟨x, y⟩ | ⟨w, hww, rfl⟩
  · exact ⟨-nI 1, I, I, by simp (disch := omega) only [bl_lit, lgl, lgg, lgl0, lgg0, lglm, lggm, az_us, az_un, az_ue, az_urn, az_ure, bz_lit, nI_leI, nI_ltI, nI_eq, nI_clamp, nI_add, pk_sub, pk_mul, bz_nlt, bz_nle, bz_ltn, bz_len, bz_neq, bz_eqn, bz_nn, ↓reduceIte, Bool.false_eq_true, if_pos, if_neg, x], by simp (disch := omega) only [bl_lit, lgl, lgg, lgl0, lgg0, lglm, lggm, az_us, az_un, az_ue, az_urn, az_ure, bz_lit, nI_leI, nI_ltI, nI_eq, nI_clamp, nI_add, pk_sub, pk_mul, bz_nlt, bz_nle, bz_ltn, bz_len, bz_neq, bz_eqn, bz_nn, ↓reduceIte, Bool.false_eq_true, if_pos, if_neg, x], h⟩
  · exact ⟨-nI 1, I, I, by simp (disch := omega) only [bl_lit, lgl, lgg, lgl0, lgg0, lglm, lggm, az_us, az_un, az_ue, az_urn, az_ure, bz_lit, nI_leI, nI_ltI, nI_eq, nI_clamp, nI_add, pk_sub, pk_mul, bz_nlt, bz_nle, bz_ltn, bz_len, bz_neq, bz_eqn, bz_nn, ↓reduceIte, Bool.false_eq_true, if_pos, if_neg, x, y, c3], by simp (disch := omega) only [bl_lit, lgl, lgg, lgl0, lgg0, lglm, lggm, az_us, az_un, az_ue, az_urn, az_ure, bz_lit, nI_leI, nI_ltI, nI_eq, nI_clamp, nI_add, pk_sub, pk_mul, bz_nlt, bz_nle, bz_ltn, bz_len, bz_neq, bz_eqn, bz_nn, ↓reduceIte, Bool.false_eq_true, if_pos, if_neg, x, y, c4], h⟩
  · rcases ixc b 3 (by omega) with x | ⟨x, y⟩ | ⟨s, hs, rfl⟩
    · exact ⟨-nI 1, I, I, by simp (disch := omega) only [sub_lt, le_sub, bl_lit, lgl, lgg, lgl0, lgg0, lglm, lggm, az_us, az_un, az_ue, az_urn, az_ure, bz_lit, nI_leI, nI_ltI, nI_eq, nI_clamp, nI_add, pk_sub, pk_mul, bz_nlt, bz_nle, bz_ltn, bz_len, bz_neq, bz_eqn, bz_nn, ↓reduceIte, Bool.false_eq_true, if_pos, if_neg, x, c3], by simp (disch := omega) only [sub_lt, le_sub, bl_lit, lgl, lgg, lgl0, lgg0, lglm, lggm, az_us, az_un, az_ue, az_urn, az_ure, bz_lit, nI_leI, nI_ltI, nI_eq, nI_clamp, nI_add, pk_sub, pk_mul, bz_nlt, bz_nle, bz_ltn, bz_len, bz_neq, bz_eqn, bz_nn, ↓reduceIte, Bool.false_eq_true, if_pos, if_neg, x, c4], h⟩
    · exact ⟨-nI 1, I, I, by simp (disch := omega) only [sub_lt, le_sub, bl_lit, lgl, lgg, lgl0, lgg0, lglm, lggm, az_us, az_un, az_ue, az_urn, az_ure, bz_lit, nI_leI, nI_ltI, nI_eq, nI_clamp, nI_add, pk_sub, pk_mul, bz_nlt, bz_nle, bz_ltn, bz_len, bz_neq, bz_eqn, bz_nn, ↓reduceIte, Bool.false_eq_true, if_pos, if_neg, x, y, c3], by simp (disch := omega) only [sub_lt, le_sub, bl_lit, lgl, lgg, lgl0, lgg0, lglm, lggm, az_us, az_un, az_ue, az_urn, az_ure, bz_lit, nI_leI, nI_ltI, nI_eq, nI_clamp, nI_add, pk_sub, pk_mul, bz_nlt, bz_nle, bz_ltn, bz_len, bz_neq, bz_eqn, bz_nn, ↓reduceIte, Bool.false_eq_true, if_pos, if_neg, x, y, c4], h⟩
    · obtain ⟨⟨c, hc, s2, s3⟩, s4, s5⟩ := h.2.2.2.2.1 w (by omega)
      have x1 := gd_X c hc s (by omega)
      have x2 := gd_M c hc s (by omega)
      cases hgs : gd_s c s with
      | none =>
        rw [hgs] at x1 x2
        exact ⟨-nI 5, I, I, by simp (disch := omega) only [sub_lt, le_sub, bl_lit, lgl, lgg, lgl0, lgg0, lglm, lggm, az_us, az_un, az_ue, az_urn, az_ure, bz_lit, nI_leI, nI_ltI, nI_eq, nI_clamp, nI_add, pk_sub, pk_mul, bz_nlt, bz_nle, bz_ltn, bz_len, bz_neq, bz_eqn, bz_nn, ↓reduceIte, Bool.false_eq_true, if_pos, if_neg, c3, s2, x1, gd_o], by simp (disch := omega) only [sub_lt, le_sub, bl_lit, lgl, lgg, lgl0, lgg0, lglm, lggm, az_us, az_un, az_ue, az_urn, az_ure, bz_lit, nI_leI, nI_ltI, nI_eq, nI_clamp, nI_add, pk_sub, pk_mul, bz_nlt, bz_nle, bz_ltn, bz_len, bz_neq, bz_eqn, bz_nn, ↓reduceIte, Bool.false_eq_true, if_pos, if_neg, c4, s3, x2, gd_o], h⟩
      | some d =>
        rw [hgs] at x1 x2
        have hd := gd_lt hc hgs
        obtain ⟨I1, r1, f1⟩ := px_step hrl qX (w := w) (by omega) hc hd
        have vle := (hB (nI (hh d) - nI (hh c)) (I 8 w) (I 9 w) (I 10 w) (I 4 10) (nI (hh d)))
        have e12 := f1 12 w (by unfold scX; omega)
        have e13 := f1 13 0 (by unfold scX; omega)
        have e131 := f1 13 1 (by unfold scX; omega)
        generalize hT : tt L (I 8 w) (I 9 w) (I 10 w) (I 4 10) (10 * hh c + hh d) = T at r1
        generalize hI2 : az_u (az_u (az_u (az_u I1 11 w (nI d)) 12 w (I1 12 w + nI T)) 13 0 (I1 13 0 + nI 1)) 13 1 (I1 13 1 + nI T) = I2
        have f2 : az_fr (fun r k => scX r k ∨ (r = 11 ∧ k = w) ∨ (r = 12 ∧ k = w) ∨ (r = 13 ∧ k < 2)) I I2 := by
          rw [← hI2]
          refine ((((f1.mono (fun r k q => Or.inl q)).u ?_).u ?_).u ?_).u ?_ <;> right <;> omega
        have qM' : wM I2 L hh pc pt := ⟨qM.1.fr (f2 73 13 (by unfold scX; omega)) (fun k => f2 81 k (by unfold scX; omega)), fun c hc => by rw [f2 74 c (by unfold scX; omega)]; exact qM.2.1 c hc, fun k hk => by rw [f2 74 (144 + k) (by unfold scX; omega), f2 74 (152 + k) (by unfold scX; omega)]; exact qM.2.2 k hk⟩
        obtain ⟨I3, r3, f3, p3⟩ := pm_for qM' hB az_fr.refl (w := w) (by omega)
        obtain ⟨g1, g2, g3⟩ := hw w (by omega)
        rw [f2 74 (160 + w) (by unfold scX; omega), f2 74 (166 + w) (by unfold scX; omega), f2 74 (172 + w) (by unfold scX; omega), f2 74 178 (by unfold scX; omega), g1, g2, g3, hwe] at p3
        obtain ⟨a1, a2⟩ := p3.1 c hc
        obtain ⟨b1, b2⟩ := p3.1 d hd
        obtain ⟨t1, _⟩ := p3.2 (10 * hh c + hh d) (by omega)
        rw [hT] at t1
        have k78 : I3 78 w = nI c := by rw [f3 78 w (by unfold scM; omega), f2 78 w (by unfold scX; omega)]; exact s3
        have k79 : I3 79 w = I 12 w := by rw [f3 79 w (by unfold scM; omega), f2 79 w (by unfold scX; omega)]; exact s4
        have h6 := h.2.2.2.2.2.1
        have k910 : I3 91 0 = I 13 0 := by rw [f3 91 0 (by unfold scM; omega), f2 91 0 (by unfold scX; omega)]; exact h6 0 (by omega)
        have k911 : I3 91 1 = I 13 1 := by rw [f3 91 1 (by unfold scM; omega), f2 91 1 (by unfold scX; omega)]; exact h6 1 (by omega)
        have f3' : az_fr (fun r k => sc r k ∨ (r = 11 ∧ k = w) ∨ (r = 12 ∧ k = w) ∨ (r = 13 ∧ k < 2)) I I3 := (f2.mono (fun r k q => by (try dsimp only at q ⊢); unfold scX at q; unfold sc; omega)).trans (f3.mono (fun r k q => by (try dsimp only); unfold scM at q; unfold sc; omega))
        have hf : az_fr (fun r k => sc r k ∨ (r = 11 ∧ k = w) ∨ (r = 12 ∧ k = w) ∨ (r = 13 ∧ k < 2) ∨ (r = 78 ∧ k = w) ∨ (r = 79 ∧ k = w) ∨ (r = 91 ∧ k < 2)) I (az_u (az_u (az_u (az_u I3 78 w (nI d)) 79 w (I3 79 w + nI T)) 91 0 (I3 91 0 + nI 1)) 91 1 (I3 91 1 + nI T)) := by
          refine ((((f3'.mono (fun r k q => q.elim (fun z => Or.inl z) (fun z => Or.inr (by omega)))).u ?_).u ?_).u ?_).u ?_ <;> right <;> omega
        have kx : ∀ r k, r < 73 → r ≠ 19 → r ≠ 20 → r ≠ 24 → r ≠ 25 → ¬ (26 ≤ r ∧ r ≤ 43) → r ≠ 59 → r ≠ 60 → az_u (az_u (az_u (az_u I3 78 w (nI d)) 79 w (I3 79 w + nI T)) 91 0 (I3 91 0 + nI 1)) 91 1 (I3 91 1 + nI T) r k = I2 r k := by
          intro r k q1 q2 q3 q4 q5 q6 q7 q8
          rw [az_un (by omega), az_un (by omega), az_un (by omega), az_un (by omega), f3 r k (by unfold scM; omega)]
        obtain ⟨h1, h2, h3, h4, h5, h6, h7, h8, h9, h10, h11, h12⟩ := h
        refine ⟨nI T, I2, az_u (az_u (az_u (az_u I3 78 w (nI d)) 79 w (I3 79 w + nI T)) 91 0 (I3 91 0 + nI 1)) 91 1 (I3 91 1 + nI T), ?_, ?_, ?_⟩
        · simp (disch := omega) only [sub_lt, le_sub, bl_lit, lgl, lgg, lgl0, lgg0, lglm, lggm, az_us, az_un, az_ue, az_urn, az_ure, bz_lit, nI_leI, nI_ltI, nI_eq, nI_clamp, nI_add, pk_sub, pk_mul, bz_nlt, bz_nle, bz_ltn, bz_len, bz_neq, bz_eqn, bz_nn, ↓reduceIte, Bool.false_eq_true, if_pos, if_neg, c3, s2, x1, gd_o, r1]
          rw [hI2]
        · have c4' : I2 73 7 = nI nw := by rw [f2 73 7 (by unfold scX; omega)]; exact c4
          have s3' : I2 78 w = nI c := by rw [f2 78 w (by unfold scX; omega)]; exact s3
          simp (disch := omega) only [sub_lt, le_sub, bl_lit, lgl, lgg, lgl0, lgg0, lglm, lggm, az_us, az_un, az_ue, az_urn, az_ure, bz_lit, nI_leI, nI_ltI, nI_eq, nI_clamp, nI_add, pk_sub, pk_mul, bz_nlt, bz_nle, bz_ltn, bz_len, bz_neq, bz_eqn, bz_nn, ↓reduceIte, Bool.false_eq_true, if_pos, if_neg, c4', s3', x2, gd_o, r3, k78, a1, b1, t1]
        · refine ⟨h1.fr ?_, h2.fr ?_, h3.fr ?_, h4.fr ?_, fun w' hw' => ?_, fun k hk => ?_, h7.fr ?_, h8.fr ?_, h9.fr ?_, h10.fr ?_, h11.fr ?_, h12.fr ?_⟩
          · intro r k q; exact hf r k (by unfold S_cnt at q; (try dsimp only); unfold sc; omega)
          · intro r k q; exact hf r k (by unfold S_hts at q; (try dsimp only); unfold sc; omega)
          · intro r k q; exact hf r k (by unfold S_pst at q; (try dsimp only); unfold sc; omega)
          · intro r k q; exact hf r k (by unfold S_wlk at q; (try dsimp only); unfold sc; omega)
          · rw [kx 11 w' (by omega) (by omega) (by omega) (by omega) (by omega) (by omega) (by omega) (by omega), kx 12 w' (by omega) (by omega) (by omega) (by omega) (by omega) (by omega) (by omega) (by omega), hf 4 9 (by (try dsimp only); unfold sc; omega)]
            by_cases e : w' = w
            · subst e
              rw [← hI2]
              simp (disch := omega) only [bl_lit, lgl, lgg, lgl0, lgg0, lglm, lggm, az_us, az_un, az_ue, az_urn, az_ure, bz_lit, nI_leI, nI_ltI, nI_eq, nI_clamp, nI_add, pk_sub, pk_mul, bz_nlt, bz_nle, bz_ltn, bz_len, bz_neq, bz_eqn, bz_nn, ↓reduceIte, Bool.false_eq_true, if_pos, if_neg, k79, e12]
              refine ⟨⟨d, hd, rfl, rfl⟩, trivial, fun q => ?_⟩
              rw [c3, nI_toInt (by omega)] at q
              omega
            · have e11 : I2 11 w' = I 11 w' := f2 11 w' (by (try dsimp only); unfold scX; omega)
              have e12 : I2 12 w' = I 12 w' := f2 12 w' (by (try dsimp only); unfold scX; omega)
              rw [e11, e12, hf 78 w' (by (try dsimp only); unfold sc; omega), hf 79 w' (by (try dsimp only); unfold sc; omega)]
              exact h5 w' hw'
          · rw [kx 13 k (by omega) (by omega) (by omega) (by omega) (by omega) (by omega) (by omega) (by omega)]
            by_cases e0 : k = 0
            · subst e0
              rw [← hI2]
              simp (disch := omega) only [bl_lit, lgl, lgg, lgl0, lgg0, lglm, lggm, az_us, az_un, az_ue, az_urn, az_ure, bz_lit, nI_leI, nI_ltI, nI_eq, nI_clamp, nI_add, pk_sub, pk_mul, bz_nlt, bz_nle, bz_ltn, bz_len, bz_neq, bz_eqn, bz_nn, ↓reduceIte, Bool.false_eq_true, if_pos, if_neg, k910, e13]
            · by_cases e1 : k = 1
              · subst e1
                rw [← hI2]
                simp (disch := omega) only [bl_lit, lgl, lgg, lgl0, lgg0, lglm, lggm, az_us, az_un, az_ue, az_urn, az_ure, bz_lit, nI_leI, nI_ltI, nI_eq, nI_clamp, nI_add, pk_sub, pk_mul, bz_nlt, bz_nle, bz_ltn, bz_len, bz_neq, bz_eqn, bz_nn, ↓reduceIte, Bool.false_eq_true, if_pos, if_neg, k911, e131]
              · rw [hf 91 k (by (try dsimp only); unfold sc; omega), f2 13 k (by (try dsimp only); unfold scX; omega)]
                exact h6 k hk
          · intro r k q; exact hf r k (by unfold S_tap at q; (try dsimp only); unfold sc; omega)
          · intro r k q; exact hf r k (by unfold S_law at q; (try dsimp only); unfold sc; omega)
          · intro r k q; exact hf r k (by unfold S_chg at q; (try dsimp only); unfold sc; omega)
          · intro r k q; exact hf r k (by unfold S_img at q; (try dsimp only); unfold sc; omega)
          · intro r k q; exact hf r k (by unfold S_bod at q; (try dsimp only); unfold sc; omega)
          · intro r k q; exact hf r k (by unfold S_shf at q; (try dsimp only); unfold sc; omega)
end

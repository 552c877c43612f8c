/-! together, withWhom, reach, meet -/
def tm (t u : Nat → Nat) (k : Nat) : Nat := if t k < u k then u k else t k
theorem tm_ok {h t u : Nat → Nat} (a : th_ok h t) (b : th_ok h u) : th_ok h (tm t u) := ⟨a.1, fun k hk => by
  unfold tm
  split
  · exact b.2 k hk
  · exact a.2 k hk⟩
theorem pc_slow {I : Nat → Nat → Int32} : ∃ I', rs_Pa_slowTo 29 26 I = some I' ∧ az_fr (fun r _ => r = 30) I I' ∧ ∀ k, k < 100 → I' 30 k = if I 30 k < I 27 k then I 27 k else I 30 k := by
  unfold rs_Pa_slowTo rs_Pa_slowTo_2
  refine az_for0 (fun k (z : Int32 × (Nat → Nat → Int32)) => z.1 = nI k ∧ az_fr (fun r _ => r = 30) I z.2 ∧ (∀ j, j < k → z.2 30 j = if I 30 j < I 27 j then I 27 j else I 30 j) ∧ ∀ j, k ≤ j → z.2 30 j = I 30 j) 100 (by omega) ⟨rfl, az_fr.refl, fun j hj => absurd hj (Nat.not_lt_zero j), fun _ _ => rfl⟩ ?_ ?_
  · intro k z hk hz
    obtain ⟨v, I1⟩ := z
    obtain ⟨e, hf, g1, g2⟩ := hz
    (try dsimp only at e hf g1 g2)
    subst e
    show ∃ o, rs_Pa_slowTo_2_b 29 26 (nI k) I1 = some o ∧ _
    unfold rs_Pa_slowTo_2_b
    have e1 := g2 k (Nat.le_refl k)
    have e2 := hf 27 k (by omega)
    refine az_nxt (nI (k + 1), az_u I1 30 k (if I 30 k < I 27 k then I 27 k else I 30 k)) ?_ ⟨rfl, hf.u rfl, ?_, ?_⟩
    · simp (disch := omega) only [bl_lit, lgl, lgg, lgl0, lgg0, lglm, lggm, az_us, az_un, az_ue, az_urn, az_ure, bz_lit, nI_leI, nI_ltI, nI_eq, nI_clamp, nI_add, pk_sub, pk_mul, bz_nlt, bz_nle, bz_ltn, bz_len, bz_neq, bz_eqn, bz_nn, ↓reduceIte, Bool.false_eq_true, if_pos, if_neg]
      rw [e1, e2]
    · intro j hj
      (try dsimp only)
      by_cases q : j = k
      · subst q; exact az_us
      · rw [az_un (by omega)]; exact g1 j (by omega)
    · intro j hj
      (try dsimp only)
      rw [az_un (by omega)]; exact g2 j (by omega)
  · intro z hz
    obtain ⟨v, I1⟩ := z
    obtain ⟨e, hf, g1, g2⟩ := hz
    (try dsimp only at e hf g1 g2)
    subst e
    refine ⟨I1, ?_, hf, g1⟩
    show rs_Pa_slowTo_2_b 29 26 (nI 100) I1 = _
    unfold rs_Pa_slowTo_2_b
    simp (disch := omega) only [bl_lit, lgl, lgg, lgl0, lgg0, lglm, lggm, az_us, az_un, az_ue, az_urn, az_ure, bz_lit, nI_leI, nI_ltI, nI_eq, nI_clamp, nI_add, pk_sub, pk_mul, bz_nlt, bz_nle, bz_ltn, bz_len, bz_neq, bz_eqn, bz_nn, ↓reduceIte, Bool.false_eq_true, if_pos, if_neg]
section
variable {I : Nat → Nat → Int32} {J : Nat → Nat → Int64} {rl rd : Nat}
theorem px_with {L : lw_T} {h pc pt : Nat → Nat} {he lo sh we : Int32} (hrl : rl = 16 ∨ rl = 21) (hB : lw_B L) {I0 : Nat → Nat → Int32} (q : wX I0 rl L h pc pt) (f0 : az_fr scX I0 I) (p : pq I L h he lo sh we) {a : Int32} {c d o : Nat} (ho : o < 6) (hc : c < 144) (hd : d < 144) (e1 : a / 1000 = nI c) (e2 : a - a / 1000 * 1000 = nI d) :
    ∃ I', rs_X_minutesWith rl I a (nI o) = some (nI (am h (tm (tt L (I0 8 o) (I0 9 o) (I0 10 o) (I0 4 10)) (tt L he lo sh we)) c d), I') ∧ az_fr scX I0 I' ∧ pq I' L h he lo sh we := by
  have q' := q.fr hrl (scX_sc f0)
  obtain ⟨I1, r1, f1, ok1, in1, _⟩ := pc_become (p := 29) (he := I 8 o) (lo := I 9 o) (sh := I 10 o) (Or.inr rfl) hrl q'.1 hB q'.2.1
  have k1 := f0 8 o (by unfold scX; omega)
  have k2 := f0 9 o (by unfold scX; omega)
  have k3 := f0 10 o (by unfold scX; omega)
  have k4 := f0 4 10 (by unfold scX; omega)
  rw [k1, k2, k3, k4] at in1
  have p1 := p.fr (f1.mono (fun r k z => by unfold pc_B at z; (try dsimp only); omega))
  obtain ⟨I2, r2, f2, s2⟩ := pc_slow (I := I1)
  have hh := fun c (hc : c < 144) => (q.2.1 c hc).2
  have in2 : sp_in I2 29 h (tm (tt L (I0 8 o) (I0 9 o) (I0 10 o) (I0 4 10)) (tt L he lo sh we)) := by
    refine ⟨fun c hc => by rw [f2 5 c (by omega)]; exact in1.1 c hc, fun c o' hc hco => ?_⟩
    have a1 := (in1.1 c hc).2
    have a2 := (in1.1 o' (gd_elt hc hco)).2
    obtain ⟨x1, x2, x3⟩ := in1.2 c o' hc hco
    obtain ⟨y1, y2, y3⟩ := p1.2.2.2.2.2.2 c o' hc hco
    refine ⟨?_, (tm_ok (tt_ok hB (I0 8 o) (I0 9 o) (I0 10 o) (I0 4 10) hh) (tt_ok hB he lo sh we hh)).2 _ (by omega)⟩
    rw [s2 _ (by omega), x1, y1]
    unfold tm
    by_cases z : tt L (I0 8 o) (I0 9 o) (I0 10 o) (I0 4 10) (10 * h c + h o') < tt L he lo sh we (10 * h c + h o')
    · rw [if_pos z, if_pos (nI_lt z (by omega))]
    · rw [if_neg z, if_neg (nI_nlt (by omega) (by omega))]
  obtain ⟨I3, r3, f3⟩ := sp_min (tm_ok (tt_ok hB (I0 8 o) (I0 9 o) (I0 10 o) (I0 4 10) hh) (tt_ok hB he lo sh we hh)) (Or.inr rfl) in2 hc hd
  refine ⟨I3, ?_, ((f0.trans (f1.mono (fun r k z => by unfold pc_B at z; unfold scX; omega))).trans (f2.mono (fun r k z => by (try dsimp only at z); unfold scX; omega))).trans (f3.mono (fun r k z => by unfold sp_F at z; unfold scX; omega)), (p1.fr (f2.mono (fun r k z => by (try dsimp only at z ⊢); omega))).fr (f3.mono (fun r k z => by unfold sp_F at z; (try dsimp only); omega))⟩
  unfold rs_X_minutesWith
  rw [e2, e1]
  simp (disch := omega) only [bl_lit, lgl, lgg, lgl0, lgg0, lglm, lggm, az_us, az_un, az_ue, az_urn, az_ure, bz_lit, nI_leI, nI_ltI, nI_eq, nI_clamp, nI_add, pk_sub, pk_mul, bz_nlt, bz_nle, bz_ltn, bz_len, bz_neq, bz_eqn, bz_nn, ↓reduceIte, Bool.false_eq_true, if_pos, if_neg, r1, r2, r3]
  rfl
theorem pm_tog {L : lw_T} {h pc pt : Nat → Nat} {I0 : Nat → Nat → Int32} (q : wM I0 L h pc pt) (hB : lw_B L) (f0 : az_fr scM I0 I) {a : Int32} {c d u o : Nat} (hu : u < 6) (ho : o < 6) (hc : c < 144) (hd : d < 144) (e1 : a / 1000 = nI c) (e2 : a - a / 1000 * 1000 = nI d) :
    ∃ I', rs_M_togetherOf I a (nI u) (nI o) = some (nI (am h (tm (tt L (I0 74 (160 + o)) (I0 74 (166 + o)) (I0 74 (172 + o)) (I0 74 178)) (tt L (I0 74 (160 + u)) (I0 74 (166 + u)) (I0 74 (172 + u)) (I0 74 178))) c d), I') ∧ az_fr scM I0 I' := by
  have hh := fun c (hc : c < 144) => (q.2.1 c hc).2
  have okT := tm_ok (tt_ok hB (I0 74 (160 + o)) (I0 74 (166 + o)) (I0 74 (172 + o)) (I0 74 178) hh) (tt_ok hB (I0 74 (160 + u)) (I0 74 (166 + u)) (I0 74 (172 + u)) (I0 74 178) hh)
  generalize hT1 : tt L (I0 74 (160 + u)) (I0 74 (166 + u)) (I0 74 (172 + u)) (I0 74 178) = T1 at okT
  generalize hT2 : tt L (I0 74 (160 + o)) (I0 74 (166 + o)) (I0 74 (172 + o)) (I0 74 178) = T2 at okT
  obtain ⟨I1, r1, f1, p1⟩ := pm_for q hB f0 hu
  rw [hT1] at p1
  have m1 : ∃ x, rs_M_togetherOf_8 I1 a (nI o) (nI 0) = some x ∧ ∃ I', x = (nI (am h (tm T2 T1) c d), I') ∧ az_fr scM I0 I' := by
    unfold rs_M_togetherOf_8
    refine az_for0 (fun k (z : Int32 × (Nat → Nat → Int32)) => z.1 = nI k ∧ az_fr (fun r _ => r = 86) I1 z.2 ∧ ∀ j, j < k → z.2 86 j = nI (T1 j)) 100 (by omega) ⟨rfl, az_fr.refl, fun j hj => absurd hj (Nat.not_lt_zero j)⟩ ?_ ?_
    · intro k z hk hz
      obtain ⟨v, I2⟩ := z
      obtain ⟨e, hf, g1⟩ := hz
      (try dsimp only at e hf g1)
      subst e
      show ∃ o', rs_M_togetherOf_8_b a (nI o) (nI k) I2 = some o' ∧ _
      unfold rs_M_togetherOf_8_b
      refine az_nxt (nI (k + 1), az_u I2 86 k (I2 83 k)) (by simp (disch := omega) only [bl_lit, lgl, lgg, lgl0, lgg0, lglm, lggm, az_us, az_un, az_ue, az_urn, az_ure, bz_lit, nI_leI, nI_ltI, nI_eq, nI_clamp, nI_add, pk_sub, pk_mul, bz_nlt, bz_nle, bz_ltn, bz_len, bz_neq, bz_eqn, bz_nn, ↓reduceIte, Bool.false_eq_true, if_pos, if_neg]) ⟨rfl, hf.u rfl, fun j hj => ?_⟩
      (try dsimp only)
      by_cases z : j = k
      · subst z
        rw [az_us, hf 83 j (by omega), (p1.2 j hk).1]
      · rw [az_un (by omega)]; exact g1 j (by omega)
    · intro z hz
      obtain ⟨v, I2⟩ := z
      obtain ⟨e, hf, g1⟩ := hz
      (try dsimp only at e hf g1)
      subst e
      have f2 : az_fr scM I0 I2 := f1.trans (hf.mono (fun r k z => by (try dsimp only at z); unfold scM; omega))
      obtain ⟨I3, r3, f3, p3⟩ := pm_for q hB f2 ho
      have fS : ∀ k, I3 86 k = I2 86 k := by
        obtain ⟨I3', r3', fS, _⟩ := dk_steps (he := I2 74 (160 + o)) (lo := I2 74 (166 + o)) (sh := I2 74 (172 + o)) (we := I2 74 178) (q.fr (scM_sc f2)).1
        have : I3' = I3 := by
          unfold rs_M_asksFor at r3
          revert r3
          simp (disch := omega) only [bl_lit, lgl, lgg, lgl0, lgg0, lglm, lggm, az_us, az_un, az_ue, az_urn, az_ure, bz_lit, nI_leI, nI_ltI, nI_eq, nI_clamp, nI_add, pk_sub, pk_mul, bz_nlt, bz_nle, bz_ltn, bz_len, bz_neq, bz_eqn, bz_nn, ↓reduceIte, Bool.false_eq_true, if_pos, if_neg, r3', Option.some.injEq]
          exact fun z => z
        subst this
        exact fun k => fS 86 k (by unfold dk_S; omega)
      rw [hT2] at p3
      have m2 : ∃ x, rs_M_togetherOf_43 I3 a (nI 0) = some x ∧ ∃ I', x = (nI (am h (tm T2 T1) c d), I') ∧ az_fr scM I0 I' := by
        unfold rs_M_togetherOf_43
        refine az_for0 (fun k (z : Int32 × (Nat → Nat → Int32)) => z.1 = nI k ∧ az_fr (fun r _ => r = 83) I3 z.2 ∧ (∀ j, j < k → z.2 83 j = nI (tm T2 T1 j)) ∧ ∀ j, k ≤ j → z.2 83 j = I3 83 j) 100 (by omega) ⟨rfl, az_fr.refl, fun j hj => absurd hj (Nat.not_lt_zero j), fun _ _ => rfl⟩ ?_ ?_
        · intro k z hk hz
          obtain ⟨v, I4⟩ := z
          obtain ⟨e, hf4, g4, g5⟩ := hz
          (try dsimp only at e hf4 g4 g5)
          subst e
          show ∃ o', rs_M_togetherOf_43_b a (nI k) I4 = some o' ∧ _
          unfold rs_M_togetherOf_43_b rs_M_togetherOf_90
          have v83 : I4 83 k = nI (T2 k) := by rw [g5 k (Nat.le_refl k)]; exact (p3.2 k hk).1
          have v86 : I4 86 k = nI (T1 k) := by rw [hf4 86 k (by omega), fS k]; exact g1 k hk
          have b1 := (p1.2 k hk).2
          have b2 := (p3.2 k hk).2
          refine az_nxt (nI (k + 1), az_u I4 83 k (nI (tm T2 T1 k))) ?_ ⟨rfl, hf4.u rfl, ?_, ?_⟩
          · unfold tm
            by_cases z : T1 k ≤ T2 k
            · rw [if_neg (show ¬ T2 k < T1 k by omega)]
              simp (disch := omega) only [bl_lit, lgl, lgg, lgl0, lgg0, lglm, lggm, az_us, az_un, az_ue, az_urn, az_ure, bz_lit, nI_leI, nI_ltI, nI_eq, nI_clamp, nI_add, pk_sub, pk_mul, bz_nlt, bz_nle, bz_ltn, bz_len, bz_neq, bz_eqn, bz_nn, ↓reduceIte, Bool.false_eq_true, if_pos, if_neg, v83, v86]
            · rw [if_pos (show T2 k < T1 k by omega)]
              simp (disch := omega) only [bl_lit, lgl, lgg, lgl0, lgg0, lglm, lggm, az_us, az_un, az_ue, az_urn, az_ure, bz_lit, nI_leI, nI_ltI, nI_eq, nI_clamp, nI_add, pk_sub, pk_mul, bz_nlt, bz_nle, bz_ltn, bz_len, bz_neq, bz_eqn, bz_nn, ↓reduceIte, Bool.false_eq_true, if_pos, if_neg, v83, v86]
          · intro j hj
            (try dsimp only)
            by_cases z : j = k
            · subst z; exact az_us
            · rw [az_un (by omega)]; exact g4 j (by omega)
          · intro j hj
            (try dsimp only)
            rw [az_un (by omega)]; exact g5 j (by omega)
        · intro z hz
          obtain ⟨v, I4⟩ := z
          obtain ⟨e, hf4, g4, g5⟩ := hz
          (try dsimp only at e hf4 g4 g5)
          subst e
          have in4 : dk_in I4 h (tm T2 T1) := ⟨fun c hc => by rw [hf4 74 c (by omega)]; exact p3.1 c hc, fun k hk => ⟨g4 k hk, okT.2 k hk⟩⟩
          have f4 : az_fr scM I0 I4 := f3.trans (hf4.mono (fun r k z => by (try dsimp only at z); unfold scM; omega))
          obtain ⟨I5, r5, f5, _⟩ := pm_min okT f4 in4 hc hd
          refine ⟨_, ?_, I5, rfl, f5⟩
          show rs_M_togetherOf_43_b a (nI 100) I4 = _
          unfold rs_M_togetherOf_43_b rs_M_togetherOf_97
          rw [e2, e1, r5]
          simp (disch := omega) only [bl_lit, lgl, lgg, lgl0, lgg0, lglm, lggm, az_us, az_un, az_ue, az_urn, az_ure, bz_lit, nI_leI, nI_ltI, nI_eq, nI_clamp, nI_add, pk_sub, pk_mul, bz_nlt, bz_nle, bz_ltn, bz_len, bz_neq, bz_eqn, bz_nn, ↓reduceIte, Bool.false_eq_true, if_pos, if_neg, Option.map_some]
      obtain ⟨x, r6, I', rfl, f6⟩ := m2
      refine ⟨_, ?_, I', rfl, f6⟩
      show rs_M_togetherOf_8_b a (nI o) (nI 100) I2 = _
      unfold rs_M_togetherOf_8_b rs_M_togetherOf_35
      rw [r3]
      simp (disch := omega) only [bl_lit, lgl, lgg, lgl0, lgg0, lglm, lggm, az_us, az_un, az_ue, az_urn, az_ure, bz_lit, nI_leI, nI_ltI, nI_eq, nI_clamp, nI_add, pk_sub, pk_mul, bz_nlt, bz_nle, bz_ltn, bz_len, bz_neq, bz_eqn, bz_nn, ↓reduceIte, Bool.false_eq_true, if_pos, if_neg, r6, Option.map_some]
  obtain ⟨x, r2, I', rfl, f2⟩ := m1
  refine ⟨I', ?_, f2⟩
  unfold rs_M_togetherOf
  rw [r1]
  exact r2
theorem ix_ab (a : Int32) {nw : Nat} (h2 : nw ≤ 6) (c3 : I 4 9 = nI nw) (c4 : I 73 7 = nI nw) : (rs_X_areTwoWalkers I a = some 0 ∧ rs_M_isAb I a = some 0) ∨ (rs_X_areTwoWalkers I a = some 1 ∧ rs_M_isAb I a = some 1 ∧ ∃ u o, u < nw ∧ o < nw ∧ a / 10 = nI u ∧ a - a / 10 * 10 = nI o) := by
  unfold rs_X_areTwoWalkers rs_M_isAb
  by_cases h0 : a < nI 0
  · exact Or.inl ⟨by simp (disch := omega) only [bl_lit, lgl, lgg, lgl0, lgg0, lglm, lggm, az_us, az_un, az_ue, az_urn, az_ure, bz_lit, nI_leI, nI_ltI, nI_eq, nI_clamp, nI_add, pk_sub, pk_mul, bz_nlt, bz_nle, bz_ltn, bz_len, bz_neq, bz_eqn, bz_nn, ↓reduceIte, Bool.false_eq_true, if_pos, if_neg, h0], by simp (disch := omega) only [bl_lit, lgl, lgg, lgl0, lgg0, lglm, lggm, az_us, az_un, az_ue, az_urn, az_ure, bz_lit, nI_leI, nI_ltI, nI_eq, nI_clamp, nI_add, pk_sub, pk_mul, bz_nlt, bz_nle, bz_ltn, bz_len, bz_neq, bz_eqn, bz_nn, ↓reduceIte, Bool.false_eq_true, if_pos, if_neg, h0]⟩
  · obtain ⟨n, hn, rfl⟩ := nI_of (show ¬ a < 0 from h0)
    have e1 : nI n - nI n / 10 * 10 = nI (n % 10) := pk_rem (a := n) (d := 10) (by omega) (by omega) (by omega)
    have e2 : nI n / 10 = nI (n / 10) := pk_div (a := n) (d := 10) (by omega) (by omega) (by omega)
    rw [e1, e2]
    by_cases q1 : n / 10 < nw
    · by_cases q2 : n % 10 < nw
      · by_cases q3 : n / 10 = n % 10
        · exact Or.inl ⟨by simp (disch := omega) only [sub_lt, le_sub, bl_lit, lgl, lgg, lgl0, lgg0, lglm, lggm, az_us, az_un, az_ue, az_urn, az_ure, bz_lit, nI_leI, nI_ltI, nI_eq, nI_clamp, nI_add, pk_sub, pk_mul, bz_nlt, bz_nle, bz_ltn, bz_len, bz_neq, bz_eqn, bz_nn, ↓reduceIte, Bool.false_eq_true, if_pos, if_neg, c3], by simp (disch := omega) only [sub_lt, le_sub, bl_lit, lgl, lgg, lgl0, lgg0, lglm, lggm, az_us, az_un, az_ue, az_urn, az_ure, bz_lit, nI_leI, nI_ltI, nI_eq, nI_clamp, nI_add, pk_sub, pk_mul, bz_nlt, bz_nle, bz_ltn, bz_len, bz_neq, bz_eqn, bz_nn, ↓reduceIte, Bool.false_eq_true, if_pos, if_neg, c4]⟩
        · exact Or.inr ⟨by simp (disch := omega) only [sub_lt, le_sub, bl_lit, lgl, lgg, lgl0, lgg0, lglm, lggm, az_us, az_un, az_ue, az_urn, az_ure, bz_lit, nI_leI, nI_ltI, nI_eq, nI_clamp, nI_add, pk_sub, pk_mul, bz_nlt, bz_nle, bz_ltn, bz_len, bz_neq, bz_eqn, bz_nn, ↓reduceIte, Bool.false_eq_true, if_pos, if_neg, c3], by simp (disch := omega) only [sub_lt, le_sub, bl_lit, lgl, lgg, lgl0, lgg0, lglm, lggm, az_us, az_un, az_ue, az_urn, az_ure, bz_lit, nI_leI, nI_ltI, nI_eq, nI_clamp, nI_add, pk_sub, pk_mul, bz_nlt, bz_nle, bz_ltn, bz_len, bz_neq, bz_eqn, bz_nn, ↓reduceIte, Bool.false_eq_true, if_pos, if_neg, c4], n / 10, n % 10, q1, q2, rfl, rfl⟩
      · exact Or.inl ⟨by simp (disch := omega) only [sub_lt, le_sub, bl_lit, lgl, lgg, lgl0, lgg0, lglm, lggm, az_us, az_un, az_ue, az_urn, az_ure, bz_lit, nI_leI, nI_ltI, nI_eq, nI_clamp, nI_add, pk_sub, pk_mul, bz_nlt, bz_nle, bz_ltn, bz_len, bz_neq, bz_eqn, bz_nn, ↓reduceIte, Bool.false_eq_true, if_pos, if_neg, c3], by simp (disch := omega) only [sub_lt, le_sub, bl_lit, lgl, lgg, lgl0, lgg0, lglm, lggm, az_us, az_un, az_ue, az_urn, az_ure, bz_lit, nI_leI, nI_ltI, nI_eq, nI_clamp, nI_add, pk_sub, pk_mul, bz_nlt, bz_nle, bz_ltn, bz_len, bz_neq, bz_eqn, bz_nn, ↓reduceIte, Bool.false_eq_true, if_pos, if_neg, c4]⟩
    · exact Or.inl ⟨by simp (disch := omega) only [sub_lt, le_sub, bl_lit, lgl, lgg, lgl0, lgg0, lglm, lggm, az_us, az_un, az_ue, az_urn, az_ure, bz_lit, nI_leI, nI_ltI, nI_eq, nI_clamp, nI_add, pk_sub, pk_mul, bz_nlt, bz_nle, bz_ltn, bz_len, bz_neq, bz_eqn, bz_nn, ↓reduceIte, Bool.false_eq_true, if_pos, if_neg, c3], by simp (disch := omega) only [sub_lt, le_sub, bl_lit, lgl, lgg, lgl0, lgg0, lglm, lggm, az_us, az_un, az_ue, az_urn, az_ure, bz_lit, nI_leI, nI_ltI, nI_eq, nI_clamp, nI_add, pk_sub, pk_mul, bz_nlt, bz_nle, bz_ltn, bz_len, bz_neq, bz_eqn, bz_nn, ↓reduceIte, Bool.false_eq_true, if_pos, if_neg, c4]⟩
theorem mt_together (h : Rel I J rl rd) (a b : Int32) : mt (rs_X_together rd rl I a b) (fun I => rs_M_together I a b) J rl rd := by
  obtain ⟨np, nw, L, hh, pc, pt, n1, n2, ⟨c1, c2, c3, c4⟩, hrl, hB, qX, qM, hw, hwe⟩ := h.w
  unfold rs_X_together rs_M_together
  rcases ix_ft (a := a) with ⟨x, y⟩ | ⟨x, y, c, d, hc, hd, _, e1, e2⟩
  · rw [x, y]
    exact ⟨_, I, I, rfl, rfl, h⟩
  · rw [x, y]
    rcases ix_ab b n2 c3 c4 with ⟨x, y⟩ | ⟨x, y, u, o, hu, ho, g1, g2⟩
    · refine ⟨-nI 1, I, I, by rw [x]; simp (disch := omega) only [bl_lit, lgl, lgg, lgl0, lgg0, lglm, lggm, az_us, az_un, az_ue, az_urn, az_ure, bz_lit, nI_leI, nI_ltI, nI_eq, nI_clamp, nI_add, pk_sub, pk_mul, bz_nlt, bz_nle, bz_ltn, bz_len, bz_neq, bz_eqn, bz_nn, ↓reduceIte, Bool.false_eq_true, if_pos, if_neg], by (try dsimp only); rw [y]; simp (disch := omega) only [bl_lit, lgl, lgg, lgl0, lgg0, lglm, lggm, az_us, az_un, az_ue, az_urn, az_ure, bz_lit, nI_leI, nI_ltI, nI_eq, nI_clamp, nI_add, pk_sub, pk_mul, bz_nlt, bz_nle, bz_ltn, bz_len, bz_neq, bz_eqn, bz_nn, ↓reduceIte, Bool.false_eq_true, if_pos, if_neg], h⟩
    · obtain ⟨I1, r1, f1, p1⟩ := px_set hrl hB qX (w := u) (by omega)
      obtain ⟨I2, r2, f2, p2⟩ := px_with hrl hB qX f1 p1 (o := o) (by omega) hc hd e1 e2
      have qM' := qM.fr (scX_sc f2)
      obtain ⟨I3, r3, f3⟩ := pm_tog qM' hB az_fr.refl (u := u) (o := o) (by omega) (by omega) hc hd e1 e2
      obtain ⟨w1, w2, w3⟩ := hw u (by omega)
      obtain ⟨v1, v2, v3⟩ := hw o (by omega)
      rw [f2 74 (160 + u) (by unfold scX; omega), f2 74 (166 + u) (by unfold scX; omega), f2 74 (172 + u) (by unfold scX; omega), f2 74 (160 + o) (by unfold scX; omega), f2 74 (166 + o) (by unfold scX; omega), f2 74 (172 + o) (by unfold scX; omega), f2 74 178 (by unfold scX; omega), w1, w2, w3, v1, v2, v3, hwe] at r3
      refine mt_mk h (nI (am hh (tm (tt L (I 8 o) (I 9 o) (I 10 o) (I 4 10)) (tt L (I 8 u) (I 9 u) (I 10 u) (I 4 10))) c d)) ?_ f2 ?_ f3
      · rw [x, g2, g1]
        simp (disch := omega) only [bl_lit, lgl, lgg, lgl0, lgg0, lglm, lggm, az_us, az_un, az_ue, az_urn, az_ure, bz_lit, nI_leI, nI_ltI, nI_eq, nI_clamp, nI_add, pk_sub, pk_mul, bz_nlt, bz_nle, bz_ltn, bz_len, bz_neq, bz_eqn, bz_nn, ↓reduceIte, Bool.false_eq_true, if_pos, if_neg, r1, r2]
      · (try dsimp only)
        have y' : rs_M_isAb I2 b = some 1 := by
          rw [← y]
          unfold rs_M_isAb
          rw [f2 73 7 (by unfold scX; omega)]
        rw [y', g2, g1]
        simp (disch := omega) only [bl_lit, lgl, lgg, lgl0, lgg0, lglm, lggm, az_us, az_un, az_ue, az_urn, az_ure, bz_lit, nI_leI, nI_ltI, nI_eq, nI_clamp, nI_add, pk_sub, pk_mul, bz_nlt, bz_nle, bz_ltn, bz_len, bz_neq, bz_eqn, bz_nn, ↓reduceIte, Bool.false_eq_true, if_pos, if_neg, r3]
def f_ww (nw w : Nat) (A : Nat → Nat) (s : Int32 × Int32 × Nat) : (Int32 × Int32 × Nat) ⊕ Int32 :=
  if nw ≤ s.2.2 then .inr s.1 else .inl (if s.2.2 = w then (s.1, s.2.1, s.2.2 + 1) else if s.1 = -nI 2 then (nI s.2.2, nI (A s.2.2), s.2.2 + 1) else if s.2.1 ≤ nI (A s.2.2) then (s.1, s.2.1, s.2.2 + 1) else (nI s.2.2, nI (A s.2.2), s.2.2 + 1))
theorem f_ww_s {nw w : Nat} {A : Nat → Nat} {s : Int32 × Int32 × Nat} (h8 : nw ≤ 6) (hi : ¬ nw ≤ s.2.2) (hs : s.2.2 ≤ nw ∧ (s.1 = -nI 2 ∨ ∃ j, j < 8 ∧ s.1 = nI j)) :
    (fun s' : Int32 × Int32 × Nat => (s'.2.2 ≤ nw ∧ (s'.1 = -nI 2 ∨ ∃ j, j < 8 ∧ s'.1 = nI j)) ∧ nw - s'.2.2 < nw - s.2.2) (if s.2.2 = w then (s.1, s.2.1, s.2.2 + 1) else if s.1 = -nI 2 then (nI s.2.2, nI (A s.2.2), s.2.2 + 1) else if s.2.1 ≤ nI (A s.2.2) then (s.1, s.2.1, s.2.2 + 1) else (nI s.2.2, nI (A s.2.2), s.2.2 + 1)) := by
  (try dsimp only)
  split
  · exact ⟨⟨by (try dsimp only); omega, hs.2⟩, by (try dsimp only); omega⟩
  · split
    · exact ⟨⟨by (try dsimp only); omega, Or.inr ⟨s.2.2, by omega, rfl⟩⟩, by (try dsimp only); omega⟩
    · split
      · exact ⟨⟨by (try dsimp only); omega, hs.2⟩, by (try dsimp only); omega⟩
      · exact ⟨⟨by (try dsimp only); omega, Or.inr ⟨s.2.2, by omega, rfl⟩⟩, by (try dsimp only); omega⟩
theorem mt_withWhom (h : Rel I J rl rd) (a b : Int32) : mt (rs_X_withWhom rd rl I a b) (fun I => rs_M_withWhom I a b) J rl rd := by
  obtain ⟨np, nw, L, hh, pc, pt, n1, n2, ⟨c1, c2, c3, c4⟩, hrl, hB, qX, qM, hw, hwe⟩ := h.w
  unfold rs_X_withWhom rs_M_withWhom
  rcases ix_ft (a := a) with ⟨x, y⟩ | ⟨x, y, c, d, hc, hd, _, e1, e2⟩
  · rw [x, y]
    exact ⟨_, I, I, rfl, rfl, h⟩
  · rw [x, y]
    rcases ix b nw (by omega) with x | ⟨x, y⟩ | ⟨w, hww, rfl⟩
    · exact ⟨-nI 1, I, I, by simp (disch := omega) only [bl_lit, lgl, lgg, lgl0, lgg0, lglm, lggm, az_us, az_un, az_ue, az_urn, az_ure, bz_lit, nI_leI, nI_ltI, nI_eq, nI_clamp, nI_add, pk_sub, pk_mul, bz_nlt, bz_nle, bz_ltn, bz_len, bz_neq, bz_eqn, bz_nn, ↓reduceIte, Bool.false_eq_true, if_pos, if_neg, x], by simp (disch := omega) only [bl_lit, lgl, lgg, lgl0, lgg0, lglm, lggm, az_us, az_un, az_ue, az_urn, az_ure, bz_lit, nI_leI, nI_ltI, nI_eq, nI_clamp, nI_add, pk_sub, pk_mul, bz_nlt, bz_nle, bz_ltn, bz_len, bz_neq, bz_eqn, bz_nn, ↓reduceIte, Bool.false_eq_true, if_pos, if_neg, x], h⟩
    · exact ⟨-nI 1, I, I, by simp (disch := omega) only [bl_lit, lgl, lgg, lgl0, lgg0, lglm, lggm, az_us, az_un, az_ue, az_urn, az_ure, bz_lit, nI_leI, nI_ltI, nI_eq, nI_clamp, nI_add, pk_sub, pk_mul, bz_nlt, bz_nle, bz_ltn, bz_len, bz_neq, bz_eqn, bz_nn, ↓reduceIte, Bool.false_eq_true, if_pos, if_neg, x, y, c3], by simp (disch := omega) only [bl_lit, lgl, lgg, lgl0, lgg0, lglm, lggm, az_us, az_un, az_ue, az_urn, az_ure, bz_lit, nI_leI, nI_ltI, nI_eq, nI_clamp, nI_add, pk_sub, pk_mul, bz_nlt, bz_nle, bz_ltn, bz_len, bz_neq, bz_eqn, bz_nn, ↓reduceIte, Bool.false_eq_true, if_pos, if_neg, x, y, c4], h⟩
    · obtain ⟨I1, r1, f1, p1⟩ := px_set hrl hB qX (w := w) (by omega)
      obtain ⟨g1, g2, g3⟩ := hw w (by omega)
      obtain ⟨v, I2, I3, x, fx, y, fy⟩ := mt_loop (I0 := I) (I1 := I1) (bX := fun s : (Int32 × Int32 × Int32 × (Nat → Nat → Int32)) => rs_X_withWhom_31_b rd rl a (nI w) s.1 s.2.1 s.2.2.1 s.2.2.2) (bM := fun s : (Int32 × Int32 × Int32 × (Nat → Nat → Int32)) => rs_M_withWhom_27_b a (nI w) s.1 s.2.1 s.2.2.1 s.2.2.2)
        (f_ww nw w (fun o => am hh (tm (tt L (I 8 o) (I 9 o) (I 10 o) (I 4 10)) (tt L (I 8 w) (I 9 w) (I 10 w) (I 4 10))) c d)) (pX := fun s I => (s.1, s.2.1, nI s.2.2, I)) (pM := fun s I => (s.1, s.2.1, nI s.2.2, I)) (fun s => s.2.2 ≤ nw ∧ (s.1 = -nI 2 ∨ ∃ j, j < 8 ∧ s.1 = nI j)) (fun s => nw - s.2.2) (-nI 2, nI 0, 0) ⟨by (try dsimp only); omega, Or.inl rfl⟩ (by (try dsimp only); omega)
        (by
          intro s hs
          unfold f_ww
          by_cases hi : nw ≤ s.2.2
          · exact Or.inr ⟨_, if_pos hi⟩
          · have := f_ww_s (w := w) (A := fun o => am hh (tm (tt L (I 8 o) (I 9 o) (I 10 o) (I 4 10)) (tt L (I 8 w) (I 9 w) (I 10 w) (I 4 10))) c d) n2 hi hs
            exact Or.inl ⟨_, if_neg hi, this.1, this.2⟩)
        (PX := fun I' => az_fr scX I I' ∧ pq I' L hh (I 8 w) (I 9 w) (I 10 w) (I 4 10)) ⟨f1, p1⟩
        (by
          intro s I' hs hP
          obtain ⟨v3, v4, i⟩ := s
          obtain ⟨ff, pp⟩ := hP
          have c3' : I' 4 9 = nI nw := by rw [ff 4 9 (by unfold scX; omega)]; exact c3
          unfold f_ww
          by_cases hi : nw ≤ i
          · refine ⟨I', ⟨ff, pp⟩, Or.inr ⟨_, if_pos hi, ?_⟩⟩
            (try dsimp only at hs ⊢)
            unfold rs_X_withWhom_31_b
            simp (disch := omega) only [bl_lit, lgl, lgg, lgl0, lgg0, lglm, lggm, az_us, az_un, az_ue, az_urn, az_ure, bz_lit, nI_leI, nI_ltI, nI_eq, nI_clamp, nI_add, pk_sub, pk_mul, bz_nlt, bz_nle, bz_ltn, bz_len, bz_neq, bz_eqn, bz_nn, ↓reduceIte, Bool.false_eq_true, if_pos, if_neg, c3']
          · have := f_ww_s (w := w) (A := fun o => am hh (tm (tt L (I 8 o) (I 9 o) (I 10 o) (I 4 10)) (tt L (I 8 w) (I 9 w) (I 10 w) (I 4 10))) c d) n2 hi hs
            (try dsimp only at hs)
            by_cases iw : i = w
            · refine ⟨I', ⟨ff, pp⟩, Or.inl ⟨_, if_neg hi, this.1, ?_⟩⟩
              (try dsimp only)
              unfold rs_X_withWhom_31_b
              simp (disch := omega) only [bl_lit, lgl, lgg, lgl0, lgg0, lglm, lggm, az_us, az_un, az_ue, az_urn, az_ure, bz_lit, nI_leI, nI_ltI, nI_eq, nI_clamp, nI_add, pk_sub, pk_mul, bz_nlt, bz_nle, bz_ltn, bz_len, bz_neq, bz_eqn, bz_nn, ↓reduceIte, Bool.false_eq_true, if_pos, if_neg, c3', iw]
            · obtain ⟨I5, r5, f5, p5⟩ := px_with hrl hB qX ff pp (o := i) (by omega) hc hd e1 e2
              refine ⟨I5, ⟨f5, p5⟩, Or.inl ⟨_, if_neg hi, this.1, ?_⟩⟩
              (try dsimp only)
              unfold rs_X_withWhom_31_b
              by_cases z : v3 = -nI 2
              · simp (disch := omega) only [bl_lit, lgl, lgg, lgl0, lgg0, lglm, lggm, az_us, az_un, az_ue, az_urn, az_ure, bz_lit, nI_leI, nI_ltI, nI_eq, nI_clamp, nI_add, pk_sub, pk_mul, bz_nlt, bz_nle, bz_ltn, bz_len, bz_neq, bz_eqn, bz_nn, ↓reduceIte, Bool.false_eq_true, if_pos, if_neg, c3', iw, r5, z]
              · by_cases z2 : v4 ≤ nI (am hh (tm (tt L (I 8 i) (I 9 i) (I 10 i) (I 4 10)) (tt L (I 8 w) (I 9 w) (I 10 w) (I 4 10))) c d)
                · simp (disch := omega) only [bl_lit, lgl, lgg, lgl0, lgg0, lglm, lggm, az_us, az_un, az_ue, az_urn, az_ure, bz_lit, nI_leI, nI_ltI, nI_eq, nI_clamp, nI_add, pk_sub, pk_mul, bz_nlt, bz_nle, bz_ltn, bz_len, bz_neq, bz_eqn, bz_nn, ↓reduceIte, Bool.false_eq_true, if_pos, if_neg, c3', iw, r5, z, z2]
                · simp (disch := omega) only [bl_lit, lgl, lgg, lgl0, lgg0, lglm, lggm, az_us, az_un, az_ue, az_urn, az_ure, bz_lit, nI_leI, nI_ltI, nI_eq, nI_clamp, nI_add, pk_sub, pk_mul, bz_nlt, bz_nle, bz_ltn, bz_len, bz_neq, bz_eqn, bz_nn, ↓reduceIte, Bool.false_eq_true, if_pos, if_neg, c3', iw, r5, z, z2])
        (fun _ q => q.1)
        (by
          intro I0' ff0 s I' hs ff
          obtain ⟨v3, v4, i⟩ := s
          have c3' : I' 73 7 = nI nw := by rw [ff 73 7 (by unfold scM; omega), ff0 73 7 (by unfold scX; omega)]; exact c4
          unfold f_ww
          by_cases hi : nw ≤ i
          · refine ⟨I', ff, Or.inr ⟨_, if_pos hi, ?_⟩⟩
            (try dsimp only at hs ⊢)
            unfold rs_M_withWhom_27_b
            simp (disch := omega) only [bl_lit, lgl, lgg, lgl0, lgg0, lglm, lggm, az_us, az_un, az_ue, az_urn, az_ure, bz_lit, nI_leI, nI_ltI, nI_eq, nI_clamp, nI_add, pk_sub, pk_mul, bz_nlt, bz_nle, bz_ltn, bz_len, bz_neq, bz_eqn, bz_nn, ↓reduceIte, Bool.false_eq_true, if_pos, if_neg, c3']
          · have := f_ww_s (w := w) (A := fun o => am hh (tm (tt L (I 8 o) (I 9 o) (I 10 o) (I 4 10)) (tt L (I 8 w) (I 9 w) (I 10 w) (I 4 10))) c d) n2 hi hs
            (try dsimp only at hs)
            by_cases iw : i = w
            · refine ⟨I', ff, Or.inl ⟨_, if_neg hi, this.1, ?_⟩⟩
              (try dsimp only)
              unfold rs_M_withWhom_27_b
              simp (disch := omega) only [bl_lit, lgl, lgg, lgl0, lgg0, lglm, lggm, az_us, az_un, az_ue, az_urn, az_ure, bz_lit, nI_leI, nI_ltI, nI_eq, nI_clamp, nI_add, pk_sub, pk_mul, bz_nlt, bz_nle, bz_ltn, bz_len, bz_neq, bz_eqn, bz_nn, ↓reduceIte, Bool.false_eq_true, if_pos, if_neg, c3', iw]
            · obtain ⟨I5, r5, f5⟩ := pm_tog (qM.fr (scX_sc ff0)) hB ff (u := w) (o := i) (by omega) (by omega) hc hd e1 e2
              obtain ⟨v1, v2, v3'⟩ := hw i (by omega)
              rw [ff0 74 (160 + w) (by unfold scX; omega), ff0 74 (166 + w) (by unfold scX; omega), ff0 74 (172 + w) (by unfold scX; omega), ff0 74 (160 + i) (by unfold scX; omega), ff0 74 (166 + i) (by unfold scX; omega), ff0 74 (172 + i) (by unfold scX; omega), ff0 74 178 (by unfold scX; omega), g1, g2, g3, v1, v2, v3', hwe] at r5
              refine ⟨I5, f5, Or.inl ⟨_, if_neg hi, this.1, ?_⟩⟩
              (try dsimp only)
              unfold rs_M_withWhom_27_b
              rcases hs.2 with z | ⟨jj, hjj, z⟩
              · simp (disch := omega) only [bl_lit, lgl, lgg, lgl0, lgg0, lglm, lggm, az_us, az_un, az_ue, az_urn, az_ure, bz_lit, nI_leI, nI_ltI, nI_eq, nI_clamp, nI_add, pk_sub, pk_mul, bz_nlt, bz_nle, bz_ltn, bz_len, bz_neq, bz_eqn, bz_nn, ↓reduceIte, Bool.false_eq_true, if_pos, if_neg, c3', iw, r5, z]
              · by_cases z2 : v4 ≤ nI (am hh (tm (tt L (I 8 i) (I 9 i) (I 10 i) (I 4 10)) (tt L (I 8 w) (I 9 w) (I 10 w) (I 4 10))) c d)
                · simp (disch := omega) only [bl_lit, lgl, lgg, lgl0, lgg0, lglm, lggm, az_us, az_un, az_ue, az_urn, az_ure, bz_lit, nI_leI, nI_ltI, nI_eq, nI_clamp, nI_add, pk_sub, pk_mul, bz_nlt, bz_nle, bz_ltn, bz_len, bz_neq, bz_eqn, bz_nn, ↓reduceIte, Bool.false_eq_true, if_pos, if_neg, c3', iw, r5, z, z2]
                · simp (disch := omega) only [bl_lit, lgl, lgg, lgl0, lgg0, lglm, lggm, az_us, az_un, az_ue, az_urn, az_ure, bz_lit, nI_leI, nI_ltI, nI_eq, nI_clamp, nI_add, pk_sub, pk_mul, bz_nlt, bz_nle, bz_ltn, bz_len, bz_neq, bz_eqn, bz_nn, ↓reduceIte, Bool.false_eq_true, if_pos, if_neg, c3', iw, r5, z, z2])
      refine mt_mk h v ?_ fx ?_ fy
      · simp (disch := omega) only [sub_lt, le_sub, bl_lit, lgl, lgg, lgl0, lgg0, lglm, lggm, az_us, az_un, az_ue, az_urn, az_ure, bz_lit, nI_leI, nI_ltI, nI_eq, nI_clamp, nI_add, pk_sub, pk_mul, bz_nlt, bz_nle, bz_ltn, bz_len, bz_neq, bz_eqn, bz_nn, ↓reduceIte, Bool.false_eq_true, if_pos, if_neg, c3, r1]
        exact x
      · have c4' : I2 73 7 = nI nw := by rw [fx 73 7 (by unfold scX; omega)]; exact c4
        simp (disch := omega) only [sub_lt, le_sub, bl_lit, lgl, lgg, lgl0, lgg0, lglm, lggm, az_us, az_un, az_ue, az_urn, az_ure, bz_lit, nI_leI, nI_ltI, nI_eq, nI_clamp, nI_add, pk_sub, pk_mul, bz_nlt, bz_nle, bz_ltn, bz_len, bz_neq, bz_eqn, bz_nn, ↓reduceIte, Bool.false_eq_true, if_pos, if_neg, c4']
        exact y
end

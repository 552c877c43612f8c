/-! hearts, pairs, weathers, longest, light, carry -/
def hk (k : Nat) : Int32 := nI k - nI 9
theorem hk_lt0 : ∀ k, k < 20 → (decide (nI 9 < hk k) = decide (19 ≤ k)) := by decide +kernel
theorem hk_lt {k : Nat} (h : k < 20) : nI 9 < hk k ↔ 19 ≤ k := by
  have := hk_lt0 k h
  exact ⟨fun q => of_decide_eq_true (this ▸ decide_eq_true q), fun q => of_decide_eq_true (this.symm ▸ decide_eq_true q)⟩
theorem hk_add0 : ∀ k, k < 20 → hk k + nI 1 = hk (k + 1) := by decide +kernel
theorem hk_add {k : Nat} (h : k < 20) : hk k + nI 1 = hk (k + 1) := hk_add0 k h
theorem hk_0 : -nI 9 = hk 0 := by decide
section
variable {I : Nat → Nat → Int32} {J : Nat → Nat → Int64} {rl rd : Nat}
theorem pm_armBy {L : lw_T} {h pc pt : Nat → Nat} {I0 : Nat → Nat → Int32} (q : wM I0 L h pc pt) (hB : lw_B L) (f0 : az_fr scM I0 I) {k w : Nat} (hk : k < 8) (hw : w < 6) (v : Int32) : ∃ I', rs_M_armBy I (nI k) (nI w) v = some (nI (am h (tt L v (I0 74 (166 + w)) (I0 74 (172 + w)) (I0 74 178)) (pc k) (pt k)), I') ∧ az_fr scM I0 I' := by
  obtain ⟨I1, r1, f1, p1⟩ := pm_steps q hB f0 v (I0 74 (166 + w)) (I0 74 (172 + w)) (I0 74 178)
  obtain ⟨I2, r2, f2, p2⟩ := pm_arm (tt_ok hB _ _ _ _ (fun c hc => (q.2.1 c hc).2)) q f1 p1 hk
  refine ⟨I2, ?_, f2⟩
  unfold rs_M_armBy
  have e2 := f0 74 (166 + w) (by unfold scM; omega)
  have e3 := f0 74 (172 + w) (by unfold scM; omega)
  have e4 := f0 74 178 (by unfold scM; omega)
  simp (disch := omega) only [bl_lit, lgl, lgg, lgl0, lgg0, lglm, lggm, az_us, az_un, az_ue, az_urn, az_ure, bz_lit, nI_leI, nI_ltI, nI_eq, nI_clamp, nI_add, pk_sub, pk_mul, bz_nlt, bz_nle, bz_ltn, bz_len, bz_neq, bz_eqn, bz_nn, ↓reduceIte, Bool.false_eq_true, if_pos, if_neg, e2, e3, e4, r1, r2]
/-- X and M go through a loop as a pure one does -/
theorem mt_loop {S V : Type} {TX TM : Type} {I0 I1 : Nat → Nat → Int32} {bX : TX → Option (TX ⊕ (V × (Nat → Nat → Int32)))} {bM : TM → Option (TM ⊕ (V × (Nat → Nat → Int32)))} (f : S → S ⊕ V) {pX : S → (Nat → Nat → Int32) → TX} {pM : S → (Nat → Nat → Int32) → TM} (Inv : S → Prop) (μ : S → Nat) (s : S) (hs : Inv s) (hm : μ s < 100000)
    (hμ : ∀ s, Inv s → (∃ s', f s = .inl s' ∧ Inv s' ∧ μ s' < μ s) ∨ ∃ v, f s = .inr v) {PX : (Nat → Nat → Int32) → Prop} (h1 : PX I1)
    (hX : ∀ s I, Inv s → PX I → ∃ I', PX I' ∧ ((∃ s', f s = .inl s' ∧ Inv s' ∧ bX (pX s I) = some (.inl (pX s' I'))) ∨ (∃ v, f s = .inr v ∧ bX (pX s I) = some (.inr (v, I')))))
    (hfr : ∀ I, PX I → az_fr scX I0 I)
    (hM : ∀ I0', az_fr scX I0 I0' → ∀ s I, Inv s → az_fr scM I0' I → ∃ I', az_fr scM I0' I' ∧ ((∃ s', f s = .inl s' ∧ Inv s' ∧ bM (pM s I) = some (.inl (pM s' I'))) ∨ (∃ v, f s = .inr v ∧ bM (pM s I) = some (.inr (v, I'))))) :
    ∃ v I2 I3, az_lp bX 100000 (pX s I1) = some (v, I2) ∧ az_fr scX I0 I2 ∧ az_lp bM 100000 (pM s I2) = some (v, I3) ∧ az_fr scM I2 I3 := by
  obtain ⟨v, hv⟩ := pl_ex μ hμ 100000 s hm hs
  obtain ⟨I2, x, px⟩ := pl_sim (fin := fun v I => (v, I)) hX 100000 s I1 v hs h1 hv
  obtain ⟨I3, y, py⟩ := pl_sim (fin := fun v I => (v, I)) (hM I2 (hfr I2 px)) 100000 s I2 v hs az_fr.refl hv
  exact ⟨v, I2, I3, x, hfr I2 px, y, py⟩
def f_hearts (A : Nat → Nat) (a what : Int32) (s : Int32 × Int32 × Nat) : (Int32 × Int32 × Nat) ⊕ Int32 :=
  if 19 ≤ s.2.2 then .inr (if what = nI 0 then s.1 else s.2.1) else .inl (if nI (A s.2.2) = a then (if s.1 = nI 0 then (s.1 + nI 1, hk s.2.2, s.2.2 + 1) else (s.1 + nI 1, s.2.1, s.2.2 + 1)) else (s.1, s.2.1, s.2.2 + 1))
theorem f_hearts_k (A : Nat → Nat) (a what : Int32) (s : Int32 × Int32 × Nat) (hs : s.2.2 ≤ 19) : (∃ s', f_hearts A a what s = .inl s' ∧ s'.2.2 ≤ 19 ∧ 19 - s'.2.2 < 19 - s.2.2) ∨ ∃ v, f_hearts A a what s = .inr v := by
  unfold f_hearts
  by_cases h : 19 ≤ s.2.2
  · exact Or.inr ⟨_, if_pos h⟩
  · refine Or.inl ⟨_, if_neg h, ?_, ?_⟩
    · split
      · split
        · (try dsimp only); omega
        · (try dsimp only); omega
      · (try dsimp only); omega
    · split
      · split
        · (try dsimp only); omega
        · (try dsimp only); omega
      · (try dsimp only); omega
theorem mt_hearts (h : Rel I J rl rd) (a b d : Int32) : mt (rs_X_hearts rd rl I a b d) (fun I => rs_M_hearts I a b d) J rl rd := by
  obtain ⟨np, nw, L, hh, pc, pt, n1, n2, ⟨c1, c2, c3, c4⟩, hrl, hB, qX, qM, hw, hwe⟩ := h.w
  unfold rs_X_hearts rs_M_hearts
  rcases ix_aw (I := I) a n1 n2 c1 c3 c2 c4 with ⟨q1, q2⟩ | ⟨k, w, hkk, hww, e1, e2, h0, q2⟩
  · refine ⟨-nI 2000000000, I, I, xaw_bad c1 c3 q1, ?_, h⟩
    (try dsimp only)
    rw [q2]; rfl
  · rw [xaw_ok n1 n2 c1 c3 h0 e1 e2 hkk hww]
    by_cases b0 : b < nI 0
    · exact ⟨-nI 2000000000, I, I, by simp (disch := omega) only [bl_lit, lgl, lgg, lgl0, lgg0, lglm, lggm, az_us, az_un, az_ue, az_urn, az_ure, bz_lit, nI_leI, nI_ltI, nI_eq, nI_clamp, nI_add, pk_sub, pk_mul, bz_nlt, bz_nle, bz_ltn, bz_len, bz_neq, bz_eqn, bz_nn, ↓reduceIte, Bool.false_eq_true, if_pos, if_neg, b0], by (try dsimp only); rw [q2]; simp (disch := omega) only [bl_lit, lgl, lgg, lgl0, lgg0, lglm, lggm, az_us, az_un, az_ue, az_urn, az_ure, bz_lit, nI_leI, nI_ltI, nI_eq, nI_clamp, nI_add, pk_sub, pk_mul, bz_nlt, bz_nle, bz_ltn, bz_len, bz_neq, bz_eqn, bz_nn, ↓reduceIte, Bool.false_eq_true, if_pos, if_neg, b0], h⟩
    · by_cases b1 : nI 9999 < b
      · exact ⟨-nI 2000000000, I, I, by simp (disch := omega) only [bl_lit, lgl, lgg, lgl0, lgg0, lglm, lggm, az_us, az_un, az_ue, az_urn, az_ure, bz_lit, nI_leI, nI_ltI, nI_eq, nI_clamp, nI_add, pk_sub, pk_mul, bz_nlt, bz_nle, bz_ltn, bz_len, bz_neq, bz_eqn, bz_nn, ↓reduceIte, Bool.false_eq_true, if_pos, if_neg, b0, b1], by (try dsimp only); rw [q2]; simp (disch := omega) only [bl_lit, lgl, lgg, lgl0, lgg0, lglm, lggm, az_us, az_un, az_ue, az_urn, az_ure, bz_lit, nI_leI, nI_ltI, nI_eq, nI_clamp, nI_add, pk_sub, pk_mul, bz_nlt, bz_nle, bz_ltn, bz_len, bz_neq, bz_eqn, bz_nn, ↓reduceIte, Bool.false_eq_true, if_pos, if_neg, b0, b1], h⟩
      · rcases ixc d 1 (by omega) with x | ⟨x, y⟩ | ⟨j, hj, rfl⟩
        · exact ⟨-nI 2000000000, I, I, by simp (disch := omega) only [bl_lit, lgl, lgg, lgl0, lgg0, lglm, lggm, az_us, az_un, az_ue, az_urn, az_ure, bz_lit, nI_leI, nI_ltI, nI_eq, nI_clamp, nI_add, pk_sub, pk_mul, bz_nlt, bz_nle, bz_ltn, bz_len, bz_neq, bz_eqn, bz_nn, ↓reduceIte, Bool.false_eq_true, if_pos, if_neg, b0, b1, bz_neL x], by (try dsimp only); rw [q2]; simp (disch := omega) only [bl_lit, lgl, lgg, lgl0, lgg0, lglm, lggm, az_us, az_un, az_ue, az_urn, az_ure, bz_lit, nI_leI, nI_ltI, nI_eq, nI_clamp, nI_add, pk_sub, pk_mul, bz_nlt, bz_nle, bz_ltn, bz_len, bz_neq, bz_eqn, bz_nn, ↓reduceIte, Bool.false_eq_true, if_pos, if_neg, b0, b1, x], h⟩
        · exact ⟨-nI 2000000000, I, I, by simp (disch := omega) only [bl_lit, lgl, lgg, lgl0, lgg0, lglm, lggm, az_us, az_un, az_ue, az_urn, az_ure, bz_lit, nI_leI, nI_ltI, nI_eq, nI_clamp, nI_add, pk_sub, pk_mul, bz_nlt, bz_nle, bz_ltn, bz_len, bz_neq, bz_eqn, bz_nn, ↓reduceIte, Bool.false_eq_true, if_pos, if_neg, b0, b1, bz_neG y], by (try dsimp only); rw [q2]; simp (disch := omega) only [bl_lit, lgl, lgg, lgl0, lgg0, lglm, lggm, az_us, az_un, az_ue, az_urn, az_ure, bz_lit, nI_leI, nI_ltI, nI_eq, nI_clamp, nI_add, pk_sub, pk_mul, bz_nlt, bz_nle, bz_ltn, bz_len, bz_neq, bz_eqn, bz_nn, ↓reduceIte, Bool.false_eq_true, if_pos, if_neg, b0, b1, x, y], h⟩
        · obtain ⟨I1, r1, f1, p1⟩ := px_set hrl hB qX (w := w) (by omega)
          obtain ⟨g1, g2, g3⟩ := hw w (by omega)
          obtain ⟨v, I2, I3, x, fx, y, fy⟩ := mt_loop (I0 := I) (I1 := I1) (bX := fun s : (Int32 × Int32 × Int32 × (Nat → Nat → Int32)) => rs_X_hearts_48_b rd rl a b (nI j) s.1 s.2.1 s.2.2.1 s.2.2.2) (bM := fun s : (Int32 × Int32 × Int32 × (Nat → Nat → Int32)) => rs_M_hearts_39_b a b (nI j) s.1 s.2.1 s.2.2.1 s.2.2.2)
            (f_hearts (fun i => am hh (tt L (hk i) (I 9 w) (I 10 w) (I 4 10)) (pc k) (pt k)) b (nI j)) (pX := fun s I => (s.1, s.2.1, hk s.2.2, I)) (pM := fun s I => (s.1, s.2.1, hk s.2.2, I)) (fun s => s.2.2 ≤ 19) (fun s => 19 - s.2.2) (nI 0, -nI 99, 0) (by (try dsimp only); omega) (by (try dsimp only); omega) (f_hearts_k _ _ _)
            (PX := fun I' => az_fr scX I I' ∧ ∃ he, pq I' L hh he (I 9 w) (I 10 w) (I 4 10)) ⟨f1, _, p1⟩
            (by
              intro s I' hs hP
              obtain ⟨v4, v5, i⟩ := s
              obtain ⟨ff, he, pp⟩ := hP
              (try dsimp only at hs ⊢)
              unfold f_hearts
              (try dsimp only)
              by_cases hi : 19 ≤ i
              · refine ⟨I', ⟨ff, he, pp⟩, Or.inr ⟨_, if_pos hi, ?_⟩⟩
                unfold rs_X_hearts_48_b rs_X_hearts_99
                by_cases j0 : j = 0
                · simp (disch := omega) only [bl_lit, lgl, lgg, lgl0, lgg0, lglm, lggm, az_us, az_un, az_ue, az_urn, az_ure, bz_lit, nI_leI, nI_ltI, nI_eq, nI_clamp, nI_add, pk_sub, pk_mul, bz_nlt, bz_nle, bz_ltn, bz_len, bz_neq, bz_eqn, bz_nn, ↓reduceIte, Bool.false_eq_true, if_pos, if_neg, hk_lt, j0, Option.map_some]
                · simp (disch := omega) only [bl_lit, lgl, lgg, lgl0, lgg0, lglm, lggm, az_us, az_un, az_ue, az_urn, az_ure, bz_lit, nI_leI, nI_ltI, nI_eq, nI_clamp, nI_add, pk_sub, pk_mul, bz_nlt, bz_nle, bz_ltn, bz_len, bz_neq, bz_eqn, bz_nn, ↓reduceIte, Bool.false_eq_true, if_pos, if_neg, hk_lt, j0, Option.map_some]
              · obtain ⟨I4, r4, f4, p4⟩ := px_heart hrl hB qX ff pp (hk i)
                obtain ⟨I5, r5, f5, p5⟩ := px_arm hrl hB qX f4 p4 (k := k) (by omega)
                refine ⟨I5, ⟨f5, _, p5⟩, Or.inl ⟨_, if_neg hi, ?_, ?_⟩⟩
                · split
                  · split
                    · (try dsimp only); omega
                    · (try dsimp only); omega
                  · (try dsimp only); omega
                · unfold rs_X_hearts_48_b
                  rw [e1]
                  by_cases z : nI (am hh (tt L (hk i) (I 9 w) (I 10 w) (I 4 10)) (pc k) (pt k)) = b
                  · by_cases z2 : v4 = nI 0
                    · simp (disch := omega) only [bl_lit, lgl, lgg, lgl0, lgg0, lglm, lggm, az_us, az_un, az_ue, az_urn, az_ure, bz_lit, nI_leI, nI_ltI, nI_eq, nI_clamp, nI_add, pk_sub, pk_mul, bz_nlt, bz_nle, bz_ltn, bz_len, bz_neq, bz_eqn, bz_nn, ↓reduceIte, Bool.false_eq_true, if_pos, if_neg, hk_lt, r4, r5, z, z2, hk_add]
                    · simp (disch := omega) only [bl_lit, lgl, lgg, lgl0, lgg0, lglm, lggm, az_us, az_un, az_ue, az_urn, az_ure, bz_lit, nI_leI, nI_ltI, nI_eq, nI_clamp, nI_add, pk_sub, pk_mul, bz_nlt, bz_nle, bz_ltn, bz_len, bz_neq, bz_eqn, bz_nn, ↓reduceIte, Bool.false_eq_true, if_pos, if_neg, hk_lt, r4, r5, z, z2, hk_add]
                  · simp (disch := omega) only [bl_lit, lgl, lgg, lgl0, lgg0, lglm, lggm, az_us, az_un, az_ue, az_urn, az_ure, bz_lit, nI_leI, nI_ltI, nI_eq, nI_clamp, nI_add, pk_sub, pk_mul, bz_nlt, bz_nle, bz_ltn, bz_len, bz_neq, bz_eqn, bz_nn, ↓reduceIte, Bool.false_eq_true, if_pos, if_neg, hk_lt, r4, r5, z, hk_add])
            (fun _ q => q.1)
            (by
              intro I0' ff0 s I' hs ff
              obtain ⟨v4, v5, i⟩ := s
              (try dsimp only at hs ⊢)
              unfold f_hearts
              (try dsimp only)
              by_cases hi : 19 ≤ i
              · refine ⟨I', ff, Or.inr ⟨_, if_pos hi, ?_⟩⟩
                unfold rs_M_hearts_39_b rs_M_hearts_87
                by_cases j0 : j = 0
                · simp (disch := omega) only [bl_lit, lgl, lgg, lgl0, lgg0, lglm, lggm, az_us, az_un, az_ue, az_urn, az_ure, bz_lit, nI_leI, nI_ltI, nI_eq, nI_clamp, nI_add, pk_sub, pk_mul, bz_nlt, bz_nle, bz_ltn, bz_len, bz_neq, bz_eqn, bz_nn, ↓reduceIte, Bool.false_eq_true, if_pos, if_neg, hk_lt, j0, Option.map_some]
                · simp (disch := omega) only [bl_lit, lgl, lgg, lgl0, lgg0, lglm, lggm, az_us, az_un, az_ue, az_urn, az_ure, bz_lit, nI_leI, nI_ltI, nI_eq, nI_clamp, nI_add, pk_sub, pk_mul, bz_nlt, bz_nle, bz_ltn, bz_len, bz_neq, bz_eqn, bz_nn, ↓reduceIte, Bool.false_eq_true, if_pos, if_neg, hk_lt, j0, Option.map_some]
              · obtain ⟨I5, r5, f5⟩ := pm_armBy (qM.fr (scX_sc ff0)) hB ff (k := k) (w := w) (by omega) (by omega) (hk i)
                rw [ff0 74 (166 + w) (by unfold scX; omega), ff0 74 (172 + w) (by unfold scX; omega), ff0 74 178 (by unfold scX; omega), g2, g3, hwe] at r5
                refine ⟨I5, f5, Or.inl ⟨_, if_neg hi, ?_, ?_⟩⟩
                · split
                  · split
                    · (try dsimp only); omega
                    · (try dsimp only); omega
                  · (try dsimp only); omega
                · unfold rs_M_hearts_39_b
                  rw [e2, e1]
                  by_cases z : nI (am hh (tt L (hk i) (I 9 w) (I 10 w) (I 4 10)) (pc k) (pt k)) = b
                  · by_cases z2 : v4 = nI 0
                    · simp (disch := omega) only [bl_lit, lgl, lgg, lgl0, lgg0, lglm, lggm, az_us, az_un, az_ue, az_urn, az_ure, bz_lit, nI_leI, nI_ltI, nI_eq, nI_clamp, nI_add, pk_sub, pk_mul, bz_nlt, bz_nle, bz_ltn, bz_len, bz_neq, bz_eqn, bz_nn, ↓reduceIte, Bool.false_eq_true, if_pos, if_neg, hk_lt, r5, z, z2, hk_add]
                    · simp (disch := omega) only [bl_lit, lgl, lgg, lgl0, lgg0, lglm, lggm, az_us, az_un, az_ue, az_urn, az_ure, bz_lit, nI_leI, nI_ltI, nI_eq, nI_clamp, nI_add, pk_sub, pk_mul, bz_nlt, bz_nle, bz_ltn, bz_len, bz_neq, bz_eqn, bz_nn, ↓reduceIte, Bool.false_eq_true, if_pos, if_neg, hk_lt, r5, z, z2, hk_add]
                  · simp (disch := omega) only [bl_lit, lgl, lgg, lgl0, lgg0, lglm, lggm, az_us, az_un, az_ue, az_urn, az_ure, bz_lit, nI_leI, nI_ltI, nI_eq, nI_clamp, nI_add, pk_sub, pk_mul, bz_nlt, bz_nle, bz_ltn, bz_len, bz_neq, bz_eqn, bz_nn, ↓reduceIte, Bool.false_eq_true, if_pos, if_neg, hk_lt, r5, z, hk_add])
          refine mt_mk h v ?_ fx ?_ fy
          · rw [e2]
            have j2 : j = 0 ∨ j = 1 := by omega
            rcases j2 with rfl | rfl
            · simp (disch := omega) only [bl_lit, lgl, lgg, lgl0, lgg0, lglm, lggm, az_us, az_un, az_ue, az_urn, az_ure, bz_lit, nI_leI, nI_ltI, nI_eq, nI_clamp, nI_add, pk_sub, pk_mul, bz_nlt, bz_nle, bz_ltn, bz_len, bz_neq, bz_eqn, bz_nn, ↓reduceIte, Bool.false_eq_true, if_pos, if_neg, b0, b1, r1, hk_0]
              exact x
            · simp (disch := omega) only [bl_lit, lgl, lgg, lgl0, lgg0, lglm, lggm, az_us, az_un, az_ue, az_urn, az_ure, bz_lit, nI_leI, nI_ltI, nI_eq, nI_clamp, nI_add, pk_sub, pk_mul, bz_nlt, bz_nle, bz_ltn, bz_len, bz_neq, bz_eqn, bz_nn, ↓reduceIte, Bool.false_eq_true, if_pos, if_neg, b0, b1, r1, hk_0]
              exact x
          · (try dsimp only)
            have q3 : rs_M_isAw I2 a = some 1 := by
              rw [← q2]
              unfold rs_M_isAw
              rw [fx 73 6 (by unfold scX; omega), fx 73 7 (by unfold scX; omega)]
            rw [q3]
            simp (disch := omega) only [bl_lit, lgl, lgg, lgl0, lgg0, lglm, lggm, az_us, az_un, az_ue, az_urn, az_ure, bz_lit, nI_leI, nI_ltI, nI_eq, nI_clamp, nI_add, pk_sub, pk_mul, bz_nlt, bz_nle, bz_ltn, bz_len, bz_neq, bz_eqn, bz_nn, ↓reduceIte, Bool.false_eq_true, if_pos, if_neg, b0, b1, hk_0]
            exact y
def f_wea (A : Nat → Nat) (t : Int32) (s : Int32 × Nat) : (Int32 × Nat) ⊕ Int32 :=
  if 10 ≤ s.2 then .inr s.1 else .inl (if t < nI (A s.2) then (s.1, s.2 + 1) else (s.1 ||| (nI 1 <<< (nI s.2 &&& nI 31)), s.2 + 1))
theorem mt_weathers (h : Rel I J rl rd) (a b : Int32) : mt (rs_X_weathers rd rl I a b) (fun I => rs_M_weathers I a b) J rl rd := by
  obtain ⟨np, nw, L, hh, pc, pt, n1, n2, ⟨c1, c2, c3, c4⟩, hrl, hB, qX, qM, hw, hwe⟩ := h.w
  unfold rs_X_weathers rs_M_weathers
  rcases ix_aw (I := I) a n1 n2 c1 c3 c2 c4 with ⟨q1, q2⟩ | ⟨k, w, hkk, hww, e1, e2, h0, q2⟩
  · refine ⟨-nI 1, I, I, xaw_bad c1 c3 q1, ?_, h⟩
    (try dsimp only)
    rw [q2]; rfl
  · rw [xaw_ok n1 n2 c1 c3 h0 e1 e2 hkk hww]
    by_cases b0 : b < nI 0
    · exact ⟨-nI 1, I, I, by simp (disch := omega) only [bl_lit, lgl, lgg, lgl0, lgg0, lglm, lggm, az_us, az_un, az_ue, az_urn, az_ure, bz_lit, nI_leI, nI_ltI, nI_eq, nI_clamp, nI_add, pk_sub, pk_mul, bz_nlt, bz_nle, bz_ltn, bz_len, bz_neq, bz_eqn, bz_nn, ↓reduceIte, Bool.false_eq_true, if_pos, if_neg, b0], by (try dsimp only); rw [q2]; simp (disch := omega) only [bl_lit, lgl, lgg, lgl0, lgg0, lglm, lggm, az_us, az_un, az_ue, az_urn, az_ure, bz_lit, nI_leI, nI_ltI, nI_eq, nI_clamp, nI_add, pk_sub, pk_mul, bz_nlt, bz_nle, bz_ltn, bz_len, bz_neq, bz_eqn, bz_nn, ↓reduceIte, Bool.false_eq_true, if_pos, if_neg, b0], h⟩
    · by_cases b1 : nI 9999 < b
      · exact ⟨-nI 1, I, I, by simp (disch := omega) only [bl_lit, lgl, lgg, lgl0, lgg0, lglm, lggm, az_us, az_un, az_ue, az_urn, az_ure, bz_lit, nI_leI, nI_ltI, nI_eq, nI_clamp, nI_add, pk_sub, pk_mul, bz_nlt, bz_nle, bz_ltn, bz_len, bz_neq, bz_eqn, bz_nn, ↓reduceIte, Bool.false_eq_true, if_pos, if_neg, b0, b1], by (try dsimp only); rw [q2]; simp (disch := omega) only [bl_lit, lgl, lgg, lgl0, lgg0, lglm, lggm, az_us, az_un, az_ue, az_urn, az_ure, bz_lit, nI_leI, nI_ltI, nI_eq, nI_clamp, nI_add, pk_sub, pk_mul, bz_nlt, bz_nle, bz_ltn, bz_len, bz_neq, bz_eqn, bz_nn, ↓reduceIte, Bool.false_eq_true, if_pos, if_neg, b0, b1], h⟩
      · obtain ⟨I1, r1, f1, p1⟩ := px_set hrl hB qX (w := w) (by omega)
        obtain ⟨g1, g2, g3⟩ := hw w (by omega)
        obtain ⟨v, I2, I3, x, fx, y, fy⟩ := mt_loop (I0 := I) (I1 := I1) (bX := fun s : (Int32 × Int32 × (Nat → Nat → Int32)) => rs_X_weathers_34_b rd rl a b s.1 s.2.1 s.2.2) (bM := fun s : (Int32 × Int32 × (Nat → Nat → Int32)) => rs_M_weathers_28_b a b (nI w) s.1 s.2.1 s.2.2)
          (f_wea (fun i => am hh (tt L (I 8 w) (I 9 w) (I 10 w) (nI i)) (pc k) (pt k)) b) (pX := fun s I => (s.1, nI s.2, I)) (pM := fun s I => (s.1, nI s.2, I)) (fun s => s.2 ≤ 10) (fun s => 10 - s.2) (nI 0, 0) (by (try dsimp only); omega) (by (try dsimp only); omega)
          (by
            intro s hs
            (try dsimp only at hs)
            unfold f_wea
            by_cases hi : 10 ≤ s.2
            · exact Or.inr ⟨_, if_pos hi⟩
            · refine Or.inl ⟨_, if_neg hi, ?_, ?_⟩
              · split
                · (try dsimp only); omega
                · (try dsimp only); omega
              · split
                · (try dsimp only); omega
                · (try dsimp only); omega)
          (PX := fun I' => az_fr scX I I' ∧ ∃ we, pq I' L hh (I 8 w) (I 9 w) (I 10 w) we) ⟨f1, _, p1⟩
          (by
            intro s I' hs hP
            obtain ⟨v3, i⟩ := s
            obtain ⟨ff, we, pp⟩ := hP
            (try dsimp only at hs ⊢)
            unfold f_wea
            (try dsimp only)
            by_cases hi : 10 ≤ i
            · refine ⟨I', ⟨ff, we, pp⟩, Or.inr ⟨_, if_pos hi, ?_⟩⟩
              unfold rs_X_weathers_34_b
              simp (disch := omega) only [bl_lit, lgl, lgg, lgl0, lgg0, lglm, lggm, az_us, az_un, az_ue, az_urn, az_ure, bz_lit, nI_leI, nI_ltI, nI_eq, nI_clamp, nI_add, pk_sub, pk_mul, bz_nlt, bz_nle, bz_ltn, bz_len, bz_neq, bz_eqn, bz_nn, ↓reduceIte, Bool.false_eq_true, if_pos, if_neg]
            · obtain ⟨I4, r4, f4, p4⟩ := px_weather hrl hB qX ff pp (nI i)
              obtain ⟨I5, r5, f5, p5⟩ := px_arm hrl hB qX f4 p4 (k := k) (by omega)
              refine ⟨I5, ⟨f5, _, p5⟩, Or.inl ⟨_, if_neg hi, ?_, ?_⟩⟩
              · split
                · (try dsimp only); omega
                · (try dsimp only); omega
              · unfold rs_X_weathers_34_b
                rw [e1]
                by_cases z : b < nI (am hh (tt L (I 8 w) (I 9 w) (I 10 w) (nI i)) (pc k) (pt k))
                · simp (disch := omega) only [bl_lit, lgl, lgg, lgl0, lgg0, lglm, lggm, az_us, az_un, az_ue, az_urn, az_ure, bz_lit, nI_leI, nI_ltI, nI_eq, nI_clamp, nI_add, pk_sub, pk_mul, bz_nlt, bz_nle, bz_ltn, bz_len, bz_neq, bz_eqn, bz_nn, ↓reduceIte, Bool.false_eq_true, if_pos, if_neg, r4, r5, z]
                · simp (disch := omega) only [bl_lit, lgl, lgg, lgl0, lgg0, lglm, lggm, az_us, az_un, az_ue, az_urn, az_ure, bz_lit, nI_leI, nI_ltI, nI_eq, nI_clamp, nI_add, pk_sub, pk_mul, bz_nlt, bz_nle, bz_ltn, bz_len, bz_neq, bz_eqn, bz_nn, ↓reduceIte, Bool.false_eq_true, if_pos, if_neg, r4, r5, z])
          (fun _ q => q.1)
          (by
            intro I0' ff0 s I' hs ff
            obtain ⟨v3, i⟩ := s
            (try dsimp only at hs ⊢)
            unfold f_wea
            (try dsimp only)
            by_cases hi : 10 ≤ i
            · refine ⟨I', ff, Or.inr ⟨_, if_pos hi, ?_⟩⟩
              unfold rs_M_weathers_28_b
              simp (disch := omega) only [bl_lit, lgl, lgg, lgl0, lgg0, lglm, lggm, az_us, az_un, az_ue, az_urn, az_ure, bz_lit, nI_leI, nI_ltI, nI_eq, nI_clamp, nI_add, pk_sub, pk_mul, bz_nlt, bz_nle, bz_ltn, bz_len, bz_neq, bz_eqn, bz_nn, ↓reduceIte, Bool.false_eq_true, if_pos, if_neg]
            · have qM' := qM.fr (scX_sc ff0)
              obtain ⟨I4, r4, f4, p4⟩ := pm_steps qM' hB ff (I 8 w) (I 9 w) (I 10 w) (nI i)
              obtain ⟨I5, r5, f5, p5⟩ := pm_arm (qX.ok hB _ _ _ _) qM' f4 p4 (k := k) (by omega)
              have k1 : I' 74 (160 + w) = I 8 w := by rw [ff 74 (160 + w) (by unfold scM; omega), ff0 74 (160 + w) (by unfold scX; omega)]; exact g1
              have k2 : I' 74 (166 + w) = I 9 w := by rw [ff 74 (166 + w) (by unfold scM; omega), ff0 74 (166 + w) (by unfold scX; omega)]; exact g2
              have k3 : I' 74 (172 + w) = I 10 w := by rw [ff 74 (172 + w) (by unfold scM; omega), ff0 74 (172 + w) (by unfold scX; omega)]; exact g3
              refine ⟨I5, f5, Or.inl ⟨_, if_neg hi, ?_, ?_⟩⟩
              · split
                · (try dsimp only); omega
                · (try dsimp only); omega
              · unfold rs_M_weathers_28_b
                rw [e1]
                by_cases z : b < nI (am hh (tt L (I 8 w) (I 9 w) (I 10 w) (nI i)) (pc k) (pt k))
                · have z0 : v3 ||| nI 0 = v3 := Int32.or_zero
                  simp (disch := omega) only [bl_lit, lgl, lgg, lgl0, lgg0, lglm, lggm, az_us, az_un, az_ue, az_urn, az_ure, bz_lit, nI_leI, nI_ltI, nI_eq, nI_clamp, nI_add, pk_sub, pk_mul, bz_nlt, bz_nle, bz_ltn, bz_len, bz_neq, bz_eqn, bz_nn, ↓reduceIte, Bool.false_eq_true, if_pos, if_neg, k1, k2, k3, r4, r5, z, z0]
                · simp (disch := omega) only [bl_lit, lgl, lgg, lgl0, lgg0, lglm, lggm, az_us, az_un, az_ue, az_urn, az_ure, bz_lit, nI_leI, nI_ltI, nI_eq, nI_clamp, nI_add, pk_sub, pk_mul, bz_nlt, bz_nle, bz_ltn, bz_len, bz_neq, bz_eqn, bz_nn, ↓reduceIte, Bool.false_eq_true, if_pos, if_neg, k1, k2, k3, r4, r5, z])
        refine mt_mk h v ?_ fx ?_ fy
        · rw [e2]
          simp (disch := omega) only [bl_lit, lgl, lgg, lgl0, lgg0, lglm, lggm, az_us, az_un, az_ue, az_urn, az_ure, bz_lit, nI_leI, nI_ltI, nI_eq, nI_clamp, nI_add, pk_sub, pk_mul, bz_nlt, bz_nle, bz_ltn, bz_len, bz_neq, bz_eqn, bz_nn, ↓reduceIte, Bool.false_eq_true, if_pos, if_neg, b0, b1, r1]
          exact x
        · (try dsimp only)
          have q3 : rs_M_isAw I2 a = some 1 := by
            rw [← q2]
            unfold rs_M_isAw
            rw [fx 73 6 (by unfold scX; omega), fx 73 7 (by unfold scX; omega)]
          rw [q3, e2]
          simp (disch := omega) only [bl_lit, lgl, lgg, lgl0, lgg0, lglm, lggm, az_us, az_un, az_ue, az_urn, az_ure, bz_lit, nI_leI, nI_ltI, nI_eq, nI_clamp, nI_add, pk_sub, pk_mul, bz_nlt, bz_nle, bz_ltn, bz_len, bz_neq, bz_eqn, bz_nn, ↓reduceIte, Bool.false_eq_true, if_pos, if_neg, b0, b1]
          exact y
end

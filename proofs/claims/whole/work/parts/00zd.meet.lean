/-! meet, next -/
theorem pl_mono {S V : Type} {f : S → S ⊕ V} : ∀ n s v, pl f n s = some v → pl f (n + 1) s = some v := by
  intro n
  induction n with
  | zero => intro s v h; cases h
  | succ n ih =>
    intro s v h
    unfold pl at h ⊢
    cases e : f s with
    | inl s' => rw [e] at h; exact ih s' v h
    | inr w => rw [e] at h; exact h
section
variable {I : Nat → Nat → Int32} {J : Nat → Nat → Int64} {rl rd : Nat}
theorem px_setB {L : lw_T} {h pc pt : Nat → Nat} (hrl : rl = 16 ∨ rl = 21) (hB : lw_B L) (q : wX I rl L h pc pt) {w : Nat} (hw : w < 6) : ∃ I', rs_X_setPace rl I (nI w) = some I' ∧ az_fr (pc_B 26) I I' ∧ pq I' L h (I 8 w) (I 9 w) (I 10 w) (I 4 10) := by
  obtain ⟨I', r, f, a, b, c1, c2, c3, c4⟩ := pc_become (p := 26) (he := I 8 w) (lo := I 9 w) (sh := I 10 w) (Or.inl rfl) hrl q.1 hB q.2.1
  refine ⟨I', ?_, f, a, c1, c2, c3, c4, b⟩
  unfold rs_X_setPace
  simp (disch := omega) only [bl_lit, lgl, lgg, lgl0, lgg0, lglm, lggm, az_us, az_un, az_ue, az_urn, az_ure, bz_lit, nI_leI, nI_ltI, nI_eq, nI_clamp, nI_add, pk_sub, pk_mul, bz_nlt, bz_nle, bz_ltn, bz_len, bz_neq, bz_eqn, bz_nn, ↓reduceIte, Bool.false_eq_true, if_pos, if_neg, r]
theorem pm_forS {L : lw_T} {h pc pt : Nat → Nat} (q : wM I L h pc pt) (hB : lw_B L) {w : Nat} (hw : w < 6) : ∃ I', rs_M_asksFor I (nI w) = some I' ∧ az_fr dk_S I I' ∧ dk_in I' h (tt L (I 74 (160 + w)) (I 74 (166 + w)) (I 74 (172 + w)) (I 74 178)) := by
  obtain ⟨I', r, f, b⟩ := dk_steps (he := I 74 (160 + w)) (lo := I 74 (166 + w)) (sh := I 74 (172 + w)) (we := I 74 178) q.1
  refine ⟨I', ?_, f, fun c hc => by rw [f 74 c (by unfold dk_S; omega)]; exact q.2.1 c hc, fun k hk => ⟨b k hk, hB _ _ _ _ _ _⟩⟩
  unfold rs_M_asksFor
  simp (disch := omega) only [bl_lit, lgl, lgg, lgl0, lgg0, lglm, lggm, az_us, az_un, az_ue, az_urn, az_ure, bz_lit, nI_leI, nI_ltI, nI_eq, nI_clamp, nI_add, pk_sub, pk_mul, bz_nlt, bz_nle, bz_ltn, bz_len, bz_neq, bz_eqn, bz_nn, ↓reduceIte, Bool.false_eq_true, if_pos, if_neg, r]
theorem dkS_M {I' : Nat → Nat → Int32} (f : az_fr dk_S I I') : az_fr scM I I' := f.mono (fun r k z => by unfold dk_S at z; unfold scM; omega)
theorem dkF_M {I' : Nat → Nat → Int32} (f : az_fr dk_F I I') : az_fr scM I I' := f.mono (fun r k z => by unfold dk_F at z; unfold scM; omega)
theorem mt_meet (h : Rel I J rl rd) (a b d : Int32) : mt (rs_X_meet rd rl I a b d) (fun I => rs_M_meet I a b d) J rl rd := by
  obtain ⟨np, nw, L, hh, pc, pt, n1, n2, ⟨c1, c2, c3, c4⟩, hrl, hB, qX, qM, hw, hwe⟩ := h.w
  unfold rs_X_meet rs_M_meet
  rcases ix_ft (a := a) with ⟨x, y⟩ | ⟨x, y, s, e, hs, he, _, e1, e2⟩
  · rw [x, y]
    exact ⟨_, I, I, rfl, rfl, h⟩
  · rw [x, y]
    rcases ix_ab b n2 c3 c4 with ⟨x, y⟩ | ⟨x, y, u, o, hu, ho, g1, g2⟩
    · exact ⟨-nI 1, I, I, by rw [x]; simp (disch := omega) only [bl_lit, lgl, lgg, lgl0, lgg0, lglm, lggm, az_us, az_un, az_ue, az_urn, az_ure, bz_lit, nI_leI, nI_ltI, nI_eq, nI_clamp, nI_add, pk_sub, pk_mul, bz_nlt, bz_nle, bz_ltn, bz_len, bz_neq, bz_eqn, bz_nn, ↓reduceIte, Bool.false_eq_true, if_pos, if_neg], by (try dsimp only); rw [y]; simp (disch := omega) only [bl_lit, lgl, lgg, lgl0, lgg0, lglm, lggm, az_us, az_un, az_ue, az_urn, az_ure, bz_lit, nI_leI, nI_ltI, nI_eq, nI_clamp, nI_add, pk_sub, pk_mul, bz_nlt, bz_nle, bz_ltn, bz_len, bz_neq, bz_eqn, bz_nn, ↓reduceIte, Bool.false_eq_true, if_pos, if_neg], h⟩
    · rw [x]
      rcases ixc d 1 (by omega) with x0 | ⟨x0, y0⟩ | ⟨j, hj, rfl⟩
      · exact ⟨-nI 1, I, I, by simp (disch := omega) only [bl_lit, lgl, lgg, lgl0, lgg0, lglm, lggm, az_us, az_un, az_ue, az_urn, az_ure, bz_lit, nI_leI, nI_ltI, nI_eq, nI_clamp, nI_add, pk_sub, pk_mul, bz_nlt, bz_nle, bz_ltn, bz_len, bz_neq, bz_eqn, bz_nn, ↓reduceIte, Bool.false_eq_true, if_pos, if_neg, bz_neL x0], by (try dsimp only); rw [y]; simp (disch := omega) only [bl_lit, lgl, lgg, lgl0, lgg0, lglm, lggm, az_us, az_un, az_ue, az_urn, az_ure, bz_lit, nI_leI, nI_ltI, nI_eq, nI_clamp, nI_add, pk_sub, pk_mul, bz_nlt, bz_nle, bz_ltn, bz_len, bz_neq, bz_eqn, bz_nn, ↓reduceIte, Bool.false_eq_true, if_pos, if_neg, x0], h⟩
      · exact ⟨-nI 1, I, I, by simp (disch := omega) only [bl_lit, lgl, lgg, lgl0, lgg0, lglm, lggm, az_us, az_un, az_ue, az_urn, az_ure, bz_lit, nI_leI, nI_ltI, nI_eq, nI_clamp, nI_add, pk_sub, pk_mul, bz_nlt, bz_nle, bz_ltn, bz_len, bz_neq, bz_eqn, bz_nn, ↓reduceIte, Bool.false_eq_true, if_pos, if_neg, bz_neG y0], by (try dsimp only); rw [y]; simp (disch := omega) only [bl_lit, lgl, lgg, lgl0, lgg0, lglm, lggm, az_us, az_un, az_ue, az_urn, az_ure, bz_lit, nI_leI, nI_ltI, nI_eq, nI_clamp, nI_add, pk_sub, pk_mul, bz_nlt, bz_nle, bz_ltn, bz_len, bz_neq, bz_eqn, bz_nn, ↓reduceIte, Bool.false_eq_true, if_pos, if_neg, x0, y0], h⟩
      · obtain ⟨I1, r1, f1, p1⟩ := px_setB hrl hB qX (w := u) (by omega)
        have f1x : az_fr scX I I1 := f1.mono (fun r k q => by unfold pc_B at q; unfold scX; omega)
        have ok1 := qX.ok hB (I 8 u) (I 9 u) (I 10 u) (I 4 10)
        have ok2 := qX.ok hB (I 8 o) (I 9 o) (I 10 o) (I 4 10)
        obtain ⟨I2, r2, f2, v2⟩ := sp_far ok1 true (Or.inl rfl) (Or.inl rfl) p1.2.2.2.2.2 hs
        replace r2 : rs_Fi_spread 26 33 I1 (nI s) (nI 0) (-nI 1) = some I2 := r2
        have f2x := f1x.trans (f2.mono (fun r k z => by unfold sp_F at z; unfold scX; omega))
        obtain ⟨I3, r3, f3, p3⟩ := px_setB hrl hB (qX.fr hrl (scX_sc f2x)) (w := o) (by omega)
        rw [f2x 8 o (by unfold scX; omega), f2x 9 o (by unfold scX; omega), f2x 10 o (by unfold scX; omega), f2x 4 10 (by unfold scX; omega)] at p3
        have f3x := f2x.trans (f3.mono (fun r k q => by unfold pc_B at q; unfold scX; omega))
        obtain ⟨I4, r4, f4, v4⟩ := sp_far ok2 true (Or.inl rfl) (Or.inr rfl) p3.2.2.2.2.2 he
        replace r4 : rs_Fi_spread 26 34 I3 (nI e) (nI 0) (-nI 1) = some I4 := r4
        have f4x := f3x.trans (f4.mono (fun r k z => by unfold sp_F at z; unfold scX; omega))
        have w33 : ∀ c, c < 144 → I4 33 c = nI (ds_d (dk_W hh (tt L (I 8 u) (I 9 u) (I 10 u) (I 4 10)) true) s c) := fun c hc => by
          rw [f4 33 c (by unfold sp_F; omega), f3 33 c (by unfold pc_B; omega)]; exact v2 c hc
        -- the reference
        obtain ⟨k1, k2, k3⟩ := hw u (by omega)
        obtain ⟨l1, l2, l3⟩ := hw o (by omega)
        have qM4 := qM.fr (scX_sc f4x)
        obtain ⟨I5, r5, f5, p5⟩ := pm_forS qM4 hB (w := u) (by omega)
        rw [f4x 74 (160 + u) (by unfold scX; omega), f4x 74 (166 + u) (by unfold scX; omega), f4x 74 (172 + u) (by unfold scX; omega), f4x 74 178 (by unfold scX; omega), k1, k2, k3, hwe] at p5
        obtain ⟨I6, r6, f6, d6⟩ := dk_far ok1 true p5 hs
        replace r6 : rs_M_asksMinutes I5 (nI s) (nI 1) = some I6 := r6
        obtain ⟨I7, f7, p7, d7, k7⟩ := pm_copy (D := ds_d (dk_W hh (tt L (I 8 u) (I 9 u) (I 10 u) (I 4 10)) true) s) d6 (p5.fr f6) (rs_M_meet_48_b a b (nI j)) (fun I => rs_M_meet_76 I a b (nI j))
          (fun k I' hk => by unfold rs_M_meet_48_b; simp (disch := omega) only [bl_lit, lgl, lgg, lgl0, lgg0, lglm, lggm, az_us, az_un, az_ue, az_urn, az_ure, bz_lit, nI_leI, nI_ltI, nI_eq, nI_clamp, nI_add, pk_sub, pk_mul, bz_nlt, bz_nle, bz_ltn, bz_len, bz_neq, bz_eqn, bz_nn, ↓reduceIte, Bool.false_eq_true, if_pos, if_neg]) (fun I' => by unfold rs_M_meet_48_b; simp (disch := omega) only [bl_lit, lgl, lgg, lgl0, lgg0, lglm, lggm, az_us, az_un, az_ue, az_urn, az_ure, bz_lit, nI_leI, nI_ltI, nI_eq, nI_clamp, nI_add, pk_sub, pk_mul, bz_nlt, bz_nle, bz_ltn, bz_len, bz_neq, bz_eqn, bz_nn, ↓reduceIte, Bool.false_eq_true, if_pos, if_neg])
        have f57 : az_fr scM I4 I7 := ((dkS_M f5).trans (dkF_M f6)).trans (f7.mono (fun r k z => by (try dsimp only at z); unfold scM; omega))
        obtain ⟨I8, r8, f8, p8⟩ := pm_forS (qM4.fr (scM_sc f57)) hB (w := o) (by omega)
        rw [f57 74 (160 + o) (by unfold scM; omega), f57 74 (166 + o) (by unfold scM; omega), f57 74 (172 + o) (by unfold scM; omega), f57 74 178 (by unfold scM; omega), f4x 74 (160 + o) (by unfold scX; omega), f4x 74 (166 + o) (by unfold scX; omega), f4x 74 (172 + o) (by unfold scX; omega), f4x 74 178 (by unfold scX; omega), l1, l2, l3, hwe] at p8
        obtain ⟨I9, r9, f9, d9⟩ := dk_far ok2 true p8 he
        replace r9 : rs_M_asksMinutes I8 (nI e) (nI 1) = some I9 := r9
        have f59 := (f57.trans (dkS_M f8)).trans (dkF_M f9)
        have w87 : ∀ c, c < 144 → I9 87 c = nI (ds_d (dk_W hh (tt L (I 8 u) (I 9 u) (I 10 u) (I 4 10)) true) s c) := fun c hc => by
          rw [f9 87 c (by unfold dk_F; omega), f8 87 c (by unfold dk_S; omega)]; exact d7 c hc
        have leA := fun c (hc : c < 144) => gd_d_le ok1 true hs hc
        have leB := fun c (hc : c < 144) => gd_d_le ok2 true he hc
        generalize ds_d (dk_W hh (tt L (I 8 u) (I 9 u) (I 10 u) (I 4 10)) true) s = A at *
        generalize ds_d (dk_W hh (tt L (I 8 o) (I 9 o) (I 10 o) (I 4 10)) true) e = B at *
        have mle : ∀ c, c < 144 → tm A B c ≤ 2178 := by
          intro c hc
          unfold tm
          split
          · exact leB c hc
          · exact leA c hc
        have hμ : ∀ q : Nat × Nat × Nat, (q.2.2 ≤ 144 ∧ q.1 < 144 ∧ q.2.1 ≤ 2178) → (∃ q', f_me (nI j) (tm A B) q = .inl q' ∧ (q'.2.2 ≤ 144 ∧ q'.1 < 144 ∧ q'.2.1 ≤ 2178) ∧ 144 - q'.2.2 < 144 - q.2.2) ∨ ∃ v, f_me (nI j) (tm A B) q = .inr v := by
          intro q hq
          unfold f_me
          by_cases hi : 144 ≤ q.2.2
          · exact Or.inr ⟨_, if_pos hi⟩
          · refine Or.inl ⟨_, if_neg hi, ?_⟩
            have := mle q.2.2 (by omega)
            split
            · (try dsimp only); omega
            · (try dsimp only); omega
        have i0 : ((0, tm A B 0, 1) : Nat × Nat × Nat).2.2 ≤ 144 ∧ ((0, tm A B 0, 1) : Nat × Nat × Nat).1 < 144 ∧ ((0, tm A B 0, 1) : Nat × Nat × Nat).2.1 ≤ 2178 := ⟨by (try dsimp only); omega, by (try dsimp only); omega, mle 0 (by omega)⟩
        obtain ⟨v, hv⟩ := pl_ex (fun q : Nat × Nat × Nat => 144 - q.2.2) hμ 99999 (0, tm A B 0, 1) (by (try dsimp only); omega) i0
        obtain ⟨Ix, x, hx⟩ := pl_sim (b := fun s : (Int32 × Int32 × Int32) => rs_X_meet_117_b rd rl I4 (nI j) s.1 s.2.1 s.2.2) (pk := fun q _ => (nI q.1, nI q.2.1, nI q.2.2)) (fin := fun v I => (v, I)) (Inv := fun q => q.2.2 ≤ 144 ∧ q.1 < 144 ∧ q.2.1 ≤ 2178) (P := fun I' => I' = I4)
          (by
            intro q I' hq hP
            have hm := hμ q hq
            subst hP
            refine ⟨I', rfl, ?_⟩
            rcases hm with ⟨q', hf, hq', _⟩ | ⟨v, hf⟩
            · refine Or.inl ⟨q', hf, hq', ?_⟩
              unfold f_me at hf
              by_cases hi : 144 ≤ q.2.2
              · rw [if_pos hi] at hf; cases hf
              · rw [if_neg hi] at hf
                injection hf with hf
                obtain ⟨q1, q2, q3⟩ := q
                (try dsimp only at hq hi hf ⊢)
                unfold rs_X_meet_117_b
                have a1 := w33 q3 (by omega)
                have a2 := v4 q3 (by omega)
                have b1 := leA q3 (by omega)
                have b2 := leB q3 (by omega)
                have vm : (if nI (A q3) < nI (B q3) then nI (B q3) else nI (A q3)) = nI (tm A B q3) := by
                  unfold tm
                  by_cases z : A q3 < B q3
                  · rw [if_pos z, if_pos (nI_lt z (by omega))]
                  · rw [if_neg z, if_neg (nI_nlt (by omega) (by omega))]
                have b3 := mle q3 (by omega)
                rw [nI_clamp (n := q3) (by omega), a1, a2, vm]
                by_cases z : q2 ≤ tm A B q3
                · rw [if_pos z] at hf
                  subst hf
                  simp (disch := omega) only [bl_lit, lgl, lgg, lgl0, lgg0, lglm, lggm, az_us, az_un, az_ue, az_urn, az_ure, bz_lit, nI_leI, nI_ltI, nI_eq, nI_clamp, nI_add, pk_sub, pk_mul, bz_nlt, bz_nle, bz_ltn, bz_len, bz_neq, bz_eqn, bz_nn, ↓reduceIte, Bool.false_eq_true, if_pos, if_neg, z]
                · rw [if_neg z] at hf
                  subst hf
                  simp (disch := omega) only [bl_lit, lgl, lgg, lgl0, lgg0, lglm, lggm, az_us, az_un, az_ue, az_urn, az_ure, bz_lit, nI_leI, nI_ltI, nI_eq, nI_clamp, nI_add, pk_sub, pk_mul, bz_nlt, bz_nle, bz_ltn, bz_len, bz_neq, bz_eqn, bz_nn, ↓reduceIte, Bool.false_eq_true, if_pos, if_neg, z]
            · refine Or.inr ⟨v, hf, ?_⟩
              unfold f_me at hf
              by_cases hi : 144 ≤ q.2.2
              · rw [if_pos hi] at hf
                injection hf with hf
                subst hf
                obtain ⟨q1, q2, q3⟩ := q
                (try dsimp only at hq hi ⊢)
                unfold rs_X_meet_117_b rs_X_meet_171
                by_cases j0 : j = 0
                · simp (disch := omega) only [bl_lit, lgl, lgg, lgl0, lgg0, lglm, lggm, az_us, az_un, az_ue, az_urn, az_ure, bz_lit, nI_leI, nI_ltI, nI_eq, nI_clamp, nI_add, pk_sub, pk_mul, bz_nlt, bz_nle, bz_ltn, bz_len, bz_neq, bz_eqn, bz_nn, ↓reduceIte, Bool.false_eq_true, if_pos, if_neg, j0, Option.map_some]
                · simp (disch := omega) only [bl_lit, lgl, lgg, lgl0, lgg0, lglm, lggm, az_us, az_un, az_ue, az_urn, az_ure, bz_lit, nI_leI, nI_ltI, nI_eq, nI_clamp, nI_add, pk_sub, pk_mul, bz_nlt, bz_nle, bz_ltn, bz_len, bz_neq, bz_eqn, bz_nn, ↓reduceIte, Bool.false_eq_true, if_pos, if_neg, j0, Option.map_some]
              · rw [if_neg hi] at hf; cases hf) 100000 (0, tm A B 0, 1) I4 v i0 rfl (pl_mono _ _ _ hv)
        obtain ⟨Iy, y2, hy⟩ := pl_sim (b := fun s : (Int32 × Int32 × Int32) => rs_M_meet_104_b I9 (nI j) s.1 s.2.1 s.2.2) (pk := fun q _ => (nI q.1, nI q.2.1, nI q.2.2)) (fin := fun v I => (v, I)) (Inv := fun q => q.2.2 ≤ 144 ∧ q.1 < 144 ∧ q.2.1 ≤ 2178) (P := fun I' => I' = I9)
          (by
            intro q I' hq hP
            have hm := hμ q hq
            subst hP
            refine ⟨I', rfl, ?_⟩
            rcases hm with ⟨q', hf, hq', _⟩ | ⟨v, hf⟩
            · refine Or.inl ⟨q', hf, hq', ?_⟩
              unfold f_me at hf
              by_cases hi : 144 ≤ q.2.2
              · rw [if_pos hi] at hf; cases hf
              · rw [if_neg hi] at hf
                injection hf with hf
                obtain ⟨q1, q2, q3⟩ := q
                (try dsimp only at hq hi hf ⊢)
                unfold rs_M_meet_104_b rs_M_meet_146
                have a1 := w87 q3 (by omega)
                have a2 := d9 q3 (by omega)
                have b1 := leA q3 (by omega)
                have b2 := leB q3 (by omega)
                have b3 := mle q3 (by omega)
                by_cases z : A q3 ≤ B q3
                · have vm : tm A B q3 = B q3 := by
                    unfold tm
                    by_cases z' : A q3 < B q3
                    · rw [if_pos z']
                    · rw [if_neg z']; omega
                  rw [vm] at hf
                  by_cases z2 : q2 ≤ B q3
                  · rw [if_pos z2] at hf
                    subst hf
                    simp (disch := omega) only [bl_lit, lgl, lgg, lgl0, lgg0, lglm, lggm, az_us, az_un, az_ue, az_urn, az_ure, bz_lit, nI_leI, nI_ltI, nI_eq, nI_clamp, nI_add, pk_sub, pk_mul, bz_nlt, bz_nle, bz_ltn, bz_len, bz_neq, bz_eqn, bz_nn, ↓reduceIte, Bool.false_eq_true, if_pos, if_neg, a1, a2, z, z2]
                  · rw [if_neg z2] at hf
                    subst hf
                    simp (disch := omega) only [bl_lit, lgl, lgg, lgl0, lgg0, lglm, lggm, az_us, az_un, az_ue, az_urn, az_ure, bz_lit, nI_leI, nI_ltI, nI_eq, nI_clamp, nI_add, pk_sub, pk_mul, bz_nlt, bz_nle, bz_ltn, bz_len, bz_neq, bz_eqn, bz_nn, ↓reduceIte, Bool.false_eq_true, if_pos, if_neg, a1, a2, z, z2]
                · have vm : tm A B q3 = A q3 := by
                    unfold tm
                    rw [if_neg (by omega)]
                  rw [vm] at hf
                  by_cases z2 : q2 ≤ A q3
                  · rw [if_pos z2] at hf
                    subst hf
                    simp (disch := omega) only [bl_lit, lgl, lgg, lgl0, lgg0, lglm, lggm, az_us, az_un, az_ue, az_urn, az_ure, bz_lit, nI_leI, nI_ltI, nI_eq, nI_clamp, nI_add, pk_sub, pk_mul, bz_nlt, bz_nle, bz_ltn, bz_len, bz_neq, bz_eqn, bz_nn, ↓reduceIte, Bool.false_eq_true, if_pos, if_neg, a1, a2, z, z2]
                  · rw [if_neg z2] at hf
                    subst hf
                    simp (disch := omega) only [bl_lit, lgl, lgg, lgl0, lgg0, lglm, lggm, az_us, az_un, az_ue, az_urn, az_ure, bz_lit, nI_leI, nI_ltI, nI_eq, nI_clamp, nI_add, pk_sub, pk_mul, bz_nlt, bz_nle, bz_ltn, bz_len, bz_neq, bz_eqn, bz_nn, ↓reduceIte, Bool.false_eq_true, if_pos, if_neg, a1, a2, z, z2]
            · refine Or.inr ⟨v, hf, ?_⟩
              unfold f_me at hf
              by_cases hi : 144 ≤ q.2.2
              · rw [if_pos hi] at hf
                injection hf with hf
                subst hf
                obtain ⟨q1, q2, q3⟩ := q
                (try dsimp only at hq hi ⊢)
                unfold rs_M_meet_104_b rs_M_meet_169
                by_cases j0 : j = 0
                · simp (disch := omega) only [bl_lit, lgl, lgg, lgl0, lgg0, lglm, lggm, az_us, az_un, az_ue, az_urn, az_ure, bz_lit, nI_leI, nI_ltI, nI_eq, nI_clamp, nI_add, pk_sub, pk_mul, bz_nlt, bz_nle, bz_ltn, bz_len, bz_neq, bz_eqn, bz_nn, ↓reduceIte, Bool.false_eq_true, if_pos, if_neg, j0, Option.map_some]
                · simp (disch := omega) only [bl_lit, lgl, lgg, lgl0, lgg0, lglm, lggm, az_us, az_un, az_ue, az_urn, az_ure, bz_lit, nI_leI, nI_ltI, nI_eq, nI_clamp, nI_add, pk_sub, pk_mul, bz_nlt, bz_nle, bz_ltn, bz_len, bz_neq, bz_eqn, bz_nn, ↓reduceIte, Bool.false_eq_true, if_pos, if_neg, j0, Option.map_some]
              · rw [if_neg hi] at hf; cases hf) 99999 (0, tm A B 0, 1) I9 v i0 rfl hv
        subst hx hy
        have j2 : j = 0 ∨ j = 1 := by omega
        have x33 := w33 0 (by omega)
        have x34 := v4 0 (by omega)
        have vm0 : (if nI (A 0) < nI (B 0) then nI (B 0) else nI (A 0)) = nI (tm A B 0) := by
          have b1 := leA 0 (by omega)
          have b2 := leB 0 (by omega)
          unfold tm
          by_cases z : A 0 < B 0
          · rw [if_pos z, if_pos (nI_lt z (by omega))]
          · rw [if_neg z, if_neg (nI_nlt (by omega) (by omega))]
        have Xfin : rs_X_meet_117 rd rl Ix (nI j) (nI 0) (if Ix 33 0 < Ix 34 0 then Ix 34 0 else Ix 33 0) (nI 1) = some (v, Ix) := by
          rw [x33, x34, vm0]
          exact x
        refine mt_mk h v ?_ f4x ?_ f59
        · rw [g2, g1, e2, e1]
          rcases j2 with rfl | rfl
          · simp (disch := omega) only [bl_lit, lgl, lgg, lgl0, lgg0, lglm, lggm, az_us, az_un, az_ue, az_urn, az_ure, bz_lit, nI_leI, nI_ltI, nI_eq, nI_clamp, nI_add, pk_sub, pk_mul, bz_nlt, bz_nle, bz_ltn, bz_len, bz_neq, bz_eqn, bz_nn, ↓reduceIte, Bool.false_eq_true, if_pos, if_neg, r1, r2, r3, r4]
            exact Xfin
          · simp (disch := omega) only [bl_lit, lgl, lgg, lgl0, lgg0, lglm, lggm, az_us, az_un, az_ue, az_urn, az_ure, bz_lit, nI_leI, nI_ltI, nI_eq, nI_clamp, nI_add, pk_sub, pk_mul, bz_nlt, bz_nle, bz_ltn, bz_len, bz_neq, bz_eqn, bz_nn, ↓reduceIte, Bool.false_eq_true, if_pos, if_neg, r1, r2, r3, r4]
            exact Xfin
        · (try dsimp only)
          have y' : rs_M_isAb Ix b = some 1 := by
            rw [← y]
            unfold rs_M_isAb
            rw [f4x 73 7 (by unfold scX; omega)]
          rw [y', g1, e1]
          simp (disch := omega) only [bl_lit, lgl, lgg, lgl0, lgg0, lglm, lggm, az_us, az_un, az_ue, az_urn, az_ure, bz_lit, nI_leI, nI_ltI, nI_eq, nI_clamp, nI_add, pk_sub, pk_mul, bz_nlt, bz_nle, bz_ltn, bz_len, bz_neq, bz_eqn, bz_nn, ↓reduceIte, Bool.false_eq_true, if_pos, if_neg, r5, r6]
          unfold rs_M_meet_48
          refine k7 _ ?_
          unfold rs_M_meet_76
          rw [g2, e2]
          simp (disch := omega) only [bl_lit, lgl, lgg, lgl0, lgg0, lglm, lggm, az_us, az_un, az_ue, az_urn, az_ure, bz_lit, nI_leI, nI_ltI, nI_eq, nI_clamp, nI_add, pk_sub, pk_mul, bz_nlt, bz_nle, bz_ltn, bz_len, bz_neq, bz_eqn, bz_nn, ↓reduceIte, Bool.false_eq_true, if_pos, if_neg, r8, r9]
          unfold rs_M_meet_104
          have first : rs_M_meet_104_b Iy (nI j) (nI 0) (nI 1000000) (nI 0) = some (.inl (nI 0, nI (tm A B 0), nI 1)) := by
            have a1 := w87 0 (by omega)
            have a2 := d9 0 (by omega)
            have b1 := leA 0 (by omega)
            have b2 := leB 0 (by omega)
            unfold rs_M_meet_104_b rs_M_meet_146
            by_cases z : A 0 ≤ B 0
            · have vm : tm A B 0 = B 0 := by
                unfold tm
                by_cases z' : A 0 < B 0
                · rw [if_pos z']
                · rw [if_neg z']; omega
              rw [vm]
              simp (disch := omega) only [bl_lit, lgl, lgg, lgl0, lgg0, lglm, lggm, az_us, az_un, az_ue, az_urn, az_ure, bz_lit, nI_leI, nI_ltI, nI_eq, nI_clamp, nI_add, pk_sub, pk_mul, bz_nlt, bz_nle, bz_ltn, bz_len, bz_neq, bz_eqn, bz_nn, ↓reduceIte, Bool.false_eq_true, if_pos, if_neg, a1, a2, z]
            · have vm : tm A B 0 = A 0 := by
                unfold tm
                rw [if_neg (by omega)]
              rw [vm]
              simp (disch := omega) only [bl_lit, lgl, lgg, lgl0, lgg0, lglm, lggm, az_us, az_un, az_ue, az_urn, az_ure, bz_lit, nI_leI, nI_ltI, nI_eq, nI_clamp, nI_add, pk_sub, pk_mul, bz_nlt, bz_nle, bz_ltn, bz_len, bz_neq, bz_eqn, bz_nn, ↓reduceIte, Bool.false_eq_true, if_pos, if_neg, a1, a2, z]
          exact (az_lp_l (n := 99999) first).trans y2
end

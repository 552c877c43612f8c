/-! pairs, longest, light, carry, drawn -/
def pr_c (A : Nat → Nat) (b : Int32) : Nat → Int32 → Int32
  | 0, v => v
  | i + 1, v => if nI (A i) = b then pr_c A b i v + nI 1 else pr_c A b i v
section
variable {I : Nat → Nat → Int32} {J : Nat → Nat → Int64} {rl rd : Nat}
theorem mt_pairs (h : Rel I J rl rd) (a b : Int32) : mt (rs_X_pairs rd rl I a b) (fun I => rs_M_pairs I a b) J rl rd := by
  obtain ⟨np, nw, L, hh, pc, pt, n1, n2, ⟨c1, c2, c3, c4⟩, hrl, hB, qX, qM, hw, hwe⟩ := h.w
  unfold rs_X_pairs rs_M_pairs
  rcases ix_aw (I := I) a n1 n2 c1 c3 c2 c4 with ⟨q1, q2⟩ | ⟨k, w, hkk, hww, e1, e2, h0, q2⟩
  · refine ⟨-nI 1, I, I, xaw_bad c1 c3 q1, ?_, h⟩
    (try dsimp only)
    rw [q2]; rfl
  · rw [xaw_ok n1 n2 c1 c3 h0 e1 e2 hkk hww]
    by_cases b0 : b < nI 0
    · exact ⟨-nI 1, I, I, by simp (disch := omega) only [bl_lit, lgl, lgg, lgl0, lgg0, lglm, lggm, az_us, az_un, az_ue, az_urn, az_ure, bz_lit, nI_leI, nI_ltI, nI_eq, nI_clamp, nI_add, pk_sub, pk_mul, bz_nlt, bz_nle, bz_ltn, bz_len, bz_neq, bz_eqn, bz_nn, ↓reduceIte, Bool.false_eq_true, if_pos, if_neg, b0], by (try dsimp only); rw [q2]; simp (disch := omega) only [bl_lit, lgl, lgg, lgl0, lgg0, lglm, lggm, az_us, az_un, az_ue, az_urn, az_ure, bz_lit, nI_leI, nI_ltI, nI_eq, nI_clamp, nI_add, pk_sub, pk_mul, bz_nlt, bz_nle, bz_ltn, bz_len, bz_neq, bz_eqn, bz_nn, ↓reduceIte, Bool.false_eq_true, if_pos, if_neg, b0], h⟩
    · by_cases b1 : nI 9999 < b
      · exact ⟨-nI 1, I, I, by simp (disch := omega) only [bl_lit, lgl, lgg, lgl0, lgg0, lglm, lggm, az_us, az_un, az_ue, az_urn, az_ure, bz_lit, nI_leI, nI_ltI, nI_eq, nI_clamp, nI_add, pk_sub, pk_mul, bz_nlt, bz_nle, bz_ltn, bz_len, bz_neq, bz_eqn, bz_nn, ↓reduceIte, Bool.false_eq_true, if_pos, if_neg, b0, b1], by (try dsimp only); rw [q2]; simp (disch := omega) only [bl_lit, lgl, lgg, lgl0, lgg0, lglm, lggm, az_us, az_un, az_ue, az_urn, az_ure, bz_lit, nI_leI, nI_ltI, nI_eq, nI_clamp, nI_add, pk_sub, pk_mul, bz_nlt, bz_nle, bz_ltn, bz_len, bz_neq, bz_eqn, bz_nn, ↓reduceIte, Bool.false_eq_true, if_pos, if_neg, b0, b1], h⟩
      · obtain ⟨I1, r1, f1, p1⟩ := px_set hrl hB qX (w := w) (by omega)
        obtain ⟨g1, g2, g3⟩ := hw w (by omega)
        have inX : ∀ (I' : Nat → Nat → Int32) (i : Nat) (v3 : Int32), i < 19 → (az_fr scX I I' ∧ ∃ he lo, pq I' L hh he lo (I 10 w) (I 4 10)) → ∃ I'', rs_X_pairs_45 rd rl I' a b v3 (hk i) (nI 0) = some (.inl (pr_c (fun l => am hh (tt L (hk i) (nI l) (I 10 w) (I 4 10)) (pc k) (pt k)) b 10 v3, hk (i + 1), I'')) ∧ (az_fr scX I I'' ∧ ∃ he lo, pq I'' L hh he lo (I 10 w) (I 4 10)) := by
          intro I' i v3 hi hP
          unfold rs_X_pairs_45
          have main : ∃ x, az_lp (fun s : (Int32 × Int32 × (Nat → Nat → Int32)) => rs_X_pairs_45_b rd rl a b (hk i) s.1 s.2.1 s.2.2) 100000 (v3, nI 0, I') = some x ∧ ∃ I'', x = .inl (pr_c (fun l => am hh (tt L (hk i) (nI l) (I 10 w) (I 4 10)) (pc k) (pt k)) b 10 v3, hk (i + 1), I'') ∧ (az_fr scX I I'' ∧ ∃ he lo, pq I'' L hh he lo (I 10 w) (I 4 10)) := by
            refine az_for0 (fun l (z : Int32 × Int32 × (Nat → Nat → Int32)) => z.1 = pr_c (fun l => am hh (tt L (hk i) (nI l) (I 10 w) (I 4 10)) (pc k) (pt k)) b l v3 ∧ z.2.1 = nI l ∧ (az_fr scX I z.2.2 ∧ ∃ he lo, pq z.2.2 L hh he lo (I 10 w) (I 4 10))) 10 (by omega) ⟨rfl, rfl, hP⟩ ?_ ?_
            · intro l z hl hz
              obtain ⟨u, v5, I2⟩ := z
              obtain ⟨z1, z2, ff, he, lo, pp⟩ := hz
              (try dsimp only at z1 z2 ff pp)
              subst z1 z2
              obtain ⟨I4, r4, f4, p4⟩ := px_both hrl hB qX ff pp (hk i) (nI l)
              obtain ⟨I5, r5, f5, p5⟩ := px_arm hrl hB qX f4 p4 (k := k) (by omega)
              refine az_nxt (pr_c (fun l => am hh (tt L (hk i) (nI l) (I 10 w) (I 4 10)) (pc k) (pt k)) b (l + 1) v3, nI (l + 1), I5) ?_ ⟨rfl, rfl, f5, _, _, p5⟩
              show rs_X_pairs_45_b rd rl a b (hk i) (pr_c (fun l => am hh (tt L (hk i) (nI l) (I 10 w) (I 4 10)) (pc k) (pt k)) b l v3) (nI l) I2 = some (.inl (if nI (am hh (tt L (hk i) (nI l) (I 10 w) (I 4 10)) (pc k) (pt k)) = b then pr_c (fun l => am hh (tt L (hk i) (nI l) (I 10 w) (I 4 10)) (pc k) (pt k)) b l v3 + nI 1 else pr_c (fun l => am hh (tt L (hk i) (nI l) (I 10 w) (I 4 10)) (pc k) (pt k)) b l v3, nI (l + 1), I5))
              unfold rs_X_pairs_45_b
              rw [e1]
              by_cases z : nI (am hh (tt L (hk i) (nI l) (I 10 w) (I 4 10)) (pc k) (pt k)) = b
              · simp (disch := omega) only [bl_lit, lgl, lgg, lgl0, lgg0, lglm, lggm, az_us, az_un, az_ue, az_urn, az_ure, bz_lit, nI_leI, nI_ltI, nI_eq, nI_clamp, nI_add, pk_sub, pk_mul, bz_nlt, bz_nle, bz_ltn, bz_len, bz_neq, bz_eqn, bz_nn, ↓reduceIte, Bool.false_eq_true, if_pos, if_neg, r4, r5, z]
              · simp (disch := omega) only [bl_lit, lgl, lgg, lgl0, lgg0, lglm, lggm, az_us, az_un, az_ue, az_urn, az_ure, bz_lit, nI_leI, nI_ltI, nI_eq, nI_clamp, nI_add, pk_sub, pk_mul, bz_nlt, bz_nle, bz_ltn, bz_len, bz_neq, bz_eqn, bz_nn, ↓reduceIte, Bool.false_eq_true, if_pos, if_neg, r4, r5, z]
            · intro z hz
              obtain ⟨u, v5, I2⟩ := z
              obtain ⟨z1, z2, ff⟩ := hz
              (try dsimp only at z1 z2 ff)
              subst z1 z2
              refine ⟨_, ?_, I2, rfl, ff⟩
              show rs_X_pairs_45_b rd rl a b (hk i) _ (nI 10) I2 = _
              unfold rs_X_pairs_45_b
              simp (disch := omega) only [bl_lit, lgl, lgg, lgl0, lgg0, lglm, lggm, az_us, az_un, az_ue, az_urn, az_ure, bz_lit, nI_leI, nI_ltI, nI_eq, nI_clamp, nI_add, pk_sub, pk_mul, bz_nlt, bz_nle, bz_ltn, bz_len, bz_neq, bz_eqn, bz_nn, ↓reduceIte, Bool.false_eq_true, if_pos, if_neg, hk_add]
          obtain ⟨x, hx, I'', rfl, hI⟩ := main
          exact ⟨I'', hx, hI⟩
        have inM : ∀ (I0 : Nat → Nat → Int32), az_fr scX I I0 → ∀ (I' : Nat → Nat → Int32) (i : Nat) (v3 : Int32), i < 19 → az_fr scM I0 I' → ∃ I'', rs_M_pairs_33 I' a b v3 (hk i) (nI 0) = some (.inl (pr_c (fun l => am hh (tt L (hk i) (nI l) (I 10 w) (I 4 10)) (pc k) (pt k)) b 10 v3, hk (i + 1), I'')) ∧ az_fr scM I0 I'' := by
          intro I0 ff0 I' i v3 hi hP
          unfold rs_M_pairs_33
          have main : ∃ x, az_lp (fun s : (Int32 × Int32 × (Nat → Nat → Int32)) => rs_M_pairs_33_b a b (hk i) s.1 s.2.1 s.2.2) 100000 (v3, nI 0, I') = some x ∧ ∃ I'', x = .inl (pr_c (fun l => am hh (tt L (hk i) (nI l) (I 10 w) (I 4 10)) (pc k) (pt k)) b 10 v3, hk (i + 1), I'') ∧ az_fr scM I0 I'' := by
            refine az_for0 (fun l (z : Int32 × Int32 × (Nat → Nat → Int32)) => z.1 = pr_c (fun l => am hh (tt L (hk i) (nI l) (I 10 w) (I 4 10)) (pc k) (pt k)) b l v3 ∧ z.2.1 = nI l ∧ az_fr scM I0 z.2.2) 10 (by omega) ⟨rfl, rfl, hP⟩ ?_ ?_
            · intro l z hl hz
              obtain ⟨u, v5, I2⟩ := z
              obtain ⟨z1, z2, ff⟩ := hz
              (try dsimp only at z1 z2 ff)
              subst z1 z2
              have qM' := qM.fr (scX_sc ff0)
              obtain ⟨I4, r4, f4, p4⟩ := pm_steps qM' hB ff (hk i) (nI l) (I 10 w) (I 4 10)
              obtain ⟨I5, r5, f5, p5⟩ := pm_arm (qX.ok hB _ _ _ _) qM' f4 p4 (k := k) (by omega)
              have k3 : I2 74 (172 + w) = I 10 w := by rw [ff 74 (172 + w) (by unfold scM; omega), ff0 74 (172 + w) (by unfold scX; omega)]; exact g3
              have k4 : I2 74 178 = I 4 10 := by rw [ff 74 178 (by unfold scM; omega), ff0 74 178 (by unfold scX; omega)]; exact hwe
              refine az_nxt (pr_c (fun l => am hh (tt L (hk i) (nI l) (I 10 w) (I 4 10)) (pc k) (pt k)) b (l + 1) v3, nI (l + 1), I5) ?_ ⟨rfl, rfl, f5⟩
              show rs_M_pairs_33_b a b (hk i) (pr_c (fun l => am hh (tt L (hk i) (nI l) (I 10 w) (I 4 10)) (pc k) (pt k)) b l v3) (nI l) I2 = some (.inl (if nI (am hh (tt L (hk i) (nI l) (I 10 w) (I 4 10)) (pc k) (pt k)) = b then pr_c (fun l => am hh (tt L (hk i) (nI l) (I 10 w) (I 4 10)) (pc k) (pt k)) b l v3 + nI 1 else pr_c (fun l => am hh (tt L (hk i) (nI l) (I 10 w) (I 4 10)) (pc k) (pt k)) b l v3, nI (l + 1), I5))
              unfold rs_M_pairs_33_b
              rw [e2, e1]
              by_cases z : nI (am hh (tt L (hk i) (nI l) (I 10 w) (I 4 10)) (pc k) (pt k)) = b
              · simp (disch := omega) only [bl_lit, lgl, lgg, lgl0, lgg0, lglm, lggm, az_us, az_un, az_ue, az_urn, az_ure, bz_lit, nI_leI, nI_ltI, nI_eq, nI_clamp, nI_add, pk_sub, pk_mul, bz_nlt, bz_nle, bz_ltn, bz_len, bz_neq, bz_eqn, bz_nn, ↓reduceIte, Bool.false_eq_true, if_pos, if_neg, k3, k4, r4, r5, z]
              · have z0 : ∀ y : Int32, y + nI 0 = y := fun y => Int32.add_zero y
                simp (disch := omega) only [bl_lit, lgl, lgg, lgl0, lgg0, lglm, lggm, az_us, az_un, az_ue, az_urn, az_ure, bz_lit, nI_leI, nI_ltI, nI_eq, nI_clamp, nI_add, pk_sub, pk_mul, bz_nlt, bz_nle, bz_ltn, bz_len, bz_neq, bz_eqn, bz_nn, ↓reduceIte, Bool.false_eq_true, if_pos, if_neg, k3, k4, r4, r5, z, z0]
            · intro z hz
              obtain ⟨u, v5, I2⟩ := z
              obtain ⟨z1, z2, ff⟩ := hz
              (try dsimp only at z1 z2 ff)
              subst z1 z2
              refine ⟨_, ?_, I2, rfl, ff⟩
              show rs_M_pairs_33_b a b (hk i) _ (nI 10) I2 = _
              unfold rs_M_pairs_33_b
              simp (disch := omega) only [bl_lit, lgl, lgg, lgl0, lgg0, lglm, lggm, az_us, az_un, az_ue, az_urn, az_ure, bz_lit, nI_leI, nI_ltI, nI_eq, nI_clamp, nI_add, pk_sub, pk_mul, bz_nlt, bz_nle, bz_ltn, bz_len, bz_neq, bz_eqn, bz_nn, ↓reduceIte, Bool.false_eq_true, if_pos, if_neg, hk_add]
          obtain ⟨x, hx, I'', rfl, hI⟩ := main
          exact ⟨I'', hx, hI⟩
        obtain ⟨v, I2, I3, x, fx, y, fy⟩ := mt_loop (I0 := I) (I1 := I1) (bX := fun s : (Int32 × Int32 × (Nat → Nat → Int32)) => rs_X_pairs_35_b rd rl a b s.1 s.2.1 s.2.2) (bM := fun s : (Int32 × Int32 × (Nat → Nat → Int32)) => rs_M_pairs_23_b a b s.1 s.2.1 s.2.2)
          (fun s : Int32 × Nat => if 19 ≤ s.2 then .inr s.1 else .inl (pr_c (fun l => am hh (tt L (hk s.2) (nI l) (I 10 w) (I 4 10)) (pc k) (pt k)) b 10 s.1, s.2 + 1)) (pX := fun s I => (s.1, hk s.2, I)) (pM := fun s I => (s.1, hk s.2, I)) (fun s => s.2 ≤ 19) (fun s => 19 - s.2) (nI 0, 0) (by (try dsimp only); omega) (by (try dsimp only); omega)
          (by
            intro s hs
            (try dsimp only at hs ⊢)
            by_cases hi : 19 ≤ s.2
            · exact Or.inr ⟨_, if_pos hi⟩
            · exact Or.inl ⟨_, if_neg hi, by (try dsimp only); omega, by (try dsimp only); omega⟩)
          (PX := fun I' => az_fr scX I I' ∧ ∃ he lo, pq I' L hh he lo (I 10 w) (I 4 10)) ⟨f1, _, _, p1⟩
          (by
            intro s I' hs hP
            obtain ⟨v3, i⟩ := s
            (try dsimp only at hs ⊢)
            by_cases hi : 19 ≤ i
            · refine ⟨I', hP, Or.inr ⟨_, if_pos hi, ?_⟩⟩
              unfold rs_X_pairs_35_b
              simp (disch := omega) only [bl_lit, lgl, lgg, lgl0, lgg0, lglm, lggm, az_us, az_un, az_ue, az_urn, az_ure, bz_lit, nI_leI, nI_ltI, nI_eq, nI_clamp, nI_add, pk_sub, pk_mul, bz_nlt, bz_nle, bz_ltn, bz_len, bz_neq, bz_eqn, bz_nn, ↓reduceIte, Bool.false_eq_true, if_pos, if_neg, hk_lt]
            · obtain ⟨I4, r4, p4⟩ := inX I' i v3 (by omega) hP
              refine ⟨I4, p4, Or.inl ⟨_, if_neg hi, by (try dsimp only); omega, ?_⟩⟩
              unfold rs_X_pairs_35_b
              simp (disch := omega) only [bl_lit, lgl, lgg, lgl0, lgg0, lglm, lggm, az_us, az_un, az_ue, az_urn, az_ure, bz_lit, nI_leI, nI_ltI, nI_eq, nI_clamp, nI_add, pk_sub, pk_mul, bz_nlt, bz_nle, bz_ltn, bz_len, bz_neq, bz_eqn, bz_nn, ↓reduceIte, Bool.false_eq_true, if_pos, if_neg, hk_lt, r4])
          (fun _ q => q.1)
          (by
            intro I0' ff0 s I' hs ff
            obtain ⟨v3, i⟩ := s
            (try dsimp only at hs ⊢)
            by_cases hi : 19 ≤ i
            · refine ⟨I', ff, Or.inr ⟨_, if_pos hi, ?_⟩⟩
              unfold rs_M_pairs_23_b
              simp (disch := omega) only [bl_lit, lgl, lgg, lgl0, lgg0, lglm, lggm, az_us, az_un, az_ue, az_urn, az_ure, bz_lit, nI_leI, nI_ltI, nI_eq, nI_clamp, nI_add, pk_sub, pk_mul, bz_nlt, bz_nle, bz_ltn, bz_len, bz_neq, bz_eqn, bz_nn, ↓reduceIte, Bool.false_eq_true, if_pos, if_neg, hk_lt]
            · obtain ⟨I4, r4, p4⟩ := inM I0' ff0 I' i v3 (by omega) ff
              refine ⟨I4, p4, Or.inl ⟨_, if_neg hi, by (try dsimp only); omega, ?_⟩⟩
              unfold rs_M_pairs_23_b
              simp (disch := omega) only [bl_lit, lgl, lgg, lgl0, lgg0, lglm, lggm, az_us, az_un, az_ue, az_urn, az_ure, bz_lit, nI_leI, nI_ltI, nI_eq, nI_clamp, nI_add, pk_sub, pk_mul, bz_nlt, bz_nle, bz_ltn, bz_len, bz_neq, bz_eqn, bz_nn, ↓reduceIte, Bool.false_eq_true, if_pos, if_neg, hk_lt, r4])
        refine mt_mk h v ?_ fx ?_ fy
        · rw [e2]
          simp (disch := omega) only [bl_lit, lgl, lgg, lgl0, lgg0, lglm, lggm, az_us, az_un, az_ue, az_urn, az_ure, bz_lit, nI_leI, nI_ltI, nI_eq, nI_clamp, nI_add, pk_sub, pk_mul, bz_nlt, bz_nle, bz_ltn, bz_len, bz_neq, bz_eqn, bz_nn, ↓reduceIte, Bool.false_eq_true, if_pos, if_neg, b0, b1, r1, hk_0]
          exact x
        · (try dsimp only)
          have q3 : rs_M_isAw I2 a = some 1 := by
            rw [← q2]
            unfold rs_M_isAw
            rw [fx 73 6 (by unfold scX; omega), fx 73 7 (by unfold scX; omega)]
          rw [q3]
          simp (disch := omega) only [bl_lit, lgl, lgg, lgl0, lgg0, lglm, lggm, az_us, az_un, az_ue, az_urn, az_ure, bz_lit, nI_leI, nI_ltI, nI_eq, nI_clamp, nI_add, pk_sub, pk_mul, bz_nlt, bz_nle, bz_ltn, bz_len, bz_neq, bz_eqn, bz_nn, ↓reduceIte, Bool.false_eq_true, if_pos, if_neg, b0, b1, hk_0]
          exact y
def f_lon (np : Nat) (A : Nat → Nat) (what : Int32) (s : Int32 × Int32 × Int32 × Nat) : (Int32 × Int32 × Int32 × Nat) ⊕ Int32 :=
  if np ≤ s.2.2.2 then .inr (if what = nI 0 then s.1 else s.2.2.1) else .inl (if s.1 = -nI 2 then (nI s.2.2.2, nI (A s.2.2.2), s.2.2.1 + nI (A s.2.2.2), s.2.2.2 + 1) else if nI (A s.2.2.2) ≤ s.2.1 then (s.1, s.2.1, s.2.2.1 + nI (A s.2.2.2), s.2.2.2 + 1) else (nI s.2.2.2, nI (A s.2.2.2), s.2.2.1 + nI (A s.2.2.2), s.2.2.2 + 1))
theorem f_lon_s {np : Nat} {A : Nat → Nat} {s : Int32 × Int32 × Int32 × Nat} (h8 : np ≤ 8) (hi : ¬ np ≤ s.2.2.2) (hs : s.2.2.2 ≤ np ∧ (s.1 = -nI 2 ∨ ∃ j, j < 8 ∧ s.1 = nI j)) :
    (fun s' : Int32 × Int32 × Int32 × Nat => (s'.2.2.2 ≤ np ∧ (s'.1 = -nI 2 ∨ ∃ j, j < 8 ∧ s'.1 = nI j)) ∧ np - s'.2.2.2 < np - s.2.2.2) (if s.1 = -nI 2 then (nI s.2.2.2, nI (A s.2.2.2), s.2.2.1 + nI (A s.2.2.2), s.2.2.2 + 1) else if nI (A s.2.2.2) ≤ s.2.1 then (s.1, s.2.1, s.2.2.1 + nI (A s.2.2.2), s.2.2.2 + 1) else (nI s.2.2.2, nI (A s.2.2.2), s.2.2.1 + nI (A s.2.2.2), s.2.2.2 + 1)) := by
  (try dsimp only)
  split
  · exact ⟨⟨by (try dsimp only); omega, Or.inr ⟨s.2.2.2, by omega, rfl⟩⟩, by (try dsimp only); omega⟩
  · split
    · exact ⟨⟨by (try dsimp only); omega, hs.2⟩, by (try dsimp only); omega⟩
    · exact ⟨⟨by (try dsimp only); omega, Or.inr ⟨s.2.2.2, by omega, rfl⟩⟩, by (try dsimp only); omega⟩
end

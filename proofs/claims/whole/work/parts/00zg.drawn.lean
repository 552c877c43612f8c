/-! drawn -/
def dr_h (z : Int32) : Int32 := (((z.toUInt32 >>> ((8 : Int32).toUInt32 &&& Int32.toUInt32 31)).toInt32 - (z.toUInt32 >>> ((8 : Int32).toUInt32 &&& Int32.toUInt32 31)).toInt32 / (19 : Int32) * (19 : Int32)) + (-9 : Int32))
def dr_g (z : Int32) : Int32 := (((z.toUInt32 >>> ((8 : Int32).toUInt32 &&& Int32.toUInt32 31)).toInt32 - (z.toUInt32 >>> ((8 : Int32).toUInt32 &&& Int32.toUInt32 31)).toInt32 / (19 : Int32) * (19 : Int32)) - (9 : Int32))
def dr_l (z : Int32) : Int32 := ((z.toUInt32 >>> ((16 : Int32).toUInt32 &&& Int32.toUInt32 31)).toInt32 - (z.toUInt32 >>> ((16 : Int32).toUInt32 &&& Int32.toUInt32 31)).toInt32 / (10 : Int32) * (10 : Int32))
def dr_v (z : Int32) : Int32 := (z.toUInt32 >>> ((20 : Int32).toUInt32 &&& Int32.toUInt32 31)).toInt32
def dr_z (z : Int32) : Int32 := ((z * (1103515245 : Int32)) + (12345 : Int32))
theorem dr_gh (z : Int32) : dr_g z = dr_h z := Int32.sub_eq_add_neg _ _
def dr_n (z : Int32) : Nat := z.toBitVec.toNat / 2 ^ 20
theorem dr_vn (z : Int32) : dr_v z = nI (dr_n z) ∧ dr_n z < 4096 := by
  have q := pk_ushr z 20 20 (by decide)
  have hx : z.toBitVec.toNat < 2 ^ 32 := z.toBitVec.isLt
  have hb : dr_n z < 4096 := by unfold dr_n; omega
  refine ⟨?_, hb⟩
  apply Int32.toBitVec_inj.mp
  apply BitVec.eq_of_toNat_eq
  unfold dr_v
  rw [q, pk_tn (by omega)]
  rfl
theorem dr_ze (z : Int32) : (z * (1103515245 : Int32)) + (12345 : Int32) = dr_z z := by
  unfold dr_z
  rfl
def f_dr (n : Nat) (A : Int32 → Nat) (what : Int32) (s : Int32 × Int32 × Nat × Nat) : (Int32 × Int32 × Nat × Nat) ⊕ Int32 :=
  if n ≤ s.2.2.2 then .inr (if what = nI 0 then s.2.1 else nI s.2.2.1) else .inl (dr_z s.1, s.2.1 + nI (A (dr_z s.1)), (if s.2.2.2 = 0 then A (dr_z s.1) else if A (dr_z s.1) < s.2.2.1 then A (dr_z s.1) else s.2.2.1), s.2.2.2 + 1)
section
variable {I : Nat → Nat → Int32} {J : Nat → Nat → Int64} {rl rd : Nat}
theorem mt_drawn (h : Rel I J rl rd) (a b d : Int32) : mt (rs_X_drawn rd rl I a b d) (fun I => rs_M_drawn I a b d) J rl rd := by
  obtain ⟨np, nw, L, hh, pc, pt, n1, n2, ⟨c1, c2, c3, c4⟩, hrl, hB, qX, qM, hw, hwe⟩ := h.w
  unfold rs_X_drawn rs_M_drawn
  by_cases d1 : b < nI 1
  · exact ⟨-nI 1, I, I, by simp (disch := omega) only [bl_lit, lgl, lgg, lgl0, lgg0, lglm, lggm, az_us, az_un, az_ue, az_urn, az_ure, bz_lit, nI_leI, nI_ltI, nI_eq, nI_clamp, nI_add, pk_sub, pk_mul, bz_nlt, bz_nle, bz_ltn, bz_len, bz_neq, bz_eqn, bz_nn, ↓reduceIte, Bool.false_eq_true, if_pos, if_neg, d1], by simp (disch := omega) only [bl_lit, lgl, lgg, lgl0, lgg0, lglm, lggm, az_us, az_un, az_ue, az_urn, az_ure, bz_lit, nI_leI, nI_ltI, nI_eq, nI_clamp, nI_add, pk_sub, pk_mul, bz_nlt, bz_nle, bz_ltn, bz_len, bz_neq, bz_eqn, bz_nn, ↓reduceIte, Bool.false_eq_true, if_pos, if_neg, d1], h⟩
  · by_cases d2 : nI 50 < b
    · exact ⟨-nI 1, I, I, by simp (disch := omega) only [bl_lit, lgl, lgg, lgl0, lgg0, lglm, lggm, az_us, az_un, az_ue, az_urn, az_ure, bz_lit, nI_leI, nI_ltI, nI_eq, nI_clamp, nI_add, pk_sub, pk_mul, bz_nlt, bz_nle, bz_ltn, bz_len, bz_neq, bz_eqn, bz_nn, ↓reduceIte, Bool.false_eq_true, if_pos, if_neg, d1, d2], by simp (disch := omega) only [bl_lit, lgl, lgg, lgl0, lgg0, lglm, lggm, az_us, az_un, az_ue, az_urn, az_ure, bz_lit, nI_leI, nI_ltI, nI_eq, nI_clamp, nI_add, pk_sub, pk_mul, bz_nlt, bz_nle, bz_ltn, bz_len, bz_neq, bz_eqn, bz_nn, ↓reduceIte, Bool.false_eq_true, if_pos, if_neg, d1, d2], h⟩
    · have hd : ∃ n, 1 ≤ n ∧ n ≤ 50 ∧ b = nI n := by
        have hd0 : ¬ b < 0 := by
          intro q
          apply d1
          rw [Int32.lt_iff_toInt_lt] at q ⊢
          rw [nI_toInt (by omega)]
          have : (0 : Int32).toInt = 0 := rfl
          omega
        obtain ⟨n, hn, rfl⟩ := nI_of hd0
        rw [nI_ltI (by omega) (by omega)] at d1 d2
        exact ⟨n, by omega, by omega, rfl⟩
      obtain ⟨n, hn1, hn2, rfl⟩ := hd
      rcases ixc d 1 (by omega) with x | ⟨x, y⟩ | ⟨j, hj, rfl⟩
      · exact ⟨-nI 1, I, I, by simp (disch := omega) only [bl_lit, lgl, lgg, lgl0, lgg0, lglm, lggm, az_us, az_un, az_ue, az_urn, az_ure, bz_lit, nI_leI, nI_ltI, nI_eq, nI_clamp, nI_add, pk_sub, pk_mul, bz_nlt, bz_nle, bz_ltn, bz_len, bz_neq, bz_eqn, bz_nn, ↓reduceIte, Bool.false_eq_true, if_pos, if_neg, bz_neL x], by simp (disch := omega) only [bl_lit, lgl, lgg, lgl0, lgg0, lglm, lggm, az_us, az_un, az_ue, az_urn, az_ure, bz_lit, nI_leI, nI_ltI, nI_eq, nI_clamp, nI_add, pk_sub, pk_mul, bz_nlt, bz_nle, bz_ltn, bz_len, bz_neq, bz_eqn, bz_nn, ↓reduceIte, Bool.false_eq_true, if_pos, if_neg, x], h⟩
      · exact ⟨-nI 1, I, I, by simp (disch := omega) only [bl_lit, lgl, lgg, lgl0, lgg0, lglm, lggm, az_us, az_un, az_ue, az_urn, az_ure, bz_lit, nI_leI, nI_ltI, nI_eq, nI_clamp, nI_add, pk_sub, pk_mul, bz_nlt, bz_nle, bz_ltn, bz_len, bz_neq, bz_eqn, bz_nn, ↓reduceIte, Bool.false_eq_true, if_pos, if_neg, bz_neG y], by simp (disch := omega) only [bl_lit, lgl, lgg, lgl0, lgg0, lglm, lggm, az_us, az_un, az_ue, az_urn, az_ure, bz_lit, nI_leI, nI_ltI, nI_eq, nI_clamp, nI_add, pk_sub, pk_mul, bz_nlt, bz_nle, bz_ltn, bz_len, bz_neq, bz_eqn, bz_nn, ↓reduceIte, Bool.false_eq_true, if_pos, if_neg, x, y], h⟩
      · have j2 : j = 0 ∨ j = 1 := by omega
        by_cases hp : np = 0
        · subst hp
          refine ⟨nI 0, I, I, ?_, ?_, h⟩
          · rcases j2 with rfl | rfl
            · simp (disch := omega) only [bl_lit, lgl, lgg, lgl0, lgg0, lglm, lggm, az_us, az_un, az_ue, az_urn, az_ure, bz_lit, nI_leI, nI_ltI, nI_eq, nI_clamp, nI_add, pk_sub, pk_mul, bz_nlt, bz_nle, bz_ltn, bz_len, bz_neq, bz_eqn, bz_nn, ↓reduceIte, Bool.false_eq_true, if_pos, if_neg, c1]
            · simp (disch := omega) only [bl_lit, lgl, lgg, lgl0, lgg0, lglm, lggm, az_us, az_un, az_ue, az_urn, az_ure, bz_lit, nI_leI, nI_ltI, nI_eq, nI_clamp, nI_add, pk_sub, pk_mul, bz_nlt, bz_nle, bz_ltn, bz_len, bz_neq, bz_eqn, bz_nn, ↓reduceIte, Bool.false_eq_true, if_pos, if_neg, c1]
          · simp (disch := omega) only [bl_lit, lgl, lgg, lgl0, lgg0, lglm, lggm, az_us, az_un, az_ue, az_urn, az_ure, bz_lit, nI_leI, nI_ltI, nI_eq, nI_clamp, nI_add, pk_sub, pk_mul, bz_nlt, bz_nle, bz_ltn, bz_len, bz_neq, bz_eqn, bz_nn, ↓reduceIte, Bool.false_eq_true, if_pos, if_neg]
            unfold rs_M_drawn_37 az_lp
            (try dsimp only)
            unfold rs_M_drawn_37_b rs_M_drawn_139
            rw [if_neg (show ¬ nI n ≤ nI 0 from by rw [nI_leI (by omega) (by omega)]; omega), c2, if_pos (show nI 0 ≤ 0 by decide)]
            rcases j2 with rfl | rfl
            · simp (disch := omega) only [bl_lit, lgl, lgg, lgl0, lgg0, lglm, lggm, az_us, az_un, az_ue, az_urn, az_ure, bz_lit, nI_leI, nI_ltI, nI_eq, nI_clamp, nI_add, pk_sub, pk_mul, bz_nlt, bz_nle, bz_ltn, bz_len, bz_neq, bz_eqn, bz_nn, ↓reduceIte, Bool.false_eq_true, if_pos, if_neg, Option.map_some]
            · simp (disch := omega) only [bl_lit, lgl, lgg, lgl0, lgg0, lglm, lggm, az_us, az_un, az_ue, az_urn, az_ure, bz_lit, nI_leI, nI_ltI, nI_eq, nI_clamp, nI_add, pk_sub, pk_mul, bz_nlt, bz_nle, bz_ltn, bz_len, bz_neq, bz_eqn, bz_nn, ↓reduceIte, Bool.false_eq_true, if_pos, if_neg, Option.map_some]
        · have hA : ∀ z, am hh (tt L (dr_h z) (dr_l z) (nI 5) (I 4 10)) (pc (dr_n z % np)) (pt (dr_n z % np)) ≤ 2178 := by
            intro z
            have hm : dr_n z % np < np := Nat.mod_lt _ (by omega)
            obtain ⟨a1, a2, a3, a4⟩ := qX.2.2 (dr_n z % np) (by omega)
            exact gd_d_le (qX.ok hB _ _ _ _) true a2 a4
          generalize hAe : (fun z => am hh (tt L (dr_h z) (dr_l z) (nI 5) (I 4 10)) (pc (dr_n z % np)) (pt (dr_n z % np))) = A at hA
          have hA' : ∀ z, am hh (tt L (dr_h z) (dr_l z) (nI 5) (I 4 10)) (pc (dr_n z % np)) (pt (dr_n z % np)) = A z := fun z => congrFun hAe z
          have hA2 : ∀ z, A z ≤ 2178 := fun z => by rw [← hA']; exact hA z
          have hst : ∀ s : Int32 × Int32 × Nat × Nat, (s.2.2.2 ≤ n ∧ s.2.2.1 ≤ 2178) → ¬ n ≤ s.2.2.2 → ((dr_z s.1, s.2.1 + nI (A (dr_z s.1)), (if s.2.2.2 = 0 then A (dr_z s.1) else if A (dr_z s.1) < s.2.2.1 then A (dr_z s.1) else s.2.2.1), s.2.2.2 + 1) : Int32 × Int32 × Nat × Nat).2.2.2 ≤ n ∧ ((dr_z s.1, s.2.1 + nI (A (dr_z s.1)), (if s.2.2.2 = 0 then A (dr_z s.1) else if A (dr_z s.1) < s.2.2.1 then A (dr_z s.1) else s.2.2.1), s.2.2.2 + 1) : Int32 × Int32 × Nat × Nat).2.2.1 ≤ 2178 := by
            intro s hs hi
            have := hA2 (dr_z s.1)
            refine ⟨by (try dsimp only); omega, ?_⟩
            (try dsimp only)
            split
            · exact this
            · split
              · exact this
              · exact hs.2
          obtain ⟨v, I2, I3, x, fx, y, fy⟩ := mt_loop (I0 := I) (I1 := I) (bX := fun s : (Int32 × Int32 × Int32 × Int32 × (Nat → Nat → Int32)) => rs_X_drawn_43_b rd rl (nI n) (nI j) s.1 s.2.1 s.2.2.1 s.2.2.2.1 s.2.2.2.2) (bM := fun s : (Int32 × Int32 × Int32 × Int32 × (Nat → Nat → Int32)) => rs_M_drawn_37_b (nI n) (nI j) s.1 s.2.1 s.2.2.1 s.2.2.2.1 s.2.2.2.2)
            (f_dr n A (nI j)) (pX := fun s I => (s.1, s.2.1, (if s.2.2.2 = 0 then nI 0 else nI s.2.2.1), nI s.2.2.2, I)) (pM := fun s I => (s.1, s.2.1, (if s.2.2.2 = 0 then nI 1000000 else nI s.2.2.1), nI s.2.2.2, I)) (fun s => s.2.2.2 ≤ n ∧ s.2.2.1 ≤ 2178) (fun s => n - s.2.2.2) (a, nI 0, 0, 0) ⟨by (try dsimp only); omega, by (try dsimp only); omega⟩ (by (try dsimp only); omega)
            (by
              intro s hs
              unfold f_dr
              by_cases hi : n ≤ s.2.2.2
              · exact Or.inr ⟨_, if_pos hi⟩
              · exact Or.inl ⟨_, if_neg hi, hst s hs hi, by (try dsimp only); omega⟩)
            (PX := fun I' => az_fr scX I I') az_fr.refl
            (by
              intro s I' hs ff
              have hst' := hst s hs
              obtain ⟨z, sm, le, i⟩ := s
              (try dsimp only at hs hst' ⊢)
              unfold f_dr
              (try dsimp only)
              by_cases hi : n ≤ i
              · refine ⟨I', ff, Or.inr ⟨_, if_pos hi, ?_⟩⟩
                unfold rs_X_drawn_43_b rs_X_drawn_147
                rw [if_pos (show nI n ≤ nI i from nI_le hi (by omega))]
                rcases j2 with rfl | rfl
                · simp (disch := omega) only [bl_lit, lgl, lgg, lgl0, lgg0, lglm, lggm, az_us, az_un, az_ue, az_urn, az_ure, bz_lit, nI_leI, nI_ltI, nI_eq, nI_clamp, nI_add, pk_sub, pk_mul, bz_nlt, bz_nle, bz_ltn, bz_len, bz_neq, bz_eqn, bz_nn, ↓reduceIte, Bool.false_eq_true, if_pos, if_neg, Option.map_some]
                · simp (disch := omega) only [bl_lit, lgl, lgg, lgl0, lgg0, lglm, lggm, az_us, az_un, az_ue, az_urn, az_ure, bz_lit, nI_leI, nI_ltI, nI_eq, nI_clamp, nI_add, pk_sub, pk_mul, bz_nlt, bz_nle, bz_ltn, bz_len, bz_neq, bz_eqn, bz_nn, ↓reduceIte, Bool.false_eq_true, if_pos, if_neg, Option.map_some]
              · have qX' := qX.fr hrl (scX_sc ff)
                obtain ⟨I4, r4, f4, a4, b4, c41, c42, c43, c44⟩ := pc_become (p := 26) (he := dr_h (dr_z z)) (lo := dr_l (dr_z z)) (sh := 5) (Or.inl rfl) hrl qX'.1 hB qX'.2.1
                rw [ff 4 10 (by unfold scX; omega)] at b4 c44
                have f4' : az_fr scX I I4 := ff.trans (f4.mono (fun r k q => by unfold pc_B at q; unfold scX; omega))
                have hm : dr_n (dr_z z) % np < np := Nat.mod_lt _ (by omega)
                obtain ⟨I5, r5, f5, p5⟩ := px_arm hrl hB qX f4' ⟨a4, c41, c42, c43, c44, b4⟩ (k := dr_n (dr_z z) % np) (by omega)
                rw [show (5 : Int32) = nI 5 from rfl, hA'] at r5
                have k43 : I4 4 3 = nI np := by rw [f4' 4 3 (by unfold scX; omega)]; exact c1
                obtain ⟨w1, w2⟩ := dr_vn (dr_z z)
                have ei : dr_v (dr_z z) - dr_v (dr_z z) / I4 4 3 * I4 4 3 = nI (dr_n (dr_z z) % np) := by
                  rw [w1, k43]; exact pk_rem (by omega) (by omega) (by omega)
                have hA3 := hA2 (dr_z z)
                refine ⟨I5, f5, Or.inl ⟨_, if_neg hi, hst' hi, ?_⟩⟩
                unfold rs_X_drawn_43_b
                rw [if_neg (show ¬ nI n ≤ nI i from by rw [nI_leI (by omega) (by omega)]; omega), dr_ze]
                unfold dr_h dr_l at r4
                unfold dr_v at ei
                rw [r4]
                (try dsimp only)
                rw [ei, r5, k43]
                by_cases i0 : i = 0
                · subst i0
                  simp (disch := omega) only [bl_lit, lgl, lgg, lgl0, lgg0, lglm, lggm, az_us, az_un, az_ue, az_urn, az_ure, bz_lit, nI_leI, nI_ltI, nI_eq, nI_clamp, nI_add, pk_sub, pk_mul, bz_nlt, bz_nle, bz_ltn, bz_len, bz_neq, bz_eqn, bz_nn, ↓reduceIte, Bool.false_eq_true, if_pos, if_neg]
                · by_cases z2 : A (dr_z z) < le
                  · simp (disch := omega) only [bl_lit, lgl, lgg, lgl0, lgg0, lglm, lggm, az_us, az_un, az_ue, az_urn, az_ure, bz_lit, nI_leI, nI_ltI, nI_eq, nI_clamp, nI_add, pk_sub, pk_mul, bz_nlt, bz_nle, bz_ltn, bz_len, bz_neq, bz_eqn, bz_nn, ↓reduceIte, Bool.false_eq_true, if_pos, if_neg, i0, z2]
                  · simp (disch := omega) only [bl_lit, lgl, lgg, lgl0, lgg0, lglm, lggm, az_us, az_un, az_ue, az_urn, az_ure, bz_lit, nI_leI, nI_ltI, nI_eq, nI_clamp, nI_add, pk_sub, pk_mul, bz_nlt, bz_nle, bz_ltn, bz_len, bz_neq, bz_eqn, bz_nn, ↓reduceIte, Bool.false_eq_true, if_pos, if_neg, i0, z2])
            (fun _ q => q)
            (by
              intro I0' ff0 s I' hs ff
              have hst' := hst s hs
              obtain ⟨z, sm, le, i⟩ := s
              (try dsimp only at hs hst' ⊢)
              unfold f_dr
              (try dsimp only)
              have k6 : I' 73 6 = nI np := by rw [ff 73 6 (by unfold scM; omega), ff0 73 6 (by unfold scX; omega)]; exact c2
              by_cases hi : n ≤ i
              · refine ⟨I', ff, Or.inr ⟨_, if_pos hi, ?_⟩⟩
                unfold rs_M_drawn_37_b rs_M_drawn_139
                rw [if_pos (show nI n ≤ nI i from nI_le hi (by omega))]
                rcases j2 with rfl | rfl
                · simp (disch := omega) only [bl_lit, lgl, lgg, lgl0, lgg0, lglm, lggm, az_us, az_un, az_ue, az_urn, az_ure, bz_lit, nI_leI, nI_ltI, nI_eq, nI_clamp, nI_add, pk_sub, pk_mul, bz_nlt, bz_nle, bz_ltn, bz_len, bz_neq, bz_eqn, bz_nn, ↓reduceIte, Bool.false_eq_true, if_pos, if_neg, Option.map_some]
                · simp (disch := omega) only [bl_lit, lgl, lgg, lgl0, lgg0, lglm, lggm, az_us, az_un, az_ue, az_urn, az_ure, bz_lit, nI_leI, nI_ltI, nI_eq, nI_clamp, nI_add, pk_sub, pk_mul, bz_nlt, bz_nle, bz_ltn, bz_len, bz_neq, bz_eqn, bz_nn, ↓reduceIte, Bool.false_eq_true, if_pos, if_neg, Option.map_some]
              · have qM' := qM.fr (scX_sc ff0)
                have k4 : I' 74 178 = I 4 10 := by rw [ff 74 178 (by unfold scM; omega), ff0 74 178 (by unfold scX; omega)]; exact hwe
                obtain ⟨I4, r4, f4, p4⟩ := pm_steps qM' hB ff (dr_h (dr_z z)) (dr_l (dr_z z)) 5 (I 4 10)
                have hm : dr_n (dr_z z) % np < np := Nat.mod_lt _ (by omega)
                obtain ⟨I5, r5, f5, p5⟩ := pm_arm (qX.ok hB _ _ _ _) qM' f4 p4 (k := dr_n (dr_z z) % np) (by omega)
                rw [show (5 : Int32) = nI 5 from rfl, hA'] at r5
                have k43 : I4 73 6 = nI np := by rw [f4 73 6 (by unfold scM; omega), ff0 73 6 (by unfold scX; omega)]; exact c2
                obtain ⟨w1, w2⟩ := dr_vn (dr_z z)
                have ei : dr_v (dr_z z) - dr_v (dr_z z) / I4 73 6 * I4 73 6 = nI (dr_n (dr_z z) % np) := by
                  rw [w1, k43]; exact pk_rem (by omega) (by omega) (by omega)
                have hA3 := hA2 (dr_z z)
                refine ⟨I5, f5, Or.inl ⟨_, if_neg hi, hst' hi, ?_⟩⟩
                unfold rs_M_drawn_37_b
                rw [if_neg (show ¬ nI n ≤ nI i from by rw [nI_leI (by omega) (by omega)]; omega), dr_ze]
                rw [← dr_gh] at r4
                unfold dr_g dr_l at r4
                unfold dr_v at ei
                rw [k4, r4]
                (try dsimp only)
                rw [ei, r5, k43, k6]
                by_cases i0 : i = 0
                · subst i0
                  simp (disch := omega) only [bl_lit, lgl, lgg, lgl0, lgg0, lglm, lggm, az_us, az_un, az_ue, az_urn, az_ure, bz_lit, nI_leI, nI_ltI, nI_eq, nI_clamp, nI_add, pk_sub, pk_mul, bz_nlt, bz_nle, bz_ltn, bz_len, bz_neq, bz_eqn, bz_nn, ↓reduceIte, Bool.false_eq_true, if_pos, if_neg]
                · by_cases z2 : A (dr_z z) < le
                  · simp (disch := omega) only [bl_lit, lgl, lgg, lgl0, lgg0, lglm, lggm, az_us, az_un, az_ue, az_urn, az_ure, bz_lit, nI_leI, nI_ltI, nI_eq, nI_clamp, nI_add, pk_sub, pk_mul, bz_nlt, bz_nle, bz_ltn, bz_len, bz_neq, bz_eqn, bz_nn, ↓reduceIte, Bool.false_eq_true, if_pos, if_neg, i0, z2]
                  · simp (disch := omega) only [bl_lit, lgl, lgg, lgl0, lgg0, lglm, lggm, az_us, az_un, az_ue, az_urn, az_ure, bz_lit, nI_leI, nI_ltI, nI_eq, nI_clamp, nI_add, pk_sub, pk_mul, bz_nlt, bz_nle, bz_ltn, bz_len, bz_neq, bz_eqn, bz_nn, ↓reduceIte, Bool.false_eq_true, if_pos, if_neg, i0, z2])
          refine mt_mk h v ?_ fx ?_ fy
          · rcases j2 with rfl | rfl
            · simp (disch := omega) only [bl_lit, lgl, lgg, lgl0, lgg0, lglm, lggm, az_us, az_un, az_ue, az_urn, az_ure, bz_lit, nI_leI, nI_ltI, nI_eq, nI_clamp, nI_add, pk_sub, pk_mul, bz_nlt, bz_nle, bz_ltn, bz_len, bz_neq, bz_eqn, bz_nn, ↓reduceIte, Bool.false_eq_true, if_pos, if_neg, c1]
              exact x
            · simp (disch := omega) only [bl_lit, lgl, lgg, lgl0, lgg0, lglm, lggm, az_us, az_un, az_ue, az_urn, az_ure, bz_lit, nI_leI, nI_ltI, nI_eq, nI_clamp, nI_add, pk_sub, pk_mul, bz_nlt, bz_nle, bz_ltn, bz_len, bz_neq, bz_eqn, bz_nn, ↓reduceIte, Bool.false_eq_true, if_pos, if_neg, c1]
              exact x
          · simp (disch := omega) only [bl_lit, lgl, lgg, lgl0, lgg0, lglm, lggm, az_us, az_un, az_ue, az_urn, az_ure, bz_lit, nI_leI, nI_ltI, nI_eq, nI_clamp, nI_add, pk_sub, pk_mul, bz_nlt, bz_nle, bz_ltn, bz_len, bz_neq, bz_eqn, bz_nn, ↓reduceIte, Bool.false_eq_true, if_pos, if_neg]
            exact y
end

/-! judge, byHeart, whose -/
def f_bk (A : Nat → Nat) (V : Nat → Int64) (m np : Nat) (k : Nat) : Nat ⊕ Int32 :=
  if m ≤ 2 * k then .inr (-nI 2) else if m ≤ 2 * k + 1 then .inr (nI k) else if (V (2 * k)).toInt32 < nI 0 then .inr (nI k) else if nI np - nI 1 < (V (2 * k)).toInt32 then .inr (nI k)
  else if lg_cmp (nI (A (V (2 * k)).toInt32.toNatClampNeg)).toInt64 (V (2 * k + 1)) = nI 0 then .inl (k + 1) else .inr (nI k)
def bw (A : Nat → Nat) (V : Nat → Int64) (m np : Nat) : Int32 := (pl (f_bk A V m np) 100000 0).getD 0
theorem f_bk_k {A : Nat → Nat} {V : Nat → Int64} {m np : Nat} (hm : m ≤ 60) (k : Nat) (hk : k ≤ 31) : (∃ s', f_bk A V m np k = .inl s' ∧ s' ≤ 31 ∧ 31 - s' < 31 - k) ∨ ∃ v, f_bk A V m np k = .inr v := by
  unfold f_bk
  by_cases h1 : m ≤ 2 * k
  · exact Or.inr ⟨_, if_pos h1⟩
  · rw [if_neg h1]
    by_cases h2 : m ≤ 2 * k + 1
    · exact Or.inr ⟨_, if_pos h2⟩
    · rw [if_neg h2]
      by_cases h3 : (V (2 * k)).toInt32 < nI 0
      · exact Or.inr ⟨_, if_pos h3⟩
      · rw [if_neg h3]
        by_cases h4 : nI np - nI 1 < (V (2 * k)).toInt32
        · exact Or.inr ⟨_, if_pos h4⟩
        · rw [if_neg h4]
          by_cases h5 : lg_cmp (nI (A (V (2 * k)).toInt32.toNatClampNeg)).toInt64 (V (2 * k + 1)) = nI 0
          · exact Or.inl ⟨_, if_pos h5, by omega, by omega⟩
          · exact Or.inr ⟨_, if_neg h5⟩
theorem bw_is {A : Nat → Nat} {V : Nat → Int64} {m np : Nat} (hm : m ≤ 60) : pl (f_bk A V m np) 100000 0 = some (bw A V m np) := by
  obtain ⟨v, hv⟩ := pl_ex (fun k => 31 - k) (f_bk_k (A := A) (V := V) (np := np) hm) 100000 0 (by omega) (by omega)
  unfold bw
  rw [hv]
  rfl
section
variable {I : Nat → Nat → Int32} {J : Nat → Nat → Int64} {rl rd : Nat}
theorem px_book {L : lw_T} {h pc pt : Nat → Nat} {he lo sh we : Int32} (hrl : rl = 16 ∨ rl = 21) (hB : lw_B L) {I0 : Nat → Nat → Int32} (q : wX I0 rl L h pc pt) (f0 : az_fr scX I0 I) (p : pq I L h he lo sh we) {s m np : Nat} (hs : s < 6) (hm : m ≤ 60) (hnp : np ≤ 8) (c1 : I0 4 3 = nI np) (c2 : I0 (61 + 2 * s) 2 = nI m) :
    ∃ I', rs_X_firstWrongTwo (61 + 2 * s) I J = some (bw (fun i => am h (tt L he lo sh we) (pc i) (pt i)) (J (62 + 2 * s)) m np, I') ∧ az_fr scX I0 I' ∧ pq I' L h he lo sh we := by
  have ok : th_ok h (tt L he lo sh we) := q.ok hB he lo sh we
  have hA : ∀ i, i < 8 → am h (tt L he lo sh we) (pc i) (pt i) ≤ 2178 := fun i hi => gd_d_le ok true (q.2.2 i hi).2.1 (q.2.2 i hi).2.2.2
  have hbw := bw_is (A := fun i => am h (tt L he lo sh we) (pc i) (pt i)) (V := J (62 + 2 * s)) (np := np) hm
  have f1 : az_fr scX I0 (az_ur I 59 (az_fill 8 (-1 : Int32) (I 59))) := f0.ur (fun k => Or.inl (by unfold scX; omega))
  have p1 : pq (az_ur I 59 (az_fill 8 (-1 : Int32) (I 59))) L h he lo sh we := p.fr (az_fr.refl.ur (fun k => Or.inl (by (try dsimp only); omega)))
  obtain ⟨I', x, f, p', _⟩ := pl_sim (b := fun s' : (Int32 × (Nat → Nat → Int32)) => rs_X_firstWrongTwo_10_b (61 + 2 * s) J s'.1 s'.2) (pk := fun k I => (nI (2 * k), I)) (fin := fun v I => (v, I)) (Inv := fun k => k ≤ 31) (P := fun I' => az_fr scX I0 I' ∧ pq I' L h he lo sh we ∧ ∀ i, i < 8 → I' 59 i = -nI 1 ∨ I' 59 i = nI (am h (tt L he lo sh we) (pc i) (pt i)))
    (by
      intro k I' hk hP
      obtain ⟨ff, pp, hc⟩ := hP
      have g1 : I' 4 3 = nI np := by rw [ff 4 3 (by unfold scX; omega)]; exact c1
      have g2 : I' (61 + 2 * s) 2 = nI m := by rw [ff (61 + 2 * s) 2 (by unfold scX; omega)]; exact c2
      have e2 : nI (2 * k) / nI 2 = nI k := by
        rw [pk_div (by omega) (by omega) (by omega), show 2 * k / 2 = k from by omega]
      (try dsimp only)
      unfold f_bk rs_X_firstWrongTwo_10_b rs_X_firstWrongTwo_53
      rw [sh_31]
      by_cases h1 : m ≤ 2 * k
      · rw [if_pos h1]
        exact ⟨I', ⟨ff, pp, hc⟩, Or.inr ⟨_, rfl, by simp (disch := omega) only [bl_lit, lgl, lgg, lgl0, lgg0, lglm, lggm, az_us, az_un, az_ue, az_urn, az_ure, bz_lit, nI_leI, nI_ltI, nI_eq, nI_clamp, nI_add, pk_sub, pk_mul, bz_nlt, bz_nle, bz_ltn, bz_len, bz_neq, bz_eqn, bz_nn, ↓reduceIte, Bool.false_eq_true, if_pos, if_neg, g2]⟩⟩
      · rw [if_neg h1]
        by_cases h2 : m ≤ 2 * k + 1
        · rw [if_pos h2]
          exact ⟨I', ⟨ff, pp, hc⟩, Or.inr ⟨_, rfl, by simp (disch := omega) only [bl_lit, lgl, lgg, lgl0, lgg0, lglm, lggm, az_us, az_un, az_ue, az_urn, az_ure, bz_lit, nI_leI, nI_ltI, nI_eq, nI_clamp, nI_add, pk_sub, pk_mul, bz_nlt, bz_nle, bz_ltn, bz_len, bz_neq, bz_eqn, bz_nn, ↓reduceIte, Bool.false_eq_true, if_pos, if_neg, g2, e2, Option.map_some]⟩⟩
        · rw [if_neg h2]
          rcases ix (J (62 + 2 * s) (2 * k)).toInt32 np (by omega) with h3 | ⟨h3, h4⟩ | ⟨i, hi, h4⟩
          · rw [if_pos h3]
            exact ⟨I', ⟨ff, pp, hc⟩, Or.inr ⟨_, rfl, by simp (disch := omega) only [bl_lit, lgl, lgg, lgl0, lgg0, lglm, lggm, az_us, az_un, az_ue, az_urn, az_ure, bz_lit, nI_leI, nI_ltI, nI_eq, nI_clamp, nI_add, pk_sub, pk_mul, bz_nlt, bz_nle, bz_ltn, bz_len, bz_neq, bz_eqn, bz_nn, ↓reduceIte, Bool.false_eq_true, if_pos, if_neg, g2, e2, h3, Option.map_some]⟩⟩
          · rw [if_neg h3, if_pos h4]
            exact ⟨I', ⟨ff, pp, hc⟩, Or.inr ⟨_, rfl, by simp (disch := omega) only [bl_lit, lgl, lgg, lgl0, lgg0, lglm, lggm, az_us, az_un, az_ue, az_urn, az_ure, bz_lit, nI_leI, nI_ltI, nI_eq, nI_clamp, nI_add, pk_sub, pk_mul, bz_nlt, bz_nle, bz_ltn, bz_len, bz_neq, bz_eqn, bz_nn, ↓reduceIte, Bool.false_eq_true, if_pos, if_neg, g1, g2, e2, h3, h4, Option.map_some]⟩⟩
          · rw [h4, if_neg (show ¬ nI i < nI 0 from nI_pos (by omega)), if_neg (show ¬ nI np - nI 1 < nI i from by rw [sub_lt (by omega) (by omega) (by omega)]; omega), nI_clamp (n := i) (by omega)]
            have hAi := hA i (by omega)
            have fin : ∀ I2 : Nat → Nat → Int32, I2 59 i = nI (am h (tt L he lo sh we) (pc i) (pt i)) → rs_X_firstWrongTwo_77 (61 + 2 * s) I2 J (nI (2 * k)) (nI i) = if lg_cmp (nI (am h (tt L he lo sh we) (pc i) (pt i))).toInt64 (J (62 + 2 * s) (2 * k + 1)) = nI 0 then some (.inl (nI (2 * (k + 1)), I2)) else some (.inr (nI k, I2)) := by
              intro I2 h59
              unfold rs_X_firstWrongTwo_77 rs_X_firstWrongTwo_96
              rw [sh_31]
              by_cases z : lg_cmp (nI (am h (tt L he lo sh we) (pc i) (pt i))).toInt64 (J (62 + 2 * s) (2 * k + 1)) = nI 0
              · simp (disch := omega) only [bl_lit, lgl, lgg, lgl0, lgg0, lglm, lggm, az_us, az_un, az_ue, az_urn, az_ure, bz_lit, nI_leI, nI_ltI, nI_eq, nI_clamp, nI_add, pk_sub, pk_mul, bz_nlt, bz_nle, bz_ltn, bz_len, bz_neq, bz_eqn, bz_nn, ↓reduceIte, Bool.false_eq_true, if_pos, if_neg, h59, z]
                rw [show 2 * k + 2 = 2 * (k + 1) from by omega]
              · simp (disch := omega) only [bl_lit, lgl, lgg, lgl0, lgg0, lglm, lggm, az_us, az_un, az_ue, az_urn, az_ure, bz_lit, nI_leI, nI_ltI, nI_eq, nI_clamp, nI_add, pk_sub, pk_mul, bz_nlt, bz_nle, bz_ltn, bz_len, bz_neq, bz_eqn, bz_nn, ↓reduceIte, Bool.false_eq_true, if_pos, if_neg, h59, z, e2, Option.map_some]
            rcases hc i (by omega) with h59 | h59
            · obtain ⟨I4, r4, f4, p4⟩ := px_arm hrl hB q ff pp (k := i) (by omega)
              have hP4 : az_fr scX I0 (az_u I4 59 i (nI (am h (tt L he lo sh we) (pc i) (pt i)))) ∧ pq (az_u I4 59 i (nI (am h (tt L he lo sh we) (pc i) (pt i)))) L h he lo sh we ∧ ∀ i', i' < 8 → az_u I4 59 i (nI (am h (tt L he lo sh we) (pc i) (pt i))) 59 i' = -nI 1 ∨ az_u I4 59 i (nI (am h (tt L he lo sh we) (pc i) (pt i))) 59 i' = nI (am h (tt L he lo sh we) (pc i') (pt i')) := by
                refine ⟨f4.u (by unfold scX; omega), p4.fr (az_fr.refl.u (by (try dsimp only); omega)), fun i' hi' => ?_⟩
                by_cases z : i' = i
                · subst z; exact Or.inr az_us
                · rw [az_un (by omega)]
                  have k59 : I4 59 i' = I' 59 i' := by
                    obtain ⟨a1, a2, a3, a4⟩ := (q.fr hrl (scX_sc ff)).2.2 i (by omega)
                    obtain ⟨I5, r5, f5⟩ := sp_min ok (Or.inl rfl) pp.2.2.2.2.2 a2 a4
                    have : I5 = I4 := by
                      unfold rs_X_armAt at r4
                      revert r4
                      simp (disch := omega) only [bl_lit, lgl, lgg, lgl0, lgg0, lglm, lggm, az_us, az_un, az_ue, az_urn, az_ure, bz_lit, nI_leI, nI_ltI, nI_eq, nI_clamp, nI_add, pk_sub, pk_mul, bz_nlt, bz_nle, bz_ltn, bz_len, bz_neq, bz_eqn, bz_nn, ↓reduceIte, Bool.false_eq_true, if_pos, if_neg, a1, a3, r5, Option.some.injEq, Prod.mk.injEq]
                      exact fun z => z.2
                    subst this
                    exact f5 59 i' (by unfold sp_F; omega)
                  rw [k59]
                  exact hc i' hi'
              have fn := fin (az_u I4 59 i (nI (am h (tt L he lo sh we) (pc i) (pt i)))) az_us
              refine ⟨_, hP4, ?_⟩
              by_cases z : lg_cmp (nI (am h (tt L he lo sh we) (pc i) (pt i))).toInt64 (J (62 + 2 * s) (2 * k + 1)) = nI 0
              · rw [if_pos z] at fn ⊢
                exact Or.inl ⟨_, rfl, by omega, by simp (disch := omega) only [sub_lt, le_sub, bl_lit, lgl, lgg, lgl0, lgg0, lglm, lggm, az_us, az_un, az_ue, az_urn, az_ure, bz_lit, nI_leI, nI_ltI, nI_eq, nI_clamp, nI_add, pk_sub, pk_mul, bz_nlt, bz_nle, bz_ltn, bz_len, bz_neq, bz_eqn, bz_nn, ↓reduceIte, Bool.false_eq_true, if_pos, if_neg, g1, g2, h4, h59, r4, fn]⟩
              · rw [if_neg z] at fn ⊢
                exact Or.inr ⟨_, rfl, by simp (disch := omega) only [sub_lt, le_sub, bl_lit, lgl, lgg, lgl0, lgg0, lglm, lggm, az_us, az_un, az_ue, az_urn, az_ure, bz_lit, nI_leI, nI_ltI, nI_eq, nI_clamp, nI_add, pk_sub, pk_mul, bz_nlt, bz_nle, bz_ltn, bz_len, bz_neq, bz_eqn, bz_nn, ↓reduceIte, Bool.false_eq_true, if_pos, if_neg, g1, g2, h4, h59, r4, fn]⟩
            · have fn := fin I' h59
              refine ⟨I', ⟨ff, pp, hc⟩, ?_⟩
              by_cases z : lg_cmp (nI (am h (tt L he lo sh we) (pc i) (pt i))).toInt64 (J (62 + 2 * s) (2 * k + 1)) = nI 0
              · rw [if_pos z] at fn ⊢
                exact Or.inl ⟨_, rfl, by omega, by simp (disch := omega) only [sub_lt, le_sub, bl_lit, lgl, lgg, lgl0, lgg0, lglm, lggm, az_us, az_un, az_ue, az_urn, az_ure, bz_lit, nI_leI, nI_ltI, nI_eq, nI_clamp, nI_add, pk_sub, pk_mul, bz_nlt, bz_nle, bz_ltn, bz_len, bz_neq, bz_eqn, bz_nn, ↓reduceIte, Bool.false_eq_true, if_pos, if_neg, g1, g2, h4, h59, fn]⟩
              · rw [if_neg z] at fn ⊢
                exact Or.inr ⟨_, rfl, by simp (disch := omega) only [sub_lt, le_sub, bl_lit, lgl, lgg, lgl0, lgg0, lglm, lggm, az_us, az_un, az_ue, az_urn, az_ure, bz_lit, nI_leI, nI_ltI, nI_eq, nI_clamp, nI_add, pk_sub, pk_mul, bz_nlt, bz_nle, bz_ltn, bz_len, bz_neq, bz_eqn, bz_nn, ↓reduceIte, Bool.false_eq_true, if_pos, if_neg, g1, g2, h4, h59, fn]⟩)
    100000 0 _ _ (by omega) ⟨f1, p1, fun i hi => Or.inl (by rw [az_ure rfl]; exact if_pos hi)⟩ hbw
  exact ⟨I', x, f, p'⟩
theorem pm_book {L : lw_T} {h pc pt : Nat → Nat} {t : Nat → Nat} (ok : th_ok h t) {I0 : Nat → Nat → Int32} (q : wM I0 L h pc pt) (f0 : az_fr scM I0 I) (p : dk_in I h t) {s m np : Nat} (hs : s < 6) (hm : m ≤ 60) (hnp : np ≤ 8) (c1 : I0 73 6 = nI np) (c2 : I0 97 s = nI m)
    (hJ : ∀ j, j < 60 → J 98 (60 * s + j) = J (62 + 2 * s) j ∧ (-32768 ≤ (J (62 + 2 * s) j).toInt ∧ (J (62 + 2 * s) j).toInt ≤ 32767)) :
    ∃ I', rs_M_firstFalse I J (nI s) = some (bw (fun i => am h t (pc i) (pt i)) (J (62 + 2 * s)) m np, I') ∧ az_fr scM I0 I' ∧ dk_in I' h t := by
  have hA : ∀ i, i < 8 → am h t (pc i) (pt i) ≤ 2178 := fun i hi => gd_d_le ok true (q.2.2 i hi).2.1 (q.2.2 i hi).2.2.2
  have hbw := bw_is (A := fun i => am h t (pc i) (pt i)) (V := J (62 + 2 * s)) (np := np) hm
  obtain ⟨I', x, f, p'⟩ := pl_sim (b := fun s' : (Int32 × (Nat → Nat → Int32)) => rs_M_firstFalse_2_b J (nI s) s'.1 s'.2) (pk := fun k I => (nI k, I)) (fin := fun v I => (v, I)) (Inv := fun k => k ≤ 31) (P := fun I' => az_fr scM I0 I' ∧ dk_in I' h t)
    (by
      intro k I' hk hP
      obtain ⟨ff, pp⟩ := hP
      have g1 : I' 73 6 = nI np := by rw [ff 73 6 (by unfold scM; omega)]; exact c1
      have g2 : I' 97 s = nI m := by rw [ff 97 s (by unfold scM; omega)]; exact c2
      (try dsimp only)
      unfold f_bk rs_M_firstFalse_2_b
      by_cases h1 : m ≤ 2 * k
      · rw [if_pos h1]
        exact ⟨I', ⟨ff, pp⟩, Or.inr ⟨_, rfl, by simp (disch := omega) only [bl_lit, lgl, lgg, lgl0, lgg0, lglm, lggm, az_us, az_un, az_ue, az_urn, az_ure, bz_lit, nI_leI, nI_ltI, nI_eq, nI_clamp, nI_add, pk_sub, pk_mul, bz_nlt, bz_nle, bz_ltn, bz_len, bz_neq, bz_eqn, bz_nn, ↓reduceIte, Bool.false_eq_true, if_pos, if_neg, g2]⟩⟩
      · rw [if_neg h1]
        by_cases h2 : m ≤ 2 * k + 1
        · rw [if_pos h2]
          exact ⟨I', ⟨ff, pp⟩, Or.inr ⟨_, rfl, by simp (disch := omega) only [bl_lit, lgl, lgg, lgl0, lgg0, lglm, lggm, az_us, az_un, az_ue, az_urn, az_ure, bz_lit, nI_leI, nI_ltI, nI_eq, nI_clamp, nI_add, pk_sub, pk_mul, bz_nlt, bz_nle, bz_ltn, bz_len, bz_neq, bz_eqn, bz_nn, ↓reduceIte, Bool.false_eq_true, if_pos, if_neg, g2]⟩⟩
        · rw [if_neg h2]
          obtain ⟨j1, j2, j3⟩ := hJ (2 * k) (by omega)
          obtain ⟨j4, j5, j6⟩ := hJ (2 * k + 1) (by omega)
          have j7 : J 98 (60 * s + 2 * k + 1) = J (62 + 2 * s) (2 * k + 1) := by rw [Nat.add_assoc]; exact j4
          have jj : J 98 (60 * s + 2 * k) = (J (62 + 2 * s) (2 * k)).toInt32.toInt64 := by rw [j1, bz_l32 (by omega) (by omega)]
          have jt : (J (62 + 2 * s) (2 * k)).toInt32.toInt64.toInt32 = (J (62 + 2 * s) (2 * k)).toInt32 := by rw [bz_l32 (by omega) (by omega)]
          rcases ix (J (62 + 2 * s) (2 * k)).toInt32 np (by omega) with h3 | ⟨h3, h4⟩ | ⟨i, hi, h4⟩
          · rw [if_pos h3]
            exact ⟨I', ⟨ff, pp⟩, Or.inr ⟨_, rfl, by simp (disch := omega) only [bl_lit, lgl, lgg, lgl0, lgg0, lglm, lggm, az_us, az_un, az_ue, az_urn, az_ure, bz_lit, nI_leI, nI_ltI, nI_eq, nI_clamp, nI_add, pk_sub, pk_mul, bz_nlt, bz_nle, bz_ltn, bz_len, bz_neq, bz_eqn, bz_nn, ↓reduceIte, Bool.false_eq_true, if_pos, if_neg, g2, jj, h3]⟩⟩
          · rw [if_neg h3, if_pos h4]
            exact ⟨I', ⟨ff, pp⟩, Or.inr ⟨_, rfl, by simp (disch := omega) only [bl_lit, lgl, lgg, lgl0, lgg0, lglm, lggm, az_us, az_un, az_ue, az_urn, az_ure, bz_lit, nI_leI, nI_ltI, nI_eq, nI_clamp, nI_add, pk_sub, pk_mul, bz_nlt, bz_nle, bz_ltn, bz_len, bz_neq, bz_eqn, bz_nn, ↓reduceIte, Bool.false_eq_true, if_pos, if_neg, g1, g2, jj, h3, h4]⟩⟩
          · rw [h4, if_neg (show ¬ nI i < nI 0 from nI_pos (by omega)), if_neg (show ¬ nI np - nI 1 < nI i from by rw [sub_lt (by omega) (by omega) (by omega)]; omega), nI_clamp (n := i) (by omega)]
            rw [h4] at jj jt
            obtain ⟨I4, r4, f4, p4⟩ := pm_arm ok q ff pp (k := i) (by omega)
            refine ⟨I4, ⟨f4, p4⟩, ?_⟩
            by_cases z : lg_cmp (nI (am h t (pc i) (pt i))).toInt64 (J (62 + 2 * s) (2 * k + 1)) = nI 0
            · rw [if_pos z]
              exact Or.inl ⟨_, rfl, by omega, by simp (disch := omega) only [sub_lt, le_sub, bl_lit, lgl, lgg, lgl0, lgg0, lglm, lggm, az_us, az_un, az_ue, az_urn, az_ure, bz_lit, nI_leI, nI_ltI, nI_eq, nI_clamp, nI_add, pk_sub, pk_mul, bz_nlt, bz_nle, bz_ltn, bz_len, bz_neq, bz_eqn, bz_nn, ↓reduceIte, Bool.false_eq_true, if_pos, if_neg, g1, g2, jj, jt, r4, j7, z]⟩
            · rw [if_neg z]
              exact Or.inr ⟨_, rfl, by simp (disch := omega) only [sub_lt, le_sub, bl_lit, lgl, lgg, lgl0, lgg0, lglm, lggm, az_us, az_un, az_ue, az_urn, az_ure, bz_lit, nI_leI, nI_ltI, nI_eq, nI_clamp, nI_add, pk_sub, pk_mul, bz_nlt, bz_nle, bz_ltn, bz_len, bz_neq, bz_eqn, bz_nn, ↓reduceIte, Bool.false_eq_true, if_pos, if_neg, g1, g2, jj, jt, r4, j7, z]⟩)
    100000 0 I _ (by omega) ⟨f0, p⟩ hbw
  exact ⟨I', x, f, p'⟩
theorem bk_is (h12 : rl_shf I J) {s : Nat} (hs : s < 6) : (∃ x, (x = -nI 11 ∨ x = -nI 12) ∧ rs_X_refusalOfBook I (nI s) = some x ∧ rs_M_shortsIs I (nI s) = some x) ∨ (∃ m, sh_row I J s 1 m ∧ rs_X_refusalOfBook I (nI s) = some 0 ∧ rs_M_shortsIs I (nI s) = some 1) := by
  unfold rs_X_refusalOfBook rs_M_shortsIs rs_X_refusalOfBook_6 rs_X_refusalOfBook_21
  rcases h12 s hs with ⟨e1, e2, e3⟩ | ⟨q, e1, e2, e3, e4, e5⟩ | ⟨t, m, h⟩
  · exact Or.inl ⟨-nI 11, Or.inl rfl, by simp (disch := omega) only [bl_lit, lgl, lgg, lgl0, lgg0, lglm, lggm, az_us, az_un, az_ue, az_urn, az_ure, bz_lit, nI_leI, nI_ltI, nI_eq, nI_clamp, nI_add, pk_sub, pk_mul, bz_nlt, bz_nle, bz_ltn, bz_len, bz_neq, bz_eqn, bz_nn, ↓reduceIte, Bool.false_eq_true, if_pos, if_neg, e1, e2], by simp (disch := omega) only [bl_lit, lgl, lgg, lgl0, lgg0, lglm, lggm, az_us, az_un, az_ue, az_urn, az_ure, bz_lit, nI_leI, nI_ltI, nI_eq, nI_clamp, nI_add, pk_sub, pk_mul, bz_nlt, bz_nle, bz_ltn, bz_len, bz_neq, bz_eqn, bz_nn, ↓reduceIte, Bool.false_eq_true, if_pos, if_neg, e3]⟩
  · exact Or.inl ⟨-nI 12, Or.inr rfl, by simp (disch := omega) only [bl_lit, lgl, lgg, lgl0, lgg0, lglm, lggm, az_us, az_un, az_ue, az_urn, az_ure, bz_lit, nI_leI, nI_ltI, nI_eq, nI_clamp, nI_add, pk_sub, pk_mul, bz_nlt, bz_nle, bz_ltn, bz_len, bz_neq, bz_eqn, bz_nn, ↓reduceIte, Bool.false_eq_true, if_pos, if_neg, e1, e2], by simp (disch := omega) only [bl_lit, lgl, lgg, lgl0, lgg0, lglm, lggm, az_us, az_un, az_ue, az_urn, az_ure, bz_lit, nI_leI, nI_ltI, nI_eq, nI_clamp, nI_add, pk_sub, pk_mul, bz_nlt, bz_nle, bz_ltn, bz_len, bz_neq, bz_eqn, bz_nn, ↓reduceIte, Bool.false_eq_true, if_pos, if_neg, e3]⟩
  · have h' := h
    obtain ⟨t1, t2, e1, e2, e3, e4, e5, e6⟩ := h'
    by_cases ht : t = 1
    · subst ht
      exact Or.inr ⟨m, h, by simp (disch := omega) only [bl_lit, lgl, lgg, lgl0, lgg0, lglm, lggm, az_us, az_un, az_ue, az_urn, az_ure, bz_lit, nI_leI, nI_ltI, nI_eq, nI_clamp, nI_add, pk_sub, pk_mul, bz_nlt, bz_nle, bz_ltn, bz_len, bz_neq, bz_eqn, bz_nn, ↓reduceIte, Bool.false_eq_true, if_pos, if_neg, e1, e2], by simp (disch := omega) only [bl_lit, lgl, lgg, lgl0, lgg0, lglm, lggm, az_us, az_un, az_ue, az_urn, az_ure, bz_lit, nI_leI, nI_ltI, nI_eq, nI_clamp, nI_add, pk_sub, pk_mul, bz_nlt, bz_nle, bz_ltn, bz_len, bz_neq, bz_eqn, bz_nn, ↓reduceIte, Bool.false_eq_true, if_pos, if_neg, e4]⟩
    · exact Or.inl ⟨-nI 12, Or.inr rfl, by simp (disch := omega) only [bl_lit, lgl, lgg, lgl0, lgg0, lglm, lggm, az_us, az_un, az_ue, az_urn, az_ure, bz_lit, nI_leI, nI_ltI, nI_eq, nI_clamp, nI_add, pk_sub, pk_mul, bz_nlt, bz_nle, bz_ltn, bz_len, bz_neq, bz_eqn, bz_nn, ↓reduceIte, Bool.false_eq_true, if_pos, if_neg, e1, e2], by simp (disch := omega) only [bl_lit, lgl, lgg, lgl0, lgg0, lglm, lggm, az_us, az_un, az_ue, az_urn, az_ure, bz_lit, nI_leI, nI_ltI, nI_eq, nI_clamp, nI_add, pk_sub, pk_mul, bz_nlt, bz_nle, bz_ltn, bz_len, bz_neq, bz_eqn, bz_nn, ↓reduceIte, Bool.false_eq_true, if_pos, if_neg, e4]⟩
theorem mt_judge (h : Rel I J rl rd) (a b : Int32) : mt (rs_X_judge rd rl I J a b) (fun I => rs_M_judge I J a b) J rl rd := by
  obtain ⟨np, nw, L, hh, pc, pt, n1, n2, ⟨c1, c2, c3, c4⟩, hrl, hB, qX, qM, hw, hwe⟩ := h.w
  have h12 := h.2.2.2.2.2.2.2.2.2.2.2
  unfold rs_X_judge rs_M_judge
  rcases ixc a 5 (by omega) with x | ⟨x, y⟩ | ⟨s, hs, rfl⟩
  · refine ⟨-nI 1, I, I, by simp (disch := omega) only [bl_lit, lgl, lgg, lgl0, lgg0, lglm, lggm, az_us, az_un, az_ue, az_urn, az_ure, bz_lit, nI_leI, nI_ltI, nI_eq, nI_clamp, nI_add, pk_sub, pk_mul, bz_nlt, bz_nle, bz_ltn, bz_len, bz_neq, bz_eqn, bz_nn, ↓reduceIte, Bool.false_eq_true, if_pos, if_neg, x], ?_, h⟩
    unfold rs_M_shortsIs
    simp (disch := omega) only [bl_lit, lgl, lgg, lgl0, lgg0, lglm, lggm, az_us, az_un, az_ue, az_urn, az_ure, bz_lit, nI_leI, nI_ltI, nI_eq, nI_clamp, nI_add, pk_sub, pk_mul, bz_nlt, bz_nle, bz_ltn, bz_len, bz_neq, bz_eqn, bz_nn, ↓reduceIte, Bool.false_eq_true, if_pos, if_neg, x]
  · refine ⟨-nI 1, I, I, by simp (disch := omega) only [bl_lit, lgl, lgg, lgl0, lgg0, lglm, lggm, az_us, az_un, az_ue, az_urn, az_ure, bz_lit, nI_leI, nI_ltI, nI_eq, nI_clamp, nI_add, pk_sub, pk_mul, bz_nlt, bz_nle, bz_ltn, bz_len, bz_neq, bz_eqn, bz_nn, ↓reduceIte, Bool.false_eq_true, if_pos, if_neg, x, y], ?_, h⟩
    unfold rs_M_shortsIs
    simp (disch := omega) only [bl_lit, lgl, lgg, lgl0, lgg0, lglm, lggm, az_us, az_un, az_ue, az_urn, az_ure, bz_lit, nI_leI, nI_ltI, nI_eq, nI_clamp, nI_add, pk_sub, pk_mul, bz_nlt, bz_nle, bz_ltn, bz_len, bz_neq, bz_eqn, bz_nn, ↓reduceIte, Bool.false_eq_true, if_pos, if_neg, x, y]
  · rcases bk_is h12 (s := s) (by omega) with ⟨x, hx, q1, q2⟩ | ⟨m, hr, q1, q2⟩
    · rcases ix b nw (by omega) with y | ⟨y, z⟩ | ⟨w, hww, rfl⟩
      · refine ⟨-nI 1, I, I, by simp (disch := omega) only [bl_lit, lgl, lgg, lgl0, lgg0, lglm, lggm, az_us, az_un, az_ue, az_urn, az_ure, bz_lit, nI_leI, nI_ltI, nI_eq, nI_clamp, nI_add, pk_sub, pk_mul, bz_nlt, bz_nle, bz_ltn, bz_len, bz_neq, bz_eqn, bz_nn, ↓reduceIte, Bool.false_eq_true, if_pos, if_neg, y], ?_, h⟩
        (try dsimp only)
        rw [q2]
        rcases hx with rfl | rfl
        · simp (disch := omega) only [bl_lit, lgl, lgg, lgl0, lgg0, lglm, lggm, az_us, az_un, az_ue, az_urn, az_ure, bz_lit, nI_leI, nI_ltI, nI_eq, nI_clamp, nI_add, pk_sub, pk_mul, bz_nlt, bz_nle, bz_ltn, bz_len, bz_neq, bz_eqn, bz_nn, ↓reduceIte, Bool.false_eq_true, if_pos, if_neg, y]
        · simp (disch := omega) only [bl_lit, lgl, lgg, lgl0, lgg0, lglm, lggm, az_us, az_un, az_ue, az_urn, az_ure, bz_lit, nI_leI, nI_ltI, nI_eq, nI_clamp, nI_add, pk_sub, pk_mul, bz_nlt, bz_nle, bz_ltn, bz_len, bz_neq, bz_eqn, bz_nn, ↓reduceIte, Bool.false_eq_true, if_pos, if_neg, y]
      · refine ⟨-nI 1, I, I, by simp (disch := omega) only [bl_lit, lgl, lgg, lgl0, lgg0, lglm, lggm, az_us, az_un, az_ue, az_urn, az_ure, bz_lit, nI_leI, nI_ltI, nI_eq, nI_clamp, nI_add, pk_sub, pk_mul, bz_nlt, bz_nle, bz_ltn, bz_len, bz_neq, bz_eqn, bz_nn, ↓reduceIte, Bool.false_eq_true, if_pos, if_neg, y, z, c3], ?_, h⟩
        (try dsimp only)
        rw [q2]
        rcases hx with rfl | rfl
        · simp (disch := omega) only [bl_lit, lgl, lgg, lgl0, lgg0, lglm, lggm, az_us, az_un, az_ue, az_urn, az_ure, bz_lit, nI_leI, nI_ltI, nI_eq, nI_clamp, nI_add, pk_sub, pk_mul, bz_nlt, bz_nle, bz_ltn, bz_len, bz_neq, bz_eqn, bz_nn, ↓reduceIte, Bool.false_eq_true, if_pos, if_neg, y, z, c4]
        · simp (disch := omega) only [bl_lit, lgl, lgg, lgl0, lgg0, lglm, lggm, az_us, az_un, az_ue, az_urn, az_ure, bz_lit, nI_leI, nI_ltI, nI_eq, nI_clamp, nI_add, pk_sub, pk_mul, bz_nlt, bz_nle, bz_ltn, bz_len, bz_neq, bz_eqn, bz_nn, ↓reduceIte, Bool.false_eq_true, if_pos, if_neg, y, z, c4]
      · refine ⟨x, I, I, ?_, ?_, h⟩
        · rcases hx with rfl | rfl
          · simp (disch := omega) only [sub_lt, le_sub, bl_lit, lgl, lgg, lgl0, lgg0, lglm, lggm, az_us, az_un, az_ue, az_urn, az_ure, bz_lit, nI_leI, nI_ltI, nI_eq, nI_clamp, nI_add, pk_sub, pk_mul, bz_nlt, bz_nle, bz_ltn, bz_len, bz_neq, bz_eqn, bz_nn, ↓reduceIte, Bool.false_eq_true, if_pos, if_neg, c3, q1]
          · simp (disch := omega) only [sub_lt, le_sub, bl_lit, lgl, lgg, lgl0, lgg0, lglm, lggm, az_us, az_un, az_ue, az_urn, az_ure, bz_lit, nI_leI, nI_ltI, nI_eq, nI_clamp, nI_add, pk_sub, pk_mul, bz_nlt, bz_nle, bz_ltn, bz_len, bz_neq, bz_eqn, bz_nn, ↓reduceIte, Bool.false_eq_true, if_pos, if_neg, c3, q1]
        · (try dsimp only)
          rw [q2]
          rcases hx with rfl | rfl
          · simp (disch := omega) only [sub_lt, le_sub, bl_lit, lgl, lgg, lgl0, lgg0, lglm, lggm, az_us, az_un, az_ue, az_urn, az_ure, bz_lit, nI_leI, nI_ltI, nI_eq, nI_clamp, nI_add, pk_sub, pk_mul, bz_nlt, bz_nle, bz_ltn, bz_len, bz_neq, bz_eqn, bz_nn, ↓reduceIte, Bool.false_eq_true, if_pos, if_neg, c4]
          · simp (disch := omega) only [sub_lt, le_sub, bl_lit, lgl, lgg, lgl0, lgg0, lglm, lggm, az_us, az_un, az_ue, az_urn, az_ure, bz_lit, nI_leI, nI_ltI, nI_eq, nI_clamp, nI_add, pk_sub, pk_mul, bz_nlt, bz_nle, bz_ltn, bz_len, bz_neq, bz_eqn, bz_nn, ↓reduceIte, Bool.false_eq_true, if_pos, if_neg, c4]
    · rcases ix b nw (by omega) with y | ⟨y, z⟩ | ⟨w, hww, rfl⟩
      · exact ⟨-nI 1, I, I, by simp (disch := omega) only [bl_lit, lgl, lgg, lgl0, lgg0, lglm, lggm, az_us, az_un, az_ue, az_urn, az_ure, bz_lit, nI_leI, nI_ltI, nI_eq, nI_clamp, nI_add, pk_sub, pk_mul, bz_nlt, bz_nle, bz_ltn, bz_len, bz_neq, bz_eqn, bz_nn, ↓reduceIte, Bool.false_eq_true, if_pos, if_neg, y], by (try dsimp only); rw [q2]; simp (disch := omega) only [bl_lit, lgl, lgg, lgl0, lgg0, lglm, lggm, az_us, az_un, az_ue, az_urn, az_ure, bz_lit, nI_leI, nI_ltI, nI_eq, nI_clamp, nI_add, pk_sub, pk_mul, bz_nlt, bz_nle, bz_ltn, bz_len, bz_neq, bz_eqn, bz_nn, ↓reduceIte, Bool.false_eq_true, if_pos, if_neg, y], h⟩
      · exact ⟨-nI 1, I, I, by simp (disch := omega) only [bl_lit, lgl, lgg, lgl0, lgg0, lglm, lggm, az_us, az_un, az_ue, az_urn, az_ure, bz_lit, nI_leI, nI_ltI, nI_eq, nI_clamp, nI_add, pk_sub, pk_mul, bz_nlt, bz_nle, bz_ltn, bz_len, bz_neq, bz_eqn, bz_nn, ↓reduceIte, Bool.false_eq_true, if_pos, if_neg, y, z, c3], by (try dsimp only); rw [q2]; simp (disch := omega) only [bl_lit, lgl, lgg, lgl0, lgg0, lglm, lggm, az_us, az_un, az_ue, az_urn, az_ure, bz_lit, nI_leI, nI_ltI, nI_eq, nI_clamp, nI_add, pk_sub, pk_mul, bz_nlt, bz_nle, bz_ltn, bz_len, bz_neq, bz_eqn, bz_nn, ↓reduceIte, Bool.false_eq_true, if_pos, if_neg, y, z, c4], h⟩
      · have hr' := hr
        obtain ⟨t1, t2, e1, e2, e3, e4, e5, e6⟩ := hr'
        obtain ⟨I1, r1, f1, p1⟩ := px_set hrl hB qX (w := w) (by omega)
        obtain ⟨I2, r2, f2, p2⟩ := px_book (J := J) hrl hB qX f1 p1 (s := s) (by omega) t2 n1 c1 e3
        obtain ⟨g1, g2, g3⟩ := hw w (by omega)
        have qM' := qM.fr (scX_sc f2)
        obtain ⟨I3, r3, f3, p3⟩ := pm_for qM' hB az_fr.refl (w := w) (by omega)
        rw [f2 74 (160 + w) (by unfold scX; omega), f2 74 (166 + w) (by unfold scX; omega), f2 74 (172 + w) (by unfold scX; omega), f2 74 178 (by unfold scX; omega), g1, g2, g3, hwe] at p3
        obtain ⟨I4, r4, f4, p4⟩ := pm_book (J := J) (qX.ok hB _ _ _ _) qM' f3 p3 (s := s) (m := m) (np := np) (by omega) t2 n1 (by rw [f2 73 6 (by unfold scX; omega)]; exact c2) (by rw [f2 97 s (by unfold scX; omega)]; exact e5) (fun j hj => ⟨(e6 j hj).1, (e6 j hj).2.2 rfl⟩)
        refine mt_mk h (bw (fun i => am hh (tt L (I 8 w) (I 9 w) (I 10 w) (I 4 10)) (pc i) (pt i)) (J (62 + 2 * s)) m np) ?_ f2 ?_ f4
        · unfold rs_X_judge_41
          simp (disch := omega) only [sub_lt, le_sub, bl_lit, lgl, lgg, lgl0, lgg0, lglm, lggm, az_us, az_un, az_ue, az_urn, az_ure, bz_lit, nI_leI, nI_ltI, nI_eq, nI_clamp, nI_add, pk_sub, pk_mul, bz_nlt, bz_nle, bz_ltn, bz_len, bz_neq, bz_eqn, bz_nn, ↓reduceIte, Bool.false_eq_true, if_pos, if_neg, c3, q1, r1, r2]
        · (try dsimp only)
          have q3 : rs_M_shortsIs I2 (nI s) = some 1 := by
            rw [← q2]
            unfold rs_M_shortsIs
            rw [f2 96 _ (by unfold scX; omega)]
          have c4' : I2 73 7 = nI nw := by rw [f2 73 7 (by unfold scX; omega)]; exact c4
          rw [q3]
          simp (disch := omega) only [sub_lt, le_sub, bl_lit, lgl, lgg, lgl0, lgg0, lglm, lggm, az_us, az_un, az_ue, az_urn, az_ure, bz_lit, nI_leI, nI_ltI, nI_eq, nI_clamp, nI_add, pk_sub, pk_mul, bz_nlt, bz_nle, bz_ltn, bz_len, bz_neq, bz_eqn, bz_nn, ↓reduceIte, Bool.false_eq_true, if_pos, if_neg, c4', r3, r4]
theorem sI_fr {I' : Nat → Nat → Int32} (f : az_fr scX I I') {s : Nat} : rs_M_shortsIs I' (nI s) = rs_M_shortsIs I (nI s) := by
  unfold rs_M_shortsIs
  rw [f 96 _ (by unfold scX; omega)]
def f_bh (B : Nat → Int32) (what : Int32) (s : Int32 × Int32 × Nat) : (Int32 × Int32 × Nat) ⊕ Int32 :=
  if 19 ≤ s.2.2 then .inr (if what = nI 0 then s.1 else s.2.1) else .inl (if B s.2.2 = -nI 2 then (if s.1 = nI 0 then (s.1 + nI 1, hk s.2.2, s.2.2 + 1) else (s.1 + nI 1, s.2.1, s.2.2 + 1)) else (s.1, s.2.1, s.2.2 + 1))
theorem f_bh_k (B : Nat → Int32) (what : Int32) (s : Int32 × Int32 × Nat) (hs : s.2.2 ≤ 19) : (∃ s', f_bh B what s = .inl s' ∧ s'.2.2 ≤ 19 ∧ 19 - s'.2.2 < 19 - s.2.2) ∨ ∃ v, f_bh B what s = .inr v := by
  unfold f_bh
  by_cases h : 19 ≤ s.2.2
  · exact Or.inr ⟨_, if_pos h⟩
  · refine Or.inl ⟨_, if_neg h, ?_, ?_⟩
    · split
      · split
        · (try dsimp only); omega
        · (try dsimp only); omega
      · (try dsimp only); omega
    · split
      · split
        · (try dsimp only); omega
        · (try dsimp only); omega
      · (try dsimp only); omega
theorem mt_byHeart (h : Rel I J rl rd) (a b d : Int32) : mt (rs_X_byHeart rd rl I J a b d) (fun I => rs_M_byHeart I J a b d) J rl rd := by
  obtain ⟨np, nw, L, hh, pc, pt, n1, n2, ⟨c1, c2, c3, c4⟩, hrl, hB, qX, qM, hw, hwe⟩ := h.w
  have h12 := h.2.2.2.2.2.2.2.2.2.2.2
  unfold rs_X_byHeart rs_M_byHeart
  rcases ixc a 5 (by omega) with x | ⟨x, y⟩ | ⟨s, hs, rfl⟩
  · refine ⟨-nI 2000000000, I, I, by simp (disch := omega) only [bl_lit, lgl, lgg, lgl0, lgg0, lglm, lggm, az_us, az_un, az_ue, az_urn, az_ure, bz_lit, nI_leI, nI_ltI, nI_eq, nI_clamp, nI_add, pk_sub, pk_mul, bz_nlt, bz_nle, bz_ltn, bz_len, bz_neq, bz_eqn, bz_nn, ↓reduceIte, Bool.false_eq_true, if_pos, if_neg, x], ?_, h⟩
    unfold rs_M_shortsIs
    simp (disch := omega) only [bl_lit, lgl, lgg, lgl0, lgg0, lglm, lggm, az_us, az_un, az_ue, az_urn, az_ure, bz_lit, nI_leI, nI_ltI, nI_eq, nI_clamp, nI_add, pk_sub, pk_mul, bz_nlt, bz_nle, bz_ltn, bz_len, bz_neq, bz_eqn, bz_nn, ↓reduceIte, Bool.false_eq_true, if_pos, if_neg, x]
  · refine ⟨-nI 2000000000, I, I, by simp (disch := omega) only [bl_lit, lgl, lgg, lgl0, lgg0, lglm, lggm, az_us, az_un, az_ue, az_urn, az_ure, bz_lit, nI_leI, nI_ltI, nI_eq, nI_clamp, nI_add, pk_sub, pk_mul, bz_nlt, bz_nle, bz_ltn, bz_len, bz_neq, bz_eqn, bz_nn, ↓reduceIte, Bool.false_eq_true, if_pos, if_neg, x, y], ?_, h⟩
    unfold rs_M_shortsIs
    simp (disch := omega) only [bl_lit, lgl, lgg, lgl0, lgg0, lglm, lggm, az_us, az_un, az_ue, az_urn, az_ure, bz_lit, nI_leI, nI_ltI, nI_eq, nI_clamp, nI_add, pk_sub, pk_mul, bz_nlt, bz_nle, bz_ltn, bz_len, bz_neq, bz_eqn, bz_nn, ↓reduceIte, Bool.false_eq_true, if_pos, if_neg, x, y]
  · rcases bk_is h12 (s := s) (by omega) with ⟨x, hx, q1, q2⟩ | ⟨m, hr, q1, q2⟩
    · have M : (match rs_M_shortsIs I (nI s) with
        | none => none
        | some x_1 => if x_1 < 0 then some ((-2000000000 : Int32), I) else if lg_cmp b.toInt64 (0 : Int64) < 0 then some ((-2000000000 : Int32), I) else if 0 < lg_cmp b.toInt64 ((I 73 7) - 1).toInt64 then some ((-2000000000 : Int32), I) else if lg_cmp d.toInt64 (0 : Int64) < 0 then some ((-2000000000 : Int32), I) else if 0 < lg_cmp d.toInt64 (1 : Int64) then some ((-2000000000 : Int32), I) else rs_M_byHeart_41 I J (nI s) b d 0 (-99) (-9)) = some (-nI 2000000000, I) := by
        rw [q2]
        rcases hx with rfl | rfl
        · simp (disch := omega) only [bl_lit, lgl, lgg, lgl0, lgg0, lglm, lggm, az_us, az_un, az_ue, az_urn, az_ure, bz_lit, nI_leI, nI_ltI, nI_eq, nI_clamp, nI_add, pk_sub, pk_mul, bz_nlt, bz_nle, bz_ltn, bz_len, bz_neq, bz_eqn, bz_nn, ↓reduceIte, Bool.false_eq_true, if_pos, if_neg]
        · simp (disch := omega) only [bl_lit, lgl, lgg, lgl0, lgg0, lglm, lggm, az_us, az_un, az_ue, az_urn, az_ure, bz_lit, nI_leI, nI_ltI, nI_eq, nI_clamp, nI_add, pk_sub, pk_mul, bz_nlt, bz_nle, bz_ltn, bz_len, bz_neq, bz_eqn, bz_nn, ↓reduceIte, Bool.false_eq_true, if_pos, if_neg]
      refine ⟨-nI 2000000000, I, I, ?_, M, h⟩
      rcases ix b nw (by omega) with y | ⟨y, z⟩ | ⟨w, hww, rfl⟩
      · simp (disch := omega) only [bl_lit, lgl, lgg, lgl0, lgg0, lglm, lggm, az_us, az_un, az_ue, az_urn, az_ure, bz_lit, nI_leI, nI_ltI, nI_eq, nI_clamp, nI_add, pk_sub, pk_mul, bz_nlt, bz_nle, bz_ltn, bz_len, bz_neq, bz_eqn, bz_nn, ↓reduceIte, Bool.false_eq_true, if_pos, if_neg, y]
      · simp (disch := omega) only [bl_lit, lgl, lgg, lgl0, lgg0, lglm, lggm, az_us, az_un, az_ue, az_urn, az_ure, bz_lit, nI_leI, nI_ltI, nI_eq, nI_clamp, nI_add, pk_sub, pk_mul, bz_nlt, bz_nle, bz_ltn, bz_len, bz_neq, bz_eqn, bz_nn, ↓reduceIte, Bool.false_eq_true, if_pos, if_neg, y, z, c3]
      · rcases ixc d 1 (by omega) with y | ⟨y, z⟩ | ⟨j, hj, rfl⟩
        · simp (disch := omega) only [sub_lt, le_sub, bl_lit, lgl, lgg, lgl0, lgg0, lglm, lggm, az_us, az_un, az_ue, az_urn, az_ure, bz_lit, nI_leI, nI_ltI, nI_eq, nI_clamp, nI_add, pk_sub, pk_mul, bz_nlt, bz_nle, bz_ltn, bz_len, bz_neq, bz_eqn, bz_nn, ↓reduceIte, Bool.false_eq_true, if_pos, if_neg, c3, bz_neL y]
        · simp (disch := omega) only [sub_lt, le_sub, bl_lit, lgl, lgg, lgl0, lgg0, lglm, lggm, az_us, az_un, az_ue, az_urn, az_ure, bz_lit, nI_leI, nI_ltI, nI_eq, nI_clamp, nI_add, pk_sub, pk_mul, bz_nlt, bz_nle, bz_ltn, bz_len, bz_neq, bz_eqn, bz_nn, ↓reduceIte, Bool.false_eq_true, if_pos, if_neg, c3, bz_neG z]
        · have j2 : j = 0 ∨ j = 1 := by omega
          rcases hx with rfl | rfl
          · rcases j2 with rfl | rfl
            · simp (disch := omega) only [sub_lt, le_sub, bl_lit, lgl, lgg, lgl0, lgg0, lglm, lggm, az_us, az_un, az_ue, az_urn, az_ure, bz_lit, nI_leI, nI_ltI, nI_eq, nI_clamp, nI_add, pk_sub, pk_mul, bz_nlt, bz_nle, bz_ltn, bz_len, bz_neq, bz_eqn, bz_nn, ↓reduceIte, Bool.false_eq_true, if_pos, if_neg, c3, q1]
            · simp (disch := omega) only [sub_lt, le_sub, bl_lit, lgl, lgg, lgl0, lgg0, lglm, lggm, az_us, az_un, az_ue, az_urn, az_ure, bz_lit, nI_leI, nI_ltI, nI_eq, nI_clamp, nI_add, pk_sub, pk_mul, bz_nlt, bz_nle, bz_ltn, bz_len, bz_neq, bz_eqn, bz_nn, ↓reduceIte, Bool.false_eq_true, if_pos, if_neg, c3, q1]
          · rcases j2 with rfl | rfl
            · simp (disch := omega) only [sub_lt, le_sub, bl_lit, lgl, lgg, lgl0, lgg0, lglm, lggm, az_us, az_un, az_ue, az_urn, az_ure, bz_lit, nI_leI, nI_ltI, nI_eq, nI_clamp, nI_add, pk_sub, pk_mul, bz_nlt, bz_nle, bz_ltn, bz_len, bz_neq, bz_eqn, bz_nn, ↓reduceIte, Bool.false_eq_true, if_pos, if_neg, c3, q1]
            · simp (disch := omega) only [sub_lt, le_sub, bl_lit, lgl, lgg, lgl0, lgg0, lglm, lggm, az_us, az_un, az_ue, az_urn, az_ure, bz_lit, nI_leI, nI_ltI, nI_eq, nI_clamp, nI_add, pk_sub, pk_mul, bz_nlt, bz_nle, bz_ltn, bz_len, bz_neq, bz_eqn, bz_nn, ↓reduceIte, Bool.false_eq_true, if_pos, if_neg, c3, q1]
    · rcases ix b nw (by omega) with y | ⟨y, z⟩ | ⟨w, hww, rfl⟩
      · exact ⟨-nI 2000000000, I, I, by simp (disch := omega) only [bl_lit, lgl, lgg, lgl0, lgg0, lglm, lggm, az_us, az_un, az_ue, az_urn, az_ure, bz_lit, nI_leI, nI_ltI, nI_eq, nI_clamp, nI_add, pk_sub, pk_mul, bz_nlt, bz_nle, bz_ltn, bz_len, bz_neq, bz_eqn, bz_nn, ↓reduceIte, Bool.false_eq_true, if_pos, if_neg, y], by (try dsimp only); rw [q2]; simp (disch := omega) only [bl_lit, lgl, lgg, lgl0, lgg0, lglm, lggm, az_us, az_un, az_ue, az_urn, az_ure, bz_lit, nI_leI, nI_ltI, nI_eq, nI_clamp, nI_add, pk_sub, pk_mul, bz_nlt, bz_nle, bz_ltn, bz_len, bz_neq, bz_eqn, bz_nn, ↓reduceIte, Bool.false_eq_true, if_pos, if_neg, y], h⟩
      · exact ⟨-nI 2000000000, I, I, by simp (disch := omega) only [bl_lit, lgl, lgg, lgl0, lgg0, lglm, lggm, az_us, az_un, az_ue, az_urn, az_ure, bz_lit, nI_leI, nI_ltI, nI_eq, nI_clamp, nI_add, pk_sub, pk_mul, bz_nlt, bz_nle, bz_ltn, bz_len, bz_neq, bz_eqn, bz_nn, ↓reduceIte, Bool.false_eq_true, if_pos, if_neg, y, z, c3], by (try dsimp only); rw [q2]; simp (disch := omega) only [bl_lit, lgl, lgg, lgl0, lgg0, lglm, lggm, az_us, az_un, az_ue, az_urn, az_ure, bz_lit, nI_leI, nI_ltI, nI_eq, nI_clamp, nI_add, pk_sub, pk_mul, bz_nlt, bz_nle, bz_ltn, bz_len, bz_neq, bz_eqn, bz_nn, ↓reduceIte, Bool.false_eq_true, if_pos, if_neg, y, z, c4], h⟩
      · rcases ixc d 1 (by omega) with y | ⟨y, z⟩ | ⟨j, hj, rfl⟩
        · exact ⟨-nI 2000000000, I, I, by simp (disch := omega) only [sub_lt, le_sub, bl_lit, lgl, lgg, lgl0, lgg0, lglm, lggm, az_us, az_un, az_ue, az_urn, az_ure, bz_lit, nI_leI, nI_ltI, nI_eq, nI_clamp, nI_add, pk_sub, pk_mul, bz_nlt, bz_nle, bz_ltn, bz_len, bz_neq, bz_eqn, bz_nn, ↓reduceIte, Bool.false_eq_true, if_pos, if_neg, bz_neL y, c3], by (try dsimp only); rw [q2]; simp (disch := omega) only [sub_lt, le_sub, bl_lit, lgl, lgg, lgl0, lgg0, lglm, lggm, az_us, az_un, az_ue, az_urn, az_ure, bz_lit, nI_leI, nI_ltI, nI_eq, nI_clamp, nI_add, pk_sub, pk_mul, bz_nlt, bz_nle, bz_ltn, bz_len, bz_neq, bz_eqn, bz_nn, ↓reduceIte, Bool.false_eq_true, if_pos, if_neg, y, c4], h⟩
        · exact ⟨-nI 2000000000, I, I, by simp (disch := omega) only [sub_lt, le_sub, bl_lit, lgl, lgg, lgl0, lgg0, lglm, lggm, az_us, az_un, az_ue, az_urn, az_ure, bz_lit, nI_leI, nI_ltI, nI_eq, nI_clamp, nI_add, pk_sub, pk_mul, bz_nlt, bz_nle, bz_ltn, bz_len, bz_neq, bz_eqn, bz_nn, ↓reduceIte, Bool.false_eq_true, if_pos, if_neg, bz_neG z, c3], by (try dsimp only); rw [q2]; simp (disch := omega) only [sub_lt, le_sub, bl_lit, lgl, lgg, lgl0, lgg0, lglm, lggm, az_us, az_un, az_ue, az_urn, az_ure, bz_lit, nI_leI, nI_ltI, nI_eq, nI_clamp, nI_add, pk_sub, pk_mul, bz_nlt, bz_nle, bz_ltn, bz_len, bz_neq, bz_eqn, bz_nn, ↓reduceIte, Bool.false_eq_true, if_pos, if_neg, y, z, c4], h⟩
        · have hr' := hr
          obtain ⟨t1, t2, e1, e2, e3, e4, e5, e6⟩ := hr'
          obtain ⟨I1, r1, f1, p1⟩ := px_set hrl hB qX (w := w) (by omega)
          obtain ⟨g1, g2, g3⟩ := hw w (by omega)
          obtain ⟨v, I2, I3, x, fx, y, fy⟩ := mt_loop (I0 := I) (I1 := I1) (bX := fun q : (Int32 × Int32 × Int32 × (Nat → Nat → Int32)) => rs_X_byHeart_49_b rd rl J (nI s) (nI j) q.1 q.2.1 q.2.2.1 q.2.2.2) (bM := fun q : (Int32 × Int32 × Int32 × (Nat → Nat → Int32)) => rs_M_byHeart_41_b J (nI s) (nI w) (nI j) q.1 q.2.1 q.2.2.1 q.2.2.2)
            (f_bh (fun k => bw (fun i => am hh (tt L (hk k) (I 9 w) (I 10 w) (I 4 10)) (pc i) (pt i)) (J (62 + 2 * s)) m np) (nI j)) (pX := fun q I => (q.1, q.2.1, hk q.2.2, I)) (pM := fun q I => (q.1, q.2.1, hk q.2.2, I)) (fun q => q.2.2 ≤ 19) (fun q => 19 - q.2.2) (nI 0, -nI 99, 0) (by (try dsimp only); omega) (by (try dsimp only); omega) (f_bh_k _ _)
            (PX := fun I' => az_fr scX I I' ∧ ∃ he, pq I' L hh he (I 9 w) (I 10 w) (I 4 10)) ⟨f1, _, p1⟩
            (by
              intro q I' hs' hP
              obtain ⟨v4, v5, i⟩ := q
              obtain ⟨ff, he, pp⟩ := hP
              (try dsimp only at hs' ⊢)
              unfold f_bh
              (try dsimp only)
              by_cases hi : 19 ≤ i
              · refine ⟨I', ⟨ff, he, pp⟩, Or.inr ⟨_, if_pos hi, ?_⟩⟩
                unfold rs_X_byHeart_49_b rs_X_byHeart_103
                by_cases j0 : j = 0
                · simp (disch := omega) only [bl_lit, lgl, lgg, lgl0, lgg0, lglm, lggm, az_us, az_un, az_ue, az_urn, az_ure, bz_lit, nI_leI, nI_ltI, nI_eq, nI_clamp, nI_add, pk_sub, pk_mul, bz_nlt, bz_nle, bz_ltn, bz_len, bz_neq, bz_eqn, bz_nn, ↓reduceIte, Bool.false_eq_true, if_pos, if_neg, hk_lt, j0, Option.map_some]
                · simp (disch := omega) only [bl_lit, lgl, lgg, lgl0, lgg0, lglm, lggm, az_us, az_un, az_ue, az_urn, az_ure, bz_lit, nI_leI, nI_ltI, nI_eq, nI_clamp, nI_add, pk_sub, pk_mul, bz_nlt, bz_nle, bz_ltn, bz_len, bz_neq, bz_eqn, bz_nn, ↓reduceIte, Bool.false_eq_true, if_pos, if_neg, hk_lt, j0, Option.map_some]
              · obtain ⟨I4, r4, f4, p4⟩ := px_heart hrl hB qX ff pp (hk i)
                obtain ⟨I5, r5, f5, p5⟩ := px_book (J := J) hrl hB qX f4 p4 (s := s) (by omega) t2 n1 c1 e3
                refine ⟨I5, ⟨f5, _, p5⟩, Or.inl ⟨_, if_neg hi, ?_, ?_⟩⟩
                · split
                  · split
                    · (try dsimp only); omega
                    · (try dsimp only); omega
                  · (try dsimp only); omega
                · unfold rs_X_byHeart_49_b rs_X_byHeart_72
                  by_cases z : bw (fun i_1 => am hh (tt L (hk i) (I 9 w) (I 10 w) (I 4 10)) (pc i_1) (pt i_1)) (J (62 + 2 * s)) m np = -nI 2
                  · by_cases z2 : v4 = nI 0
                    · simp (disch := omega) only [bl_lit, lgl, lgg, lgl0, lgg0, lglm, lggm, az_us, az_un, az_ue, az_urn, az_ure, bz_lit, nI_leI, nI_ltI, nI_eq, nI_clamp, nI_add, pk_sub, pk_mul, bz_nlt, bz_nle, bz_ltn, bz_len, bz_neq, bz_eqn, bz_nn, ↓reduceIte, Bool.false_eq_true, if_pos, if_neg, hk_lt, r4, r5, z, z2, hk_add]
                    · simp (disch := omega) only [bl_lit, lgl, lgg, lgl0, lgg0, lglm, lggm, az_us, az_un, az_ue, az_urn, az_ure, bz_lit, nI_leI, nI_ltI, nI_eq, nI_clamp, nI_add, pk_sub, pk_mul, bz_nlt, bz_nle, bz_ltn, bz_len, bz_neq, bz_eqn, bz_nn, ↓reduceIte, Bool.false_eq_true, if_pos, if_neg, hk_lt, r4, r5, z, z2, hk_add]
                  · simp (disch := omega) only [bl_lit, lgl, lgg, lgl0, lgg0, lglm, lggm, az_us, az_un, az_ue, az_urn, az_ure, bz_lit, nI_leI, nI_ltI, nI_eq, nI_clamp, nI_add, pk_sub, pk_mul, bz_nlt, bz_nle, bz_ltn, bz_len, bz_neq, bz_eqn, bz_nn, ↓reduceIte, Bool.false_eq_true, if_pos, if_neg, hk_lt, r4, r5, z, hk_add])
            (fun _ q => q.1)
            (by
              intro I0' ff0 q I' hs' ff
              obtain ⟨v4, v5, i⟩ := q
              (try dsimp only at hs' ⊢)
              unfold f_bh
              (try dsimp only)
              by_cases hi : 19 ≤ i
              · refine ⟨I', ff, Or.inr ⟨_, if_pos hi, ?_⟩⟩
                unfold rs_M_byHeart_41_b rs_M_byHeart_115
                by_cases j0 : j = 0
                · simp (disch := omega) only [bl_lit, lgl, lgg, lgl0, lgg0, lglm, lggm, az_us, az_un, az_ue, az_urn, az_ure, bz_lit, nI_leI, nI_ltI, nI_eq, nI_clamp, nI_add, pk_sub, pk_mul, bz_nlt, bz_nle, bz_ltn, bz_len, bz_neq, bz_eqn, bz_nn, ↓reduceIte, Bool.false_eq_true, if_pos, if_neg, hk_lt, j0, Option.map_some]
                · simp (disch := omega) only [bl_lit, lgl, lgg, lgl0, lgg0, lglm, lggm, az_us, az_un, az_ue, az_urn, az_ure, bz_lit, nI_leI, nI_ltI, nI_eq, nI_clamp, nI_add, pk_sub, pk_mul, bz_nlt, bz_nle, bz_ltn, bz_len, bz_neq, bz_eqn, bz_nn, ↓reduceIte, Bool.false_eq_true, if_pos, if_neg, hk_lt, j0, Option.map_some]
              · have qM' := qM.fr (scX_sc ff0)
                obtain ⟨I4, r4, f4, p4⟩ := pm_steps qM' hB ff (hk i) (I 9 w) (I 10 w) (I 4 10)
                obtain ⟨I5, r5, f5, p5⟩ := pm_book (J := J) (qX.ok hB _ _ _ _) qM' f4 p4 (s := s) (m := m) (np := np) (by omega) t2 n1 (by rw [ff0 73 6 (by unfold scX; omega)]; exact c2) (by rw [ff0 97 s (by unfold scX; omega)]; exact e5) (fun j hj => ⟨(e6 j hj).1, (e6 j hj).2.2 rfl⟩)
                have k2 : I' 74 (166 + w) = I 9 w := by rw [ff 74 (166 + w) (by unfold scM; omega), ff0 74 (166 + w) (by unfold scX; omega)]; exact g2
                have k3 : I' 74 (172 + w) = I 10 w := by rw [ff 74 (172 + w) (by unfold scM; omega), ff0 74 (172 + w) (by unfold scX; omega)]; exact g3
                have k4 : I' 74 178 = I 4 10 := by rw [ff 74 178 (by unfold scM; omega), ff0 74 178 (by unfold scX; omega)]; exact hwe
                refine ⟨I5, f5, Or.inl ⟨_, if_neg hi, ?_, ?_⟩⟩
                · split
                  · split
                    · (try dsimp only); omega
                    · (try dsimp only); omega
                  · (try dsimp only); omega
                · unfold rs_M_byHeart_41_b
                  by_cases z : bw (fun i_1 => am hh (tt L (hk i) (I 9 w) (I 10 w) (I 4 10)) (pc i_1) (pt i_1)) (J (62 + 2 * s)) m np = -nI 2
                  · by_cases z2 : v4 = nI 0
                    · simp (disch := omega) only [bl_lit, lgl, lgg, lgl0, lgg0, lglm, lggm, az_us, az_un, az_ue, az_urn, az_ure, bz_lit, nI_leI, nI_ltI, nI_eq, nI_clamp, nI_add, pk_sub, pk_mul, bz_nlt, bz_nle, bz_ltn, bz_len, bz_neq, bz_eqn, bz_nn, ↓reduceIte, Bool.false_eq_true, if_pos, if_neg, hk_lt, k2, k3, k4, r4, r5, z, z2, hk_add]
                    · simp (disch := omega) only [bl_lit, lgl, lgg, lgl0, lgg0, lglm, lggm, az_us, az_un, az_ue, az_urn, az_ure, bz_lit, nI_leI, nI_ltI, nI_eq, nI_clamp, nI_add, pk_sub, pk_mul, bz_nlt, bz_nle, bz_ltn, bz_len, bz_neq, bz_eqn, bz_nn, ↓reduceIte, Bool.false_eq_true, if_pos, if_neg, hk_lt, k2, k3, k4, r4, r5, z, z2, hk_add]
                  · simp (disch := omega) only [bl_lit, lgl, lgg, lgl0, lgg0, lglm, lggm, az_us, az_un, az_ue, az_urn, az_ure, bz_lit, nI_leI, nI_ltI, nI_eq, nI_clamp, nI_add, pk_sub, pk_mul, bz_nlt, bz_nle, bz_ltn, bz_len, bz_neq, bz_eqn, bz_nn, ↓reduceIte, Bool.false_eq_true, if_pos, if_neg, hk_lt, k2, k3, k4, r4, r5, z, hk_add])
          have j2 : j = 0 ∨ j = 1 := by omega
          refine mt_mk h v ?_ fx ?_ fy
          · rcases j2 with rfl | rfl
            · simp (disch := omega) only [sub_lt, le_sub, bl_lit, lgl, lgg, lgl0, lgg0, lglm, lggm, az_us, az_un, az_ue, az_urn, az_ure, bz_lit, nI_leI, nI_ltI, nI_eq, nI_clamp, nI_add, pk_sub, pk_mul, bz_nlt, bz_nle, bz_ltn, bz_len, bz_neq, bz_eqn, bz_nn, ↓reduceIte, Bool.false_eq_true, if_pos, if_neg, c3, q1, r1, hk_0]
              exact x
            · simp (disch := omega) only [sub_lt, le_sub, bl_lit, lgl, lgg, lgl0, lgg0, lglm, lggm, az_us, az_un, az_ue, az_urn, az_ure, bz_lit, nI_leI, nI_ltI, nI_eq, nI_clamp, nI_add, pk_sub, pk_mul, bz_nlt, bz_nle, bz_ltn, bz_len, bz_neq, bz_eqn, bz_nn, ↓reduceIte, Bool.false_eq_true, if_pos, if_neg, c3, q1, r1, hk_0]
              exact x
          · (try dsimp only)
            have c4' : I2 73 7 = nI nw := by rw [fx 73 7 (by unfold scX; omega)]; exact c4
            rw [sI_fr fx, q2]
            simp (disch := omega) only [sub_lt, le_sub, bl_lit, lgl, lgg, lgl0, lgg0, lglm, lggm, az_us, az_un, az_ue, az_urn, az_ure, bz_lit, nI_leI, nI_ltI, nI_eq, nI_clamp, nI_add, pk_sub, pk_mul, bz_nlt, bz_nle, bz_ltn, bz_len, bz_neq, bz_eqn, bz_nn, ↓reduceIte, Bool.false_eq_true, if_pos, if_neg, c4', hk_0]
            exact y
def f_wh (nw : Nat) (B : Nat → Int32) (s : Int32 × Nat) : (Int32 × Nat) ⊕ Int32 :=
  if nw ≤ s.2 then .inr s.1 else .inl (if B s.2 = -nI 2 then (s.1 ||| (nI 1 <<< (nI s.2 &&& nI 31)), s.2 + 1) else (s.1, s.2 + 1))
theorem mt_whose (h : Rel I J rl rd) (a : Int32) : mt (rs_X_whose rd rl I J a) (fun I => rs_M_whose I J a) J rl rd := by
  obtain ⟨np, nw, L, hh, pc, pt, n1, n2, ⟨c1, c2, c3, c4⟩, hrl, hB, qX, qM, hw, hwe⟩ := h.w
  have h12 := h.2.2.2.2.2.2.2.2.2.2.2
  unfold rs_X_whose rs_M_whose
  rcases ixc a 5 (by omega) with x | ⟨x, y⟩ | ⟨s, hs, rfl⟩
  · refine ⟨-nI 1, I, I, by simp (disch := omega) only [bl_lit, lgl, lgg, lgl0, lgg0, lglm, lggm, az_us, az_un, az_ue, az_urn, az_ure, bz_lit, nI_leI, nI_ltI, nI_eq, nI_clamp, nI_add, pk_sub, pk_mul, bz_nlt, bz_nle, bz_ltn, bz_len, bz_neq, bz_eqn, bz_nn, ↓reduceIte, Bool.false_eq_true, if_pos, if_neg, x], ?_, h⟩
    unfold rs_M_shortsIs
    simp (disch := omega) only [bl_lit, lgl, lgg, lgl0, lgg0, lglm, lggm, az_us, az_un, az_ue, az_urn, az_ure, bz_lit, nI_leI, nI_ltI, nI_eq, nI_clamp, nI_add, pk_sub, pk_mul, bz_nlt, bz_nle, bz_ltn, bz_len, bz_neq, bz_eqn, bz_nn, ↓reduceIte, Bool.false_eq_true, if_pos, if_neg, x]
  · refine ⟨-nI 1, I, I, by simp (disch := omega) only [bl_lit, lgl, lgg, lgl0, lgg0, lglm, lggm, az_us, az_un, az_ue, az_urn, az_ure, bz_lit, nI_leI, nI_ltI, nI_eq, nI_clamp, nI_add, pk_sub, pk_mul, bz_nlt, bz_nle, bz_ltn, bz_len, bz_neq, bz_eqn, bz_nn, ↓reduceIte, Bool.false_eq_true, if_pos, if_neg, x, y], ?_, h⟩
    unfold rs_M_shortsIs
    simp (disch := omega) only [bl_lit, lgl, lgg, lgl0, lgg0, lglm, lggm, az_us, az_un, az_ue, az_urn, az_ure, bz_lit, nI_leI, nI_ltI, nI_eq, nI_clamp, nI_add, pk_sub, pk_mul, bz_nlt, bz_nle, bz_ltn, bz_len, bz_neq, bz_eqn, bz_nn, ↓reduceIte, Bool.false_eq_true, if_pos, if_neg, x, y]
  · rcases bk_is h12 (s := s) (by omega) with ⟨x, hx, q1, q2⟩ | ⟨m, hr, q1, q2⟩
    · refine ⟨x, I, I, ?_, ?_, h⟩
      · rcases hx with rfl | rfl
        · simp (disch := omega) only [bl_lit, lgl, lgg, lgl0, lgg0, lglm, lggm, az_us, az_un, az_ue, az_urn, az_ure, bz_lit, nI_leI, nI_ltI, nI_eq, nI_clamp, nI_add, pk_sub, pk_mul, bz_nlt, bz_nle, bz_ltn, bz_len, bz_neq, bz_eqn, bz_nn, ↓reduceIte, Bool.false_eq_true, if_pos, if_neg, q1]
        · simp (disch := omega) only [bl_lit, lgl, lgg, lgl0, lgg0, lglm, lggm, az_us, az_un, az_ue, az_urn, az_ure, bz_lit, nI_leI, nI_ltI, nI_eq, nI_clamp, nI_add, pk_sub, pk_mul, bz_nlt, bz_nle, bz_ltn, bz_len, bz_neq, bz_eqn, bz_nn, ↓reduceIte, Bool.false_eq_true, if_pos, if_neg, q1]
      · (try dsimp only)
        rw [q2]
        rcases hx with rfl | rfl
        · simp (disch := omega) only [bl_lit, lgl, lgg, lgl0, lgg0, lglm, lggm, az_us, az_un, az_ue, az_urn, az_ure, bz_lit, nI_leI, nI_ltI, nI_eq, nI_clamp, nI_add, pk_sub, pk_mul, bz_nlt, bz_nle, bz_ltn, bz_len, bz_neq, bz_eqn, bz_nn, ↓reduceIte, Bool.false_eq_true, if_pos, if_neg]
        · simp (disch := omega) only [bl_lit, lgl, lgg, lgl0, lgg0, lglm, lggm, az_us, az_un, az_ue, az_urn, az_ure, bz_lit, nI_leI, nI_ltI, nI_eq, nI_clamp, nI_add, pk_sub, pk_mul, bz_nlt, bz_nle, bz_ltn, bz_len, bz_neq, bz_eqn, bz_nn, ↓reduceIte, Bool.false_eq_true, if_pos, if_neg]
    · have hr' := hr
      obtain ⟨t1, t2, e1, e2, e3, e4, e5, e6⟩ := hr'
      obtain ⟨v, I2, I3, x, fx, y, fy⟩ := mt_loop (I0 := I) (I1 := I) (bX := fun q : (Int32 × Int32 × (Nat → Nat → Int32)) => rs_X_whose_26_b rd rl J (nI s) q.1 q.2.1 q.2.2) (bM := fun q : (Int32 × Int32 × (Nat → Nat → Int32)) => rs_M_whose_18_b J (nI s) q.1 q.2.1 q.2.2)
        (f_wh nw (fun w => bw (fun i => am hh (tt L (I 8 w) (I 9 w) (I 10 w) (I 4 10)) (pc i) (pt i)) (J (62 + 2 * s)) m np)) (pX := fun q I => (q.1, nI q.2, I)) (pM := fun q I => (q.1, nI q.2, I)) (fun q => q.2 ≤ nw) (fun q => nw - q.2) (nI 0, 0) (by (try dsimp only); omega) (by (try dsimp only); omega)
        (by
          intro q hq
          (try dsimp only at hq)
          unfold f_wh
          by_cases hi : nw ≤ q.2
          · exact Or.inr ⟨_, if_pos hi⟩
          · refine Or.inl ⟨_, if_neg hi, ?_, ?_⟩
            · split
              · (try dsimp only); omega
              · (try dsimp only); omega
            · split
              · (try dsimp only); omega
              · (try dsimp only); omega)
        (PX := fun I' => az_fr scX I I') az_fr.refl
        (by
          intro q I' hq ff
          obtain ⟨v3, w⟩ := q
          (try dsimp only at hq ⊢)
          unfold f_wh
          (try dsimp only)
          have c3' : I' 4 9 = nI nw := by rw [ff 4 9 (by unfold scX; omega)]; exact c3
          by_cases hi : nw ≤ w
          · refine ⟨I', ff, Or.inr ⟨_, if_pos hi, ?_⟩⟩
            unfold rs_X_whose_26_b
            simp (disch := omega) only [bl_lit, lgl, lgg, lgl0, lgg0, lglm, lggm, az_us, az_un, az_ue, az_urn, az_ure, bz_lit, nI_leI, nI_ltI, nI_eq, nI_clamp, nI_add, pk_sub, pk_mul, bz_nlt, bz_nle, bz_ltn, bz_len, bz_neq, bz_eqn, bz_nn, ↓reduceIte, Bool.false_eq_true, if_pos, if_neg, c3']
          · obtain ⟨I4, r4, f4, p4⟩ := px_set hrl hB (qX.fr hrl (scX_sc ff)) (w := w) (by omega)
            rw [ff 8 w (by unfold scX; omega), ff 9 w (by unfold scX; omega), ff 10 w (by unfold scX; omega), ff 4 10 (by unfold scX; omega)] at p4
            obtain ⟨I5, r5, f5, p5⟩ := px_book (J := J) hrl hB qX (ff.trans f4) p4 (s := s) (by omega) t2 n1 c1 e3
            refine ⟨I5, f5, Or.inl ⟨_, if_neg hi, ?_, ?_⟩⟩
            · split
              · (try dsimp only); omega
              · (try dsimp only); omega
            · unfold rs_X_whose_26_b rs_X_whose_51
              by_cases z : bw (fun i => am hh (tt L (I 8 w) (I 9 w) (I 10 w) (I 4 10)) (pc i) (pt i)) (J (62 + 2 * s)) m np = -nI 2
              · simp (disch := omega) only [bl_lit, lgl, lgg, lgl0, lgg0, lglm, lggm, az_us, az_un, az_ue, az_urn, az_ure, bz_lit, nI_leI, nI_ltI, nI_eq, nI_clamp, nI_add, pk_sub, pk_mul, bz_nlt, bz_nle, bz_ltn, bz_len, bz_neq, bz_eqn, bz_nn, ↓reduceIte, Bool.false_eq_true, if_pos, if_neg, c3', r4, r5, z]
              · simp (disch := omega) only [bl_lit, lgl, lgg, lgl0, lgg0, lglm, lggm, az_us, az_un, az_ue, az_urn, az_ure, bz_lit, nI_leI, nI_ltI, nI_eq, nI_clamp, nI_add, pk_sub, pk_mul, bz_nlt, bz_nle, bz_ltn, bz_len, bz_neq, bz_eqn, bz_nn, ↓reduceIte, Bool.false_eq_true, if_pos, if_neg, c3', r4, r5, z])
        (fun _ q => q)
        (by
          intro I0' ff0 q I' hq ff
          obtain ⟨v3, w⟩ := q
          (try dsimp only at hq ⊢)
          unfold f_wh
          (try dsimp only)
          have c3' : I' 73 7 = nI nw := by rw [ff 73 7 (by unfold scM; omega), ff0 73 7 (by unfold scX; omega)]; exact c4
          by_cases hi : nw ≤ w
          · refine ⟨I', ff, Or.inr ⟨_, if_pos hi, ?_⟩⟩
            unfold rs_M_whose_18_b
            simp (disch := omega) only [bl_lit, lgl, lgg, lgl0, lgg0, lglm, lggm, az_us, az_un, az_ue, az_urn, az_ure, bz_lit, nI_leI, nI_ltI, nI_eq, nI_clamp, nI_add, pk_sub, pk_mul, bz_nlt, bz_nle, bz_ltn, bz_len, bz_neq, bz_eqn, bz_nn, ↓reduceIte, Bool.false_eq_true, if_pos, if_neg, c3']
          · have qM' := qM.fr (scX_sc ff0)
            obtain ⟨g1, g2, g3⟩ := hw w (by omega)
            obtain ⟨I4, r4, f4, p4⟩ := pm_for qM' hB ff (w := w) (by omega)
            rw [ff0 74 (160 + w) (by unfold scX; omega), ff0 74 (166 + w) (by unfold scX; omega), ff0 74 (172 + w) (by unfold scX; omega), ff0 74 178 (by unfold scX; omega), g1, g2, g3, hwe] at p4
            obtain ⟨I5, r5, f5, p5⟩ := pm_book (J := J) (qX.ok hB _ _ _ _) qM' f4 p4 (s := s) (m := m) (np := np) (by omega) t2 n1 (by rw [ff0 73 6 (by unfold scX; omega)]; exact c2) (by rw [ff0 97 s (by unfold scX; omega)]; exact e5) (fun j hj => ⟨(e6 j hj).1, (e6 j hj).2.2 rfl⟩)
            refine ⟨I5, f5, Or.inl ⟨_, if_neg hi, ?_, ?_⟩⟩
            · split
              · (try dsimp only); omega
              · (try dsimp only); omega
            · unfold rs_M_whose_18_b
              by_cases z : bw (fun i => am hh (tt L (I 8 w) (I 9 w) (I 10 w) (I 4 10)) (pc i) (pt i)) (J (62 + 2 * s)) m np = -nI 2
              · simp (disch := omega) only [bl_lit, lgl, lgg, lgl0, lgg0, lglm, lggm, az_us, az_un, az_ue, az_urn, az_ure, bz_lit, nI_leI, nI_ltI, nI_eq, nI_clamp, nI_add, pk_sub, pk_mul, bz_nlt, bz_nle, bz_ltn, bz_len, bz_neq, bz_eqn, bz_nn, ↓reduceIte, Bool.false_eq_true, if_pos, if_neg, c3', r4, r5, z]
              · have z0 : v3 ||| nI 0 = v3 := Int32.or_zero
                simp (disch := omega) only [bl_lit, lgl, lgg, lgl0, lgg0, lglm, lggm, az_us, az_un, az_ue, az_urn, az_ure, bz_lit, nI_leI, nI_ltI, nI_eq, nI_clamp, nI_add, pk_sub, pk_mul, bz_nlt, bz_nle, bz_ltn, bz_len, bz_neq, bz_eqn, bz_nn, ↓reduceIte, Bool.false_eq_true, if_pos, if_neg, c3', r4, r5, z, z0])
      refine mt_mk h v ?_ fx ?_ fy
      · simp (disch := omega) only [bl_lit, lgl, lgg, lgl0, lgg0, lglm, lggm, az_us, az_un, az_ue, az_urn, az_ure, bz_lit, nI_leI, nI_ltI, nI_eq, nI_clamp, nI_add, pk_sub, pk_mul, bz_nlt, bz_nle, bz_ltn, bz_len, bz_neq, bz_eqn, bz_nn, ↓reduceIte, Bool.false_eq_true, if_pos, if_neg, q1]
        exact x
      · (try dsimp only)
        rw [sI_fr fx, q2]
        simp (disch := omega) only [bl_lit, lgl, lgg, lgl0, lgg0, lglm, lggm, az_us, az_un, az_ue, az_urn, az_ure, bz_lit, nI_leI, nI_ltI, nI_eq, nI_clamp, nI_add, pk_sub, pk_mul, bz_nlt, bz_nle, bz_ltn, bz_len, bz_neq, bz_eqn, bz_nn, ↓reduceIte, Bool.false_eq_true, if_pos, if_neg]
        exact y
end

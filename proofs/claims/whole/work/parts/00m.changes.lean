/-! mend, undo, redo, of -/
theorem chX_forget {I : Nat → Nat → Int32} : ∃ I', rs_Ch_forgetOldest I = some I' ∧ az_fr (fun r k => (r = 44 ∧ k = 4) ∨ (45 ≤ r ∧ r ≤ 48)) I I' ∧ I' 44 4 = nI 39 ∧ ∀ k, k < 39 → ∀ r, 45 ≤ r → r ≤ 48 → I' r k = I r (k + 1) := by
  unfold rs_Ch_forgetOldest
  refine ⟨_, rfl, ?_, ?_, ?_⟩
  · refine ((((az_fr.refl.u ?_).ur ?_).ur ?_).ur ?_).ur ?_
    · (try dsimp only); omega
    · exact fun k => Or.inl (by (try dsimp only); omega)
    · exact fun k => Or.inl (by (try dsimp only); omega)
    · exact fun k => Or.inl (by (try dsimp only); omega)
    · exact fun k => Or.inl (by (try dsimp only); omega)
  · simp (disch := omega) only [bl_lit, lgl, lgg, lgl0, lgg0, lglm, lggm, az_us, az_un, az_ue, az_urn, az_ure, bz_lit, nI_leI, nI_ltI, nI_eq, nI_clamp, nI_add, pk_sub, pk_mul, bz_nlt, bz_nle, bz_ltn, bz_len, bz_neq, bz_eqn, bz_nn, ↓reduceIte, Bool.false_eq_true, if_pos, if_neg]
  · intro k hk r h1 h2
    have h4 : r = 45 ∨ r = 46 ∨ r = 47 ∨ r = 48 := by omega
    rcases h4 with rfl | rfl | rfl | rfl
    · simp (disch := omega) only [bl_lit, lgl, lgg, lgl0, lgg0, lglm, lggm, az_us, az_un, az_ue, az_urn, az_ure, bz_lit, nI_leI, nI_ltI, nI_eq, nI_clamp, nI_add, pk_sub, pk_mul, bz_nlt, bz_nle, bz_ltn, bz_len, bz_neq, bz_eqn, bz_nn, ↓reduceIte, Bool.false_eq_true, if_pos, if_neg]
      rw [pk_cpy_in (by omega) (by omega), Nat.sub_zero, Nat.add_comm]
      simp (disch := omega) only [bl_lit, lgl, lgg, lgl0, lgg0, lglm, lggm, az_us, az_un, az_ue, az_urn, az_ure, bz_lit, nI_leI, nI_ltI, nI_eq, nI_clamp, nI_add, pk_sub, pk_mul, bz_nlt, bz_nle, bz_ltn, bz_len, bz_neq, bz_eqn, bz_nn, ↓reduceIte, Bool.false_eq_true, if_pos, if_neg]
    · simp (disch := omega) only [bl_lit, lgl, lgg, lgl0, lgg0, lglm, lggm, az_us, az_un, az_ue, az_urn, az_ure, bz_lit, nI_leI, nI_ltI, nI_eq, nI_clamp, nI_add, pk_sub, pk_mul, bz_nlt, bz_nle, bz_ltn, bz_len, bz_neq, bz_eqn, bz_nn, ↓reduceIte, Bool.false_eq_true, if_pos, if_neg]
      rw [pk_cpy_in (by omega) (by omega), Nat.sub_zero, Nat.add_comm]
      simp (disch := omega) only [bl_lit, lgl, lgg, lgl0, lgg0, lglm, lggm, az_us, az_un, az_ue, az_urn, az_ure, bz_lit, nI_leI, nI_ltI, nI_eq, nI_clamp, nI_add, pk_sub, pk_mul, bz_nlt, bz_nle, bz_ltn, bz_len, bz_neq, bz_eqn, bz_nn, ↓reduceIte, Bool.false_eq_true, if_pos, if_neg]
    · simp (disch := omega) only [bl_lit, lgl, lgg, lgl0, lgg0, lglm, lggm, az_us, az_un, az_ue, az_urn, az_ure, bz_lit, nI_leI, nI_ltI, nI_eq, nI_clamp, nI_add, pk_sub, pk_mul, bz_nlt, bz_nle, bz_ltn, bz_len, bz_neq, bz_eqn, bz_nn, ↓reduceIte, Bool.false_eq_true, if_pos, if_neg]
      rw [pk_cpy_in (by omega) (by omega), Nat.sub_zero, Nat.add_comm]
      simp (disch := omega) only [bl_lit, lgl, lgg, lgl0, lgg0, lglm, lggm, az_us, az_un, az_ue, az_urn, az_ure, bz_lit, nI_leI, nI_ltI, nI_eq, nI_clamp, nI_add, pk_sub, pk_mul, bz_nlt, bz_nle, bz_ltn, bz_len, bz_neq, bz_eqn, bz_nn, ↓reduceIte, Bool.false_eq_true, if_pos, if_neg]
    · simp (disch := omega) only [bl_lit, lgl, lgg, lgl0, lgg0, lglm, lggm, az_us, az_un, az_ue, az_urn, az_ure, bz_lit, nI_leI, nI_ltI, nI_eq, nI_clamp, nI_add, pk_sub, pk_mul, bz_nlt, bz_nle, bz_ltn, bz_len, bz_neq, bz_eqn, bz_nn, ↓reduceIte, Bool.false_eq_true, if_pos, if_neg]
      rw [pk_cpy_in (by omega) (by omega), Nat.sub_zero, Nat.add_comm]
      simp (disch := omega) only [bl_lit, lgl, lgg, lgl0, lgg0, lglm, lggm, az_us, az_un, az_ue, az_urn, az_ure, bz_lit, nI_leI, nI_ltI, nI_eq, nI_clamp, nI_add, pk_sub, pk_mul, bz_nlt, bz_nle, bz_ltn, bz_len, bz_neq, bz_eqn, bz_nn, ↓reduceIte, Bool.false_eq_true, if_pos, if_neg]
theorem chX_13 {I : Nat → Nat → Int32} {d : Nat} (h : I 44 4 = nI d) (hd : d < 40) (n w b f : Int32) : rs_Ch_add_13 I n w b f = some (az_u (az_u (az_u (az_u (az_u (az_u I 45 d n) 46 d w) 47 d b) 48 d f) 44 4 (nI (d + 1))) 44 5 (nI (d + 1))) := by
  unfold rs_Ch_add_13
  simp (disch := omega) only [bl_lit, lgl, lgg, lgl0, lgg0, lglm, lggm, az_us, az_un, az_ue, az_urn, az_ure, bz_lit, nI_leI, nI_ltI, nI_eq, nI_clamp, nI_add, pk_sub, pk_mul, bz_nlt, bz_nle, bz_ltn, bz_len, bz_neq, bz_eqn, bz_nn, ↓reduceIte, Bool.false_eq_true, if_pos, if_neg, h]
theorem chX_add {I : Nat → Nat → Int32} {d : Nat} (h : I 44 4 = nI d) (hd : d ≤ 40) (n w b f : Int32) :
    ∃ I' D o, rs_Ch_add I n w b f = some I' ∧ az_fr (fun r k => (r = 44 ∧ (k = 4 ∨ k = 5)) ∨ (45 ≤ r ∧ r ≤ 48)) I I' ∧ (d < 40 ∧ D = d ∧ o = 0 ∨ d = 40 ∧ D = 39 ∧ o = 1) ∧ I' 44 4 = nI (D + 1) ∧ I' 44 5 = nI (D + 1) ∧
      (∀ k, k < D → ∀ r, 45 ≤ r → r ≤ 48 → I' r k = I r (k + o)) ∧ I' 45 D = n ∧ I' 46 D = w ∧ I' 47 D = b ∧ I' 48 D = f := by
  unfold rs_Ch_add
  by_cases hd2 : d < 40
  · rw [chX_13 h hd2]
    refine ⟨az_u (az_u (az_u (az_u (az_u (az_u I 45 d n) 46 d w) 47 d b) 48 d f) 44 4 (nI (d + 1))) 44 5 (nI (d + 1)), d, 0, by simp (disch := omega) only [bl_lit, lgl, lgg, lgl0, lgg0, lglm, lggm, az_us, az_un, az_ue, az_urn, az_ure, bz_lit, nI_leI, nI_ltI, nI_eq, nI_clamp, nI_add, pk_sub, pk_mul, bz_nlt, bz_nle, bz_ltn, bz_len, bz_neq, bz_eqn, bz_nn, ↓reduceIte, Bool.false_eq_true, if_pos, if_neg, h], (by refine ((((((az_fr.refl.u ?_).u ?_).u ?_).u ?_).u ?_).u ?_) <;> (try dsimp only) <;> omega), Or.inl ⟨hd2, rfl, rfl⟩, by simp (disch := omega) only [bl_lit, lgl, lgg, lgl0, lgg0, lglm, lggm, az_us, az_un, az_ue, az_urn, az_ure, bz_lit, nI_leI, nI_ltI, nI_eq, nI_clamp, nI_add, pk_sub, pk_mul, bz_nlt, bz_nle, bz_ltn, bz_len, bz_neq, bz_eqn, bz_nn, ↓reduceIte, Bool.false_eq_true, if_pos, if_neg], by simp (disch := omega) only [bl_lit, lgl, lgg, lgl0, lgg0, lglm, lggm, az_us, az_un, az_ue, az_urn, az_ure, bz_lit, nI_leI, nI_ltI, nI_eq, nI_clamp, nI_add, pk_sub, pk_mul, bz_nlt, bz_nle, bz_ltn, bz_len, bz_neq, bz_eqn, bz_nn, ↓reduceIte, Bool.false_eq_true, if_pos, if_neg], ?_, by simp (disch := omega) only [bl_lit, lgl, lgg, lgl0, lgg0, lglm, lggm, az_us, az_un, az_ue, az_urn, az_ure, bz_lit, nI_leI, nI_ltI, nI_eq, nI_clamp, nI_add, pk_sub, pk_mul, bz_nlt, bz_nle, bz_ltn, bz_len, bz_neq, bz_eqn, bz_nn, ↓reduceIte, Bool.false_eq_true, if_pos, if_neg], by simp (disch := omega) only [bl_lit, lgl, lgg, lgl0, lgg0, lglm, lggm, az_us, az_un, az_ue, az_urn, az_ure, bz_lit, nI_leI, nI_ltI, nI_eq, nI_clamp, nI_add, pk_sub, pk_mul, bz_nlt, bz_nle, bz_ltn, bz_len, bz_neq, bz_eqn, bz_nn, ↓reduceIte, Bool.false_eq_true, if_pos, if_neg], by simp (disch := omega) only [bl_lit, lgl, lgg, lgl0, lgg0, lglm, lggm, az_us, az_un, az_ue, az_urn, az_ure, bz_lit, nI_leI, nI_ltI, nI_eq, nI_clamp, nI_add, pk_sub, pk_mul, bz_nlt, bz_nle, bz_ltn, bz_len, bz_neq, bz_eqn, bz_nn, ↓reduceIte, Bool.false_eq_true, if_pos, if_neg], by simp (disch := omega) only [bl_lit, lgl, lgg, lgl0, lgg0, lglm, lggm, az_us, az_un, az_ue, az_urn, az_ure, bz_lit, nI_leI, nI_ltI, nI_eq, nI_clamp, nI_add, pk_sub, pk_mul, bz_nlt, bz_nle, bz_ltn, bz_len, bz_neq, bz_eqn, bz_nn, ↓reduceIte, Bool.false_eq_true, if_pos, if_neg]⟩
    intro k hk r h1 h2
    rw [az_un (by omega), az_un (by omega), az_un (by omega), az_un (by omega), az_un (by omega), az_un (by omega), Nat.add_zero]
  · have : d = 40 := by omega
    subst this
    obtain ⟨I1, r1, f1, v1, s1⟩ := chX_forget (I := I)
    refine ⟨az_u (az_u (az_u (az_u (az_u (az_u I1 45 39 n) 46 39 w) 47 39 b) 48 39 f) 44 4 (nI 40)) 44 5 (nI 40), 39, 1, ?_, ?_, Or.inr ⟨rfl, rfl, rfl⟩, by simp (disch := omega) only [bl_lit, lgl, lgg, lgl0, lgg0, lglm, lggm, az_us, az_un, az_ue, az_urn, az_ure, bz_lit, nI_leI, nI_ltI, nI_eq, nI_clamp, nI_add, pk_sub, pk_mul, bz_nlt, bz_nle, bz_ltn, bz_len, bz_neq, bz_eqn, bz_nn, ↓reduceIte, Bool.false_eq_true, if_pos, if_neg], by simp (disch := omega) only [bl_lit, lgl, lgg, lgl0, lgg0, lglm, lggm, az_us, az_un, az_ue, az_urn, az_ure, bz_lit, nI_leI, nI_ltI, nI_eq, nI_clamp, nI_add, pk_sub, pk_mul, bz_nlt, bz_nle, bz_ltn, bz_len, bz_neq, bz_eqn, bz_nn, ↓reduceIte, Bool.false_eq_true, if_pos, if_neg], ?_, by simp (disch := omega) only [bl_lit, lgl, lgg, lgl0, lgg0, lglm, lggm, az_us, az_un, az_ue, az_urn, az_ure, bz_lit, nI_leI, nI_ltI, nI_eq, nI_clamp, nI_add, pk_sub, pk_mul, bz_nlt, bz_nle, bz_ltn, bz_len, bz_neq, bz_eqn, bz_nn, ↓reduceIte, Bool.false_eq_true, if_pos, if_neg], by simp (disch := omega) only [bl_lit, lgl, lgg, lgl0, lgg0, lglm, lggm, az_us, az_un, az_ue, az_urn, az_ure, bz_lit, nI_leI, nI_ltI, nI_eq, nI_clamp, nI_add, pk_sub, pk_mul, bz_nlt, bz_nle, bz_ltn, bz_len, bz_neq, bz_eqn, bz_nn, ↓reduceIte, Bool.false_eq_true, if_pos, if_neg], by simp (disch := omega) only [bl_lit, lgl, lgg, lgl0, lgg0, lglm, lggm, az_us, az_un, az_ue, az_urn, az_ure, bz_lit, nI_leI, nI_ltI, nI_eq, nI_clamp, nI_add, pk_sub, pk_mul, bz_nlt, bz_nle, bz_ltn, bz_len, bz_neq, bz_eqn, bz_nn, ↓reduceIte, Bool.false_eq_true, if_pos, if_neg], by simp (disch := omega) only [bl_lit, lgl, lgg, lgl0, lgg0, lglm, lggm, az_us, az_un, az_ue, az_urn, az_ure, bz_lit, nI_leI, nI_ltI, nI_eq, nI_clamp, nI_add, pk_sub, pk_mul, bz_nlt, bz_nle, bz_ltn, bz_len, bz_neq, bz_eqn, bz_nn, ↓reduceIte, Bool.false_eq_true, if_pos, if_neg]⟩
    · rw [r1]
      (try dsimp only)
      rw [chX_13 v1 (by omega)]
      simp (disch := omega) only [bl_lit, lgl, lgg, lgl0, lgg0, lglm, lggm, az_us, az_un, az_ue, az_urn, az_ure, bz_lit, nI_leI, nI_ltI, nI_eq, nI_clamp, nI_add, pk_sub, pk_mul, bz_nlt, bz_nle, bz_ltn, bz_len, bz_neq, bz_eqn, bz_nn, ↓reduceIte, Bool.false_eq_true, if_pos, if_neg, h]
    · refine (f1.mono ?_).trans (by refine ((((((az_fr.refl.u ?_).u ?_).u ?_).u ?_).u ?_).u ?_) <;> (try dsimp only) <;> omega)
      intro r k q
      (try dsimp only at q ⊢)
      omega
    · intro k hk r h1 h2
      rw [az_un (by omega), az_un (by omega), az_un (by omega), az_un (by omega), az_un (by omega), az_un (by omega)]
      exact s1 k hk r h1 h2
theorem chM_97 {I : Nat → Nat → Int32} {d p : Nat} {v u : Int32} (h : I 73 5 = nI d) (hd : d < 40) (hp : p < 179) : rs_M_becomes_97 I (nI p) v u = some (u, az_u (az_u (az_u (az_u (az_u (az_u I 75 d (nI p)) 76 d u) 77 d v) 73 5 (nI (d + 1))) 73 4 (nI (d + 1))) 74 p v) := by
  unfold rs_M_becomes_97
  simp (disch := omega) only [bl_lit, lgl, lgg, lgl0, lgg0, lglm, lggm, az_us, az_un, az_ue, az_urn, az_ure, bz_lit, nI_leI, nI_ltI, nI_eq, nI_clamp, nI_add, pk_sub, pk_mul, bz_nlt, bz_nle, bz_ltn, bz_len, bz_neq, bz_eqn, bz_nn, ↓reduceIte, Bool.false_eq_true, if_pos, if_neg, h]
theorem chM_add {I : Nat → Nat → Int32} {d p : Nat} {v : Int32} (h : I 73 5 = nI d) (hd : d ≤ 40) (hp : p < 179) (hne : I 74 p ≠ v) :
    ∃ I' D o, rs_M_becomes I (nI p) v = some (I 74 p, I') ∧ az_fr (fun r k => (r = 73 ∧ (k = 4 ∨ k = 5)) ∨ (75 ≤ r ∧ r ≤ 77) ∨ (r = 74 ∧ k = p)) I I' ∧ (d < 40 ∧ D = d ∧ o = 0 ∨ d = 40 ∧ D = 39 ∧ o = 1) ∧ I' 73 5 = nI (D + 1) ∧ I' 73 4 = nI (D + 1) ∧
      (∀ k, k < D → ∀ r, 75 ≤ r → r ≤ 77 → I' r k = I r (k + o)) ∧ I' 75 D = nI p ∧ I' 76 D = I 74 p ∧ I' 77 D = v ∧ I' 74 p = v := by
  unfold rs_M_becomes
  by_cases hd2 : d < 40
  · refine ⟨_, d, 0, by simp (disch := omega) only [bl_lit, lgl, lgg, lgl0, lgg0, lglm, lggm, az_us, az_un, az_ue, az_urn, az_ure, bz_lit, nI_leI, nI_ltI, nI_eq, nI_clamp, nI_add, pk_sub, pk_mul, bz_nlt, bz_nle, bz_ltn, bz_len, bz_neq, bz_eqn, bz_nn, ↓reduceIte, Bool.false_eq_true, if_pos, if_neg, h, hne]; exact chM_97 h hd2 hp, (by refine ((((((az_fr.refl.u ?_).u ?_).u ?_).u ?_).u ?_).u ?_) <;> (try dsimp only) <;> omega), Or.inl ⟨hd2, rfl, rfl⟩, by simp (disch := omega) only [bl_lit, lgl, lgg, lgl0, lgg0, lglm, lggm, az_us, az_un, az_ue, az_urn, az_ure, bz_lit, nI_leI, nI_ltI, nI_eq, nI_clamp, nI_add, pk_sub, pk_mul, bz_nlt, bz_nle, bz_ltn, bz_len, bz_neq, bz_eqn, bz_nn, ↓reduceIte, Bool.false_eq_true, if_pos, if_neg], by simp (disch := omega) only [bl_lit, lgl, lgg, lgl0, lgg0, lglm, lggm, az_us, az_un, az_ue, az_urn, az_ure, bz_lit, nI_leI, nI_ltI, nI_eq, nI_clamp, nI_add, pk_sub, pk_mul, bz_nlt, bz_nle, bz_ltn, bz_len, bz_neq, bz_eqn, bz_nn, ↓reduceIte, Bool.false_eq_true, if_pos, if_neg], ?_, by simp (disch := omega) only [bl_lit, lgl, lgg, lgl0, lgg0, lglm, lggm, az_us, az_un, az_ue, az_urn, az_ure, bz_lit, nI_leI, nI_ltI, nI_eq, nI_clamp, nI_add, pk_sub, pk_mul, bz_nlt, bz_nle, bz_ltn, bz_len, bz_neq, bz_eqn, bz_nn, ↓reduceIte, Bool.false_eq_true, if_pos, if_neg], by simp (disch := omega) only [bl_lit, lgl, lgg, lgl0, lgg0, lglm, lggm, az_us, az_un, az_ue, az_urn, az_ure, bz_lit, nI_leI, nI_ltI, nI_eq, nI_clamp, nI_add, pk_sub, pk_mul, bz_nlt, bz_nle, bz_ltn, bz_len, bz_neq, bz_eqn, bz_nn, ↓reduceIte, Bool.false_eq_true, if_pos, if_neg], by simp (disch := omega) only [bl_lit, lgl, lgg, lgl0, lgg0, lglm, lggm, az_us, az_un, az_ue, az_urn, az_ure, bz_lit, nI_leI, nI_ltI, nI_eq, nI_clamp, nI_add, pk_sub, pk_mul, bz_nlt, bz_nle, bz_ltn, bz_len, bz_neq, bz_eqn, bz_nn, ↓reduceIte, Bool.false_eq_true, if_pos, if_neg], by simp (disch := omega) only [bl_lit, lgl, lgg, lgl0, lgg0, lglm, lggm, az_us, az_un, az_ue, az_urn, az_ure, bz_lit, nI_leI, nI_ltI, nI_eq, nI_clamp, nI_add, pk_sub, pk_mul, bz_nlt, bz_nle, bz_ltn, bz_len, bz_neq, bz_eqn, bz_nn, ↓reduceIte, Bool.false_eq_true, if_pos, if_neg]⟩
    intro k hk r h1 h2
    rw [az_un (by omega), az_un (by omega), az_un (by omega), az_un (by omega), az_un (by omega), az_un (by omega), Nat.add_zero]
  · have : d = 40 := by omega
    subst this
    have main : ∃ z, rs_M_becomes_26 I (nI p) v (I 74 p) 1 = some z ∧ ∃ I1, z = (I 74 p, az_u (az_u (az_u (az_u (az_u (az_u (az_u I1 73 5 (nI 39)) 75 39 (nI p)) 76 39 (I 74 p)) 77 39 v) 73 5 (nI 40)) 73 4 (nI 40)) 74 p v) ∧ az_fr (fun r k => 75 ≤ r ∧ r ≤ 77) I I1 ∧ ∀ k, k < 39 → ∀ r, 75 ≤ r → r ≤ 77 → I1 r k = I r (k + 1) := by
      unfold rs_M_becomes_26
      refine az_for0 (fun i (z : Int32 × (Nat → Nat → Int32)) => z.1 = nI (i + 1) ∧ az_fr (fun r k => 75 ≤ r ∧ r ≤ 77) I z.2 ∧ ∀ k, ∀ r, 75 ≤ r → r ≤ 77 → z.2 r k = I r (if k < i then k + 1 else k)) 39 (by omega) ⟨rfl, az_fr.refl, fun k r _ _ => by rw [if_neg (by omega)]⟩ ?_ ?_
      · intro i z hi hz
        obtain ⟨v4, I1⟩ := z
        obtain ⟨e, hf, hs⟩ := hz
        (try dsimp only at e hf hs)
        subst e
        show ∃ o, rs_M_becomes_26_b (nI p) v (I 74 p) (nI (i + 1)) I1 = some o ∧ _
        unfold rs_M_becomes_26_b
        refine az_nxt (nI (i + 1 + 1), az_u (az_u (az_u I1 75 i (I1 75 (i + 1))) 76 i (I1 76 (i + 1))) 77 i (I1 77 (i + 1))) ?_ ⟨rfl, ?_, ?_⟩
        · simp (disch := omega) only [bl_lit, lgl, lgg, lgl0, lgg0, lglm, lggm, az_us, az_un, az_ue, az_urn, az_ure, bz_lit, nI_leI, nI_ltI, nI_eq, nI_clamp, nI_add, pk_sub, pk_mul, bz_nlt, bz_nle, bz_ltn, bz_len, bz_neq, bz_eqn, bz_nn, ↓reduceIte, Bool.false_eq_true, if_pos, if_neg, Nat.add_sub_cancel]
        · exact ((hf.u (by (try dsimp only); omega)).u (by (try dsimp only); omega)).u (by (try dsimp only); omega)
        · intro k r h1 h2
          (try dsimp only)
          have h4 : r = 75 ∨ r = 76 ∨ r = 77 := by omega
          by_cases e : k = i
          · subst e
            rw [if_pos (by omega)]
            rcases h4 with rfl | rfl | rfl
            · simp (disch := omega) only [bl_lit, lgl, lgg, lgl0, lgg0, lglm, lggm, az_us, az_un, az_ue, az_urn, az_ure, bz_lit, nI_leI, nI_ltI, nI_eq, nI_clamp, nI_add, pk_sub, pk_mul, bz_nlt, bz_nle, bz_ltn, bz_len, bz_neq, bz_eqn, bz_nn, ↓reduceIte, Bool.false_eq_true, if_pos, if_neg]
              rw [hs (k + 1) 75 (by omega) (by omega), if_neg (by omega)]
            · simp (disch := omega) only [bl_lit, lgl, lgg, lgl0, lgg0, lglm, lggm, az_us, az_un, az_ue, az_urn, az_ure, bz_lit, nI_leI, nI_ltI, nI_eq, nI_clamp, nI_add, pk_sub, pk_mul, bz_nlt, bz_nle, bz_ltn, bz_len, bz_neq, bz_eqn, bz_nn, ↓reduceIte, Bool.false_eq_true, if_pos, if_neg]
              rw [hs (k + 1) 76 (by omega) (by omega), if_neg (by omega)]
            · simp (disch := omega) only [bl_lit, lgl, lgg, lgl0, lgg0, lglm, lggm, az_us, az_un, az_ue, az_urn, az_ure, bz_lit, nI_leI, nI_ltI, nI_eq, nI_clamp, nI_add, pk_sub, pk_mul, bz_nlt, bz_nle, bz_ltn, bz_len, bz_neq, bz_eqn, bz_nn, ↓reduceIte, Bool.false_eq_true, if_pos, if_neg]
              rw [hs (k + 1) 77 (by omega) (by omega), if_neg (by omega)]
          · rw [az_un (by omega), az_un (by omega), az_un (by omega), hs k r h1 h2]
            by_cases e2 : k < i
            · rw [if_pos e2, if_pos (by omega)]
            · rw [if_neg e2, if_neg (by omega)]
      · intro z hz
        obtain ⟨v4, I1⟩ := z
        obtain ⟨e, hf, hs⟩ := hz
        (try dsimp only at e hf hs)
        subst e
        refine ⟨_, ?_, I1, rfl, hf, fun k hk r h1 h2 => by rw [hs k r h1 h2, if_pos hk]⟩
        show rs_M_becomes_26_b (nI p) v (I 74 p) (nI 40) I1 = _
        unfold rs_M_becomes_26_b rs_M_becomes_87
        have e5 : I1 73 5 = nI 40 := (hf 73 5 (by (try dsimp only); omega)).trans h
        have q := chM_97 (I := az_u I1 73 5 (nI 39)) (d := 39) (p := p) (v := v) (u := I 74 p) az_us (by omega) hp
        simp (disch := omega) only [bl_lit, lgl, lgg, lgl0, lgg0, lglm, lggm, az_us, az_un, az_ue, az_urn, az_ure, bz_lit, nI_leI, nI_ltI, nI_eq, nI_clamp, nI_add, pk_sub, pk_mul, bz_nlt, bz_nle, bz_ltn, bz_len, bz_neq, bz_eqn, bz_nn, ↓reduceIte, Bool.false_eq_true, if_pos, if_neg, e5]
        rw [q]
        rfl
    obtain ⟨z, r1, I1, rfl, f1, s1⟩ := main
    refine ⟨_, 39, 1, by simp (disch := omega) only [bl_lit, lgl, lgg, lgl0, lgg0, lglm, lggm, az_us, az_un, az_ue, az_urn, az_ure, bz_lit, nI_leI, nI_ltI, nI_eq, nI_clamp, nI_add, pk_sub, pk_mul, bz_nlt, bz_nle, bz_ltn, bz_len, bz_neq, bz_eqn, bz_nn, ↓reduceIte, Bool.false_eq_true, if_pos, if_neg, h, hne]; exact r1, ?_, Or.inr ⟨rfl, rfl, rfl⟩, by simp (disch := omega) only [bl_lit, lgl, lgg, lgl0, lgg0, lglm, lggm, az_us, az_un, az_ue, az_urn, az_ure, bz_lit, nI_leI, nI_ltI, nI_eq, nI_clamp, nI_add, pk_sub, pk_mul, bz_nlt, bz_nle, bz_ltn, bz_len, bz_neq, bz_eqn, bz_nn, ↓reduceIte, Bool.false_eq_true, if_pos, if_neg], by simp (disch := omega) only [bl_lit, lgl, lgg, lgl0, lgg0, lglm, lggm, az_us, az_un, az_ue, az_urn, az_ure, bz_lit, nI_leI, nI_ltI, nI_eq, nI_clamp, nI_add, pk_sub, pk_mul, bz_nlt, bz_nle, bz_ltn, bz_len, bz_neq, bz_eqn, bz_nn, ↓reduceIte, Bool.false_eq_true, if_pos, if_neg], ?_, by simp (disch := omega) only [bl_lit, lgl, lgg, lgl0, lgg0, lglm, lggm, az_us, az_un, az_ue, az_urn, az_ure, bz_lit, nI_leI, nI_ltI, nI_eq, nI_clamp, nI_add, pk_sub, pk_mul, bz_nlt, bz_nle, bz_ltn, bz_len, bz_neq, bz_eqn, bz_nn, ↓reduceIte, Bool.false_eq_true, if_pos, if_neg], by simp (disch := omega) only [bl_lit, lgl, lgg, lgl0, lgg0, lglm, lggm, az_us, az_un, az_ue, az_urn, az_ure, bz_lit, nI_leI, nI_ltI, nI_eq, nI_clamp, nI_add, pk_sub, pk_mul, bz_nlt, bz_nle, bz_ltn, bz_len, bz_neq, bz_eqn, bz_nn, ↓reduceIte, Bool.false_eq_true, if_pos, if_neg], by simp (disch := omega) only [bl_lit, lgl, lgg, lgl0, lgg0, lglm, lggm, az_us, az_un, az_ue, az_urn, az_ure, bz_lit, nI_leI, nI_ltI, nI_eq, nI_clamp, nI_add, pk_sub, pk_mul, bz_nlt, bz_nle, bz_ltn, bz_len, bz_neq, bz_eqn, bz_nn, ↓reduceIte, Bool.false_eq_true, if_pos, if_neg], by simp (disch := omega) only [bl_lit, lgl, lgg, lgl0, lgg0, lglm, lggm, az_us, az_un, az_ue, az_urn, az_ure, bz_lit, nI_leI, nI_ltI, nI_eq, nI_clamp, nI_add, pk_sub, pk_mul, bz_nlt, bz_nle, bz_ltn, bz_len, bz_neq, bz_eqn, bz_nn, ↓reduceIte, Bool.false_eq_true, if_pos, if_neg]⟩
    · refine (f1.mono ?_).trans (by refine (((((((az_fr.refl.u ?_).u ?_).u ?_).u ?_).u ?_).u ?_).u ?_) <;> (try dsimp only) <;> omega)
      intro r k q
      (try dsimp only at q ⊢)
      omega
    · intro k hk r h1 h2
      rw [az_un (by omega), az_un (by omega), az_un (by omega), az_un (by omega), az_un (by omega), az_un (by omega), az_un (by omega)]
      exact s1 k hk r h1 h2
section
variable {I : Nat → Nat → Int32} {J : Nat → Nat → Int64} {rl rd : Nat}
theorem cx_r {i w p : Nat} (h : ch_pl i w p) : (cx i w).1 = 4 ∧ (cx i w).2 = 10 ∨ (5 ≤ (cx i w).1 ∧ (cx i w).1 ≤ 10) := by
  unfold cx
  have := (ch_w h).1
  by_cases e : w = 6
  · rw [if_pos e]; exact Or.inl ⟨rfl, rfl⟩
  · rw [if_neg e]; (try dsimp only); omega
theorem mt_mend (h : Rel I J rl rd) (a b v : Int32) : mt (rs_X_mend I a b v) (fun I => rs_M_mend I a b v) J rl rd := by
  obtain ⟨h1, h2, h3, h4, h5, h6, h7, h8, h9, h10, h11, h12⟩ := h
  unfold rs_X_mend rs_M_mend
  rcases ch_there h1 a b with ⟨x, q1, q2, q3⟩ | ⟨i, w, p, hpl, rfl, rfl, q1, q2⟩
  · refine ⟨-nI 2000000000, I, I, ?_, ?_, h1, h2, h3, h4, h5, h6, h7, h8, h9, h10, h11, h12⟩
    · rw [q1]
      (try dsimp only)
      by_cases x0 : x = 0
      · rw [if_pos x0]; rfl
      · rw [if_neg x0]
        rcases q3 with q3 | q3
        · exact absurd q3 x0
        · rw [ch_nofit v q3]; rfl
    · (try dsimp only)
      rw [q2]; rfl
  · obtain ⟨hw6, hp⟩ := ch_w hpl
    have hcx := cx_r hpl
    obtain ⟨e74, hv0⟩ := ch_eq hpl h2 h3 h4
    rcases ch_fit hw6 v with ⟨f1, f2⟩ | ⟨f1, f2, hv⟩
    · refine ⟨-nI 2000000000, I, I, ?_, ?_, h1, h2, h3, h4, h5, h6, h7, h8, h9, h10, h11, h12⟩
      · rw [q1, f1]; rfl
      · (try dsimp only)
        rw [q2, f2]
        simp (disch := omega) only [bl_lit, lgl, lgg, lgl0, lgg0, lglm, lggm, az_us, az_un, az_ue, az_urn, az_ure, bz_lit, nI_leI, nI_ltI, nI_eq, nI_clamp, nI_add, pk_sub, pk_mul, bz_nlt, bz_nle, bz_ltn, bz_len, bz_neq, bz_eqn, bz_nn, ↓reduceIte, Bool.false_eq_true, if_pos, if_neg]
    · by_cases hne : I 74 p = v
      · refine ⟨v, I, I, ?_, ?_, h1, h2, h3, h4, h5, h6, h7, h8, h9, h10, h11, h12⟩
        · rw [q1, f1, ch_read hpl, ← e74, hne]
          simp (disch := omega) only [bl_lit, lgl, lgg, lgl0, lgg0, lglm, lggm, az_us, az_un, az_ue, az_urn, az_ure, bz_lit, nI_leI, nI_ltI, nI_eq, nI_clamp, nI_add, pk_sub, pk_mul, bz_nlt, bz_nle, bz_ltn, bz_len, bz_neq, bz_eqn, bz_nn, ↓reduceIte, Bool.false_eq_true, if_pos, if_neg]
        · (try dsimp only)
          rw [q2, f2]
          unfold rs_M_becomes
          simp (disch := omega) only [bl_lit, lgl, lgg, lgl0, lgg0, lglm, lggm, az_us, az_un, az_ue, az_urn, az_ure, bz_lit, nI_leI, nI_ltI, nI_eq, nI_clamp, nI_add, pk_sub, pk_mul, bz_nlt, bz_nle, bz_ltn, bz_len, bz_neq, bz_eqn, bz_nn, ↓reduceIte, Bool.false_eq_true, if_pos, if_neg, hne]
      · have g9 := h9
        obtain ⟨d, al, c1, c2, c3, c4, c5, c6, c7⟩ := g9
        obtain ⟨Ia, D, o, ra, fa, hDo, a1, a2, a3, a4, a5, a6, a7⟩ := chX_add c3 (by omega) (nI i) (nI w) (I 74 p) v
        have fb : az_fr (fun r k => (r = 44 ∧ (k = 4 ∨ k = 5)) ∨ (45 ≤ r ∧ r ≤ 48) ∨ (r = (cx i w).1 ∧ k = (cx i w).2)) I (az_u Ia (cx i w).1 (cx i w).2 v) := by
          refine (fa.mono ?_).trans (by refine (az_fr.refl.u ?_) <;> (try dsimp only) <;> omega)
          intro r k q
          (try dsimp only at q ⊢)
          omega
        obtain ⟨I2, D', o', rb, fc, hDo', b1, b2, b3, b4, b5, b6, b7⟩ := chM_add (I := az_u Ia (cx i w).1 (cx i w).2 v) (d := d) (p := p) (v := v) ((fb 73 5 (by (try dsimp only); omega)).trans c4) (by omega) hp (by rw [fb 74 p (by (try dsimp only); omega)]; exact hne)
        have hD : D' = D ∧ o' = o := by omega
        obtain ⟨rfl, rfl⟩ := hD
        have hf : az_fr (fun r k => (r = 44 ∧ (k = 4 ∨ k = 5)) ∨ (45 ≤ r ∧ r ≤ 48) ∨ (r = (cx i w).1 ∧ k = (cx i w).2) ∨ (r = 73 ∧ (k = 4 ∨ k = 5)) ∨ (75 ≤ r ∧ r ≤ 77) ∨ (r = 74 ∧ k = p)) I I2 := by
          refine (fb.mono ?_).trans (fc.mono ?_)
          · intro r k q; (try dsimp only at q ⊢); omega
          · intro r k q; (try dsimp only at q ⊢); omega
        have hxv : I2 (cx i w).1 (cx i w).2 = v := by
          rw [fc _ _ (by (try dsimp only); omega), az_us]
        obtain ⟨k2, k3, k4⟩ := ch_upd (I' := I2) hpl hv hxv b7 (fun r k z1 z2 z3 => hf r k (by (try dsimp only); omega)) h2 h3 h4
        have hxr : ∀ r k, 45 ≤ r → r ≤ 48 → I2 r k = Ia r k := by
          intro r k z1 z2
          rw [fc r k (by (try dsimp only); omega), az_un (by omega)]
        refine ⟨I 74 p, az_u Ia (cx i w).1 (cx i w).2 v, I2, ?_, ?_, (h1.fr (fun r k q => hf r k (by unfold S_cnt at q; (try dsimp only); omega))), k2, k3, k4, (h5.fr (fun r k q => hf r k (by unfold S_std at q; (try dsimp only); omega))), (h6.fr (fun r k q => hf r k (by unfold S_led at q; (try dsimp only); omega))), (h7.fr (fun r k q => hf r k (by unfold S_tap at q; (try dsimp only); omega))), (h8.fr (fun r k q => hf r k (by unfold S_law at q; (try dsimp only); omega))), ⟨D' + 1, D' + 1, Nat.le_refl _, by omega, ?_, b1, ?_, b2, fun k hk => ?_⟩, (h10.fr (fun r k q => hf r k (by unfold S_img at q; (try dsimp only); omega))), (h11.fr (fun r k q => hf r k (by unfold S_bod at q; (try dsimp only); omega))), (h12.fr (fun r k q => hf r k (by unfold S_shf at q; (try dsimp only); omega)))⟩
        · rw [q1, f1, ch_read hpl, ← e74]
          simp (disch := omega) only [bl_lit, lgl, lgg, lgl0, lgg0, lglm, lggm, az_us, az_un, az_ue, az_urn, az_ure, bz_lit, nI_leI, nI_ltI, nI_eq, nI_clamp, nI_add, pk_sub, pk_mul, bz_nlt, bz_nle, bz_ltn, bz_len, bz_neq, bz_eqn, bz_nn, ↓reduceIte, Bool.false_eq_true, if_pos, if_neg, hne, ra, ch_write hpl]
        · (try dsimp only)
          rw [show rs_M_placeOf (az_u Ia (cx i w).1 (cx i w).2 v) (nI i) (nI w) = rs_M_placeOf I (nI i) (nI w) from by
            unfold rs_M_placeOf rs_M_placeOf_92
            rw [fb 73 6 (by (try dsimp only); omega), fb 73 7 (by (try dsimp only); omega)], q2, f2]
          simp (disch := omega) only [bl_lit, lgl, lgg, lgl0, lgg0, lglm, lggm, az_us, az_un, az_ue, az_urn, az_ure, bz_lit, nI_leI, nI_ltI, nI_eq, nI_clamp, nI_add, pk_sub, pk_mul, bz_nlt, bz_nle, bz_ltn, bz_len, bz_neq, bz_eqn, bz_nn, ↓reduceIte, Bool.false_eq_true, if_pos, if_neg, rb, fa 74 p (by (try dsimp only); omega)]
        · rw [fc 44 4 (by (try dsimp only); omega), az_un (by omega)]; exact a1
        · rw [fc 44 5 (by (try dsimp only); omega), az_un (by omega)]; exact a2
        · by_cases e : k = D'
          · subst e
            unfold ch_k
            rw [hxr 45 k (by omega) (by omega), hxr 46 k (by omega) (by omega), hxr 47 k (by omega) (by omega), hxr 48 k (by omega) (by omega), a4, a5, a6, a7, b4, b5, b6, fb 74 p (by (try dsimp only); omega)]
            exact ⟨i, w, p, rfl, rfl, rfl, hpl, rfl, rfl, hv0, hv⟩
          · have q := c7 (k + o') (by omega)
            unfold ch_k at q ⊢
            rw [hxr 45 k (by omega) (by omega), hxr 46 k (by omega) (by omega), hxr 47 k (by omega) (by omega), hxr 48 k (by omega) (by omega), a3 k (by omega) 45 (by omega) (by omega), a3 k (by omega) 46 (by omega) (by omega), a3 k (by omega) 47 (by omega) (by omega), a3 k (by omega) 48 (by omega) (by omega), b3 k (by omega) 75 (by omega) (by omega), b3 k (by omega) 76 (by omega) (by omega), b3 k (by omega) 77 (by omega) (by omega),
              fb 75 (k + o') (by (try dsimp only); omega), fb 76 (k + o') (by (try dsimp only); omega), fb 77 (k + o') (by (try dsimp only); omega)]
            exact q
theorem mt_undo (h : Rel I J rl rd) : mt (rs_X_undo I) (fun I => rs_M_undo I) J rl rd := by
  obtain ⟨h1, h2, h3, h4, h5, h6, h7, h8, h9, h10, h11, h12⟩ := h
  unfold rs_X_undo rs_M_undo rs_Ch_takeBack
  have g9 := h9
  obtain ⟨d, al, c1, c2, c3, c4, c5, c6, c7⟩ := g9
  by_cases hd : d = 0
  · subst hd
    exact ⟨-nI 5, I, I, by simp (disch := omega) only [bl_lit, lgl, lgg, lgl0, lgg0, lglm, lggm, az_us, az_un, az_ue, az_urn, az_ure, bz_lit, nI_leI, nI_ltI, nI_eq, nI_clamp, nI_add, pk_sub, pk_mul, bz_nlt, bz_nle, bz_ltn, bz_len, bz_neq, bz_eqn, bz_nn, ↓reduceIte, Bool.false_eq_true, if_pos, if_neg, c3], by simp (disch := omega) only [bl_lit, lgl, lgg, lgl0, lgg0, lglm, lggm, az_us, az_un, az_ue, az_urn, az_ure, bz_lit, nI_leI, nI_ltI, nI_eq, nI_clamp, nI_add, pk_sub, pk_mul, bz_nlt, bz_nle, bz_ltn, bz_len, bz_neq, bz_eqn, bz_nn, ↓reduceIte, Bool.false_eq_true, if_pos, if_neg, c4], h1, h2, h3, h4, h5, h6, h7, h8, h9, h10, h11, h12⟩
  · have g7 := c7 (d - 1) (by omega)
    obtain ⟨i, w, p, e1, e2, e3, hpl, e4, e5, v1, v2⟩ := g7
    obtain ⟨hw6, hp⟩ := ch_w hpl
    have hcx := cx_r hpl
    have hf : az_fr (fun r k => (r = 44 ∧ k = 4) ∨ (r = (cx i w).1 ∧ k = (cx i w).2) ∨ (r = 73 ∧ k = 5) ∨ (r = 74 ∧ k = p)) I (az_u (az_u (az_u (az_u I 44 4 (nI (d - 1))) (cx i w).1 (cx i w).2 (I 47 (d - 1))) 73 5 (nI (d - 1))) 74 p (I 47 (d - 1))) := (by refine ((((az_fr.refl.u ?_).u ?_).u ?_).u ?_) <;> (try dsimp only) <;> omega)
    obtain ⟨k2, k3, k4⟩ := ch_upd (I' := az_u (az_u (az_u (az_u I 44 4 (nI (d - 1))) (cx i w).1 (cx i w).2 (I 47 (d - 1))) 73 5 (nI (d - 1))) 74 p (I 47 (d - 1))) hpl v1 (by simp (disch := omega) only [bl_lit, lgl, lgg, lgl0, lgg0, lglm, lggm, az_us, az_un, az_ue, az_urn, az_ure, bz_lit, nI_leI, nI_ltI, nI_eq, nI_clamp, nI_add, pk_sub, pk_mul, bz_nlt, bz_nle, bz_ltn, bz_len, bz_neq, bz_eqn, bz_nn, ↓reduceIte, Bool.false_eq_true, if_pos, if_neg]) az_us (fun r k z1 z2 z3 => hf r k (by (try dsimp only); omega)) h2 h3 h4
    refine ⟨nI (d - 1), az_u (az_u I 44 4 (nI (d - 1))) (cx i w).1 (cx i w).2 (I 47 (d - 1)), az_u (az_u (az_u (az_u I 44 4 (nI (d - 1))) (cx i w).1 (cx i w).2 (I 47 (d - 1))) 73 5 (nI (d - 1))) 74 p (I 47 (d - 1)), ?_, ?_, (h1.fr (fun r k q => hf r k (by unfold S_cnt at q; (try dsimp only); omega))), k2, k3, k4, (h5.fr (fun r k q => hf r k (by unfold S_std at q; (try dsimp only); omega))), (h6.fr (fun r k q => hf r k (by unfold S_led at q; (try dsimp only); omega))), (h7.fr (fun r k q => hf r k (by unfold S_tap at q; (try dsimp only); omega))), (h8.fr (fun r k q => hf r k (by unfold S_law at q; (try dsimp only); omega))), ⟨d - 1, al, by omega, c2, ?_, ?_, ?_, ?_, fun k hk => ?_⟩, (h10.fr (fun r k q => hf r k (by unfold S_img at q; (try dsimp only); omega))), (h11.fr (fun r k q => hf r k (by unfold S_bod at q; (try dsimp only); omega))), (h12.fr (fun r k q => hf r k (by unfold S_shf at q; (try dsimp only); omega)))⟩
    · simp (disch := omega) only [bl_lit, lgl, lgg, lgl0, lgg0, lglm, lggm, az_us, az_un, az_ue, az_urn, az_ure, bz_lit, nI_leI, nI_ltI, nI_eq, nI_clamp, nI_add, pk_sub, pk_mul, bz_nlt, bz_nle, bz_ltn, bz_len, bz_neq, bz_eqn, bz_nn, ↓reduceIte, Bool.false_eq_true, if_pos, if_neg, c3, e1, e2, ch_write hpl]
    · simp (disch := omega) only [bl_lit, lgl, lgg, lgl0, lgg0, lglm, lggm, az_us, az_un, az_ue, az_urn, az_ure, bz_lit, nI_leI, nI_ltI, nI_eq, nI_clamp, nI_add, pk_sub, pk_mul, bz_nlt, bz_nle, bz_ltn, bz_len, bz_neq, bz_eqn, bz_nn, ↓reduceIte, Bool.false_eq_true, if_pos, if_neg, c4, e3, e4]
    · simp (disch := omega) only [bl_lit, lgl, lgg, lgl0, lgg0, lglm, lggm, az_us, az_un, az_ue, az_urn, az_ure, bz_lit, nI_leI, nI_ltI, nI_eq, nI_clamp, nI_add, pk_sub, pk_mul, bz_nlt, bz_nle, bz_ltn, bz_len, bz_neq, bz_eqn, bz_nn, ↓reduceIte, Bool.false_eq_true, if_pos, if_neg]
    · simp (disch := omega) only [bl_lit, lgl, lgg, lgl0, lgg0, lglm, lggm, az_us, az_un, az_ue, az_urn, az_ure, bz_lit, nI_leI, nI_ltI, nI_eq, nI_clamp, nI_add, pk_sub, pk_mul, bz_nlt, bz_nle, bz_ltn, bz_len, bz_neq, bz_eqn, bz_nn, ↓reduceIte, Bool.false_eq_true, if_pos, if_neg]
    · simp (disch := omega) only [bl_lit, lgl, lgg, lgl0, lgg0, lglm, lggm, az_us, az_un, az_ue, az_urn, az_ure, bz_lit, nI_leI, nI_ltI, nI_eq, nI_clamp, nI_add, pk_sub, pk_mul, bz_nlt, bz_nle, bz_ltn, bz_len, bz_neq, bz_eqn, bz_nn, ↓reduceIte, Bool.false_eq_true, if_pos, if_neg, c5]
    · simp (disch := omega) only [bl_lit, lgl, lgg, lgl0, lgg0, lglm, lggm, az_us, az_un, az_ue, az_urn, az_ure, bz_lit, nI_leI, nI_ltI, nI_eq, nI_clamp, nI_add, pk_sub, pk_mul, bz_nlt, bz_nle, bz_ltn, bz_len, bz_neq, bz_eqn, bz_nn, ↓reduceIte, Bool.false_eq_true, if_pos, if_neg, c6]
    · have q := c7 k hk
      unfold ch_k at q ⊢
      simp (disch := omega) only [bl_lit, lgl, lgg, lgl0, lgg0, lglm, lggm, az_us, az_un, az_ue, az_urn, az_ure, bz_lit, nI_leI, nI_ltI, nI_eq, nI_clamp, nI_add, pk_sub, pk_mul, bz_nlt, bz_nle, bz_ltn, bz_len, bz_neq, bz_eqn, bz_nn, ↓reduceIte, Bool.false_eq_true, if_pos, if_neg]
      exact q
theorem mt_redo (h : Rel I J rl rd) : mt (rs_X_redo I) (fun I => rs_M_redo I) J rl rd := by
  obtain ⟨h1, h2, h3, h4, h5, h6, h7, h8, h9, h10, h11, h12⟩ := h
  unfold rs_X_redo rs_M_redo rs_Ch_doAgain
  have g9 := h9
  obtain ⟨d, al, c1, c2, c3, c4, c5, c6, c7⟩ := g9
  by_cases hd : d = al
  · subst hd
    exact ⟨-nI 5, I, I, by simp (disch := omega) only [bl_lit, lgl, lgg, lgl0, lgg0, lglm, lggm, az_us, az_un, az_ue, az_urn, az_ure, bz_lit, nI_leI, nI_ltI, nI_eq, nI_clamp, nI_add, pk_sub, pk_mul, bz_nlt, bz_nle, bz_ltn, bz_len, bz_neq, bz_eqn, bz_nn, ↓reduceIte, Bool.false_eq_true, if_pos, if_neg, c3, c5], by simp (disch := omega) only [bl_lit, lgl, lgg, lgl0, lgg0, lglm, lggm, az_us, az_un, az_ue, az_urn, az_ure, bz_lit, nI_leI, nI_ltI, nI_eq, nI_clamp, nI_add, pk_sub, pk_mul, bz_nlt, bz_nle, bz_ltn, bz_len, bz_neq, bz_eqn, bz_nn, ↓reduceIte, Bool.false_eq_true, if_pos, if_neg, c4, c6], h1, h2, h3, h4, h5, h6, h7, h8, h9, h10, h11, h12⟩
  · have g7 := c7 d (by omega)
    obtain ⟨i, w, p, e1, e2, e3, hpl, e4, e5, v1, v2⟩ := g7
    obtain ⟨hw6, hp⟩ := ch_w hpl
    have hcx := cx_r hpl
    have hf : az_fr (fun r k => (r = 44 ∧ k = 4) ∨ (r = (cx i w).1 ∧ k = (cx i w).2) ∨ (r = 73 ∧ k = 5) ∨ (r = 74 ∧ k = p)) I (az_u (az_u (az_u (az_u I (cx i w).1 (cx i w).2 (I 48 d)) 44 4 (nI (d + 1))) 74 p (I 48 d)) 73 5 (nI (d + 1))) := (by refine ((((az_fr.refl.u ?_).u ?_).u ?_).u ?_) <;> (try dsimp only) <;> omega)
    obtain ⟨k2, k3, k4⟩ := ch_upd (I' := az_u (az_u (az_u (az_u I (cx i w).1 (cx i w).2 (I 48 d)) 44 4 (nI (d + 1))) 74 p (I 48 d)) 73 5 (nI (d + 1))) hpl v2 (by simp (disch := omega) only [bl_lit, lgl, lgg, lgl0, lgg0, lglm, lggm, az_us, az_un, az_ue, az_urn, az_ure, bz_lit, nI_leI, nI_ltI, nI_eq, nI_clamp, nI_add, pk_sub, pk_mul, bz_nlt, bz_nle, bz_ltn, bz_len, bz_neq, bz_eqn, bz_nn, ↓reduceIte, Bool.false_eq_true, if_pos, if_neg]) (by simp (disch := omega) only [bl_lit, lgl, lgg, lgl0, lgg0, lglm, lggm, az_us, az_un, az_ue, az_urn, az_ure, bz_lit, nI_leI, nI_ltI, nI_eq, nI_clamp, nI_add, pk_sub, pk_mul, bz_nlt, bz_nle, bz_ltn, bz_len, bz_neq, bz_eqn, bz_nn, ↓reduceIte, Bool.false_eq_true, if_pos, if_neg]) (fun r k z1 z2 z3 => hf r k (by (try dsimp only); omega)) h2 h3 h4
    refine ⟨nI (al - (d + 1)), az_u (az_u I (cx i w).1 (cx i w).2 (I 48 d)) 44 4 (nI (d + 1)), az_u (az_u (az_u (az_u I (cx i w).1 (cx i w).2 (I 48 d)) 44 4 (nI (d + 1))) 74 p (I 48 d)) 73 5 (nI (d + 1)), ?_, ?_, (h1.fr (fun r k q => hf r k (by unfold S_cnt at q; (try dsimp only); omega))), k2, k3, k4, (h5.fr (fun r k q => hf r k (by unfold S_std at q; (try dsimp only); omega))), (h6.fr (fun r k q => hf r k (by unfold S_led at q; (try dsimp only); omega))), (h7.fr (fun r k q => hf r k (by unfold S_tap at q; (try dsimp only); omega))), (h8.fr (fun r k q => hf r k (by unfold S_law at q; (try dsimp only); omega))), ⟨d + 1, al, by omega, c2, ?_, ?_, ?_, ?_, fun k hk => ?_⟩, (h10.fr (fun r k q => hf r k (by unfold S_img at q; (try dsimp only); omega))), (h11.fr (fun r k q => hf r k (by unfold S_bod at q; (try dsimp only); omega))), (h12.fr (fun r k q => hf r k (by unfold S_shf at q; (try dsimp only); omega)))⟩
    · simp (disch := omega) only [bl_lit, lgl, lgg, lgl0, lgg0, lglm, lggm, az_us, az_un, az_ue, az_urn, az_ure, bz_lit, nI_leI, nI_ltI, nI_eq, nI_clamp, nI_add, pk_sub, pk_mul, bz_nlt, bz_nle, bz_ltn, bz_len, bz_neq, bz_eqn, bz_nn, ↓reduceIte, Bool.false_eq_true, if_pos, if_neg, c3, c5, e1, e2, ch_write hpl]
    · simp (disch := omega) only [bl_lit, lgl, lgg, lgl0, lgg0, lglm, lggm, az_us, az_un, az_ue, az_urn, az_ure, bz_lit, nI_leI, nI_ltI, nI_eq, nI_clamp, nI_add, pk_sub, pk_mul, bz_nlt, bz_nle, bz_ltn, bz_len, bz_neq, bz_eqn, bz_nn, ↓reduceIte, Bool.false_eq_true, if_pos, if_neg, c4, c6, e3, e5]
    · simp (disch := omega) only [bl_lit, lgl, lgg, lgl0, lgg0, lglm, lggm, az_us, az_un, az_ue, az_urn, az_ure, bz_lit, nI_leI, nI_ltI, nI_eq, nI_clamp, nI_add, pk_sub, pk_mul, bz_nlt, bz_nle, bz_ltn, bz_len, bz_neq, bz_eqn, bz_nn, ↓reduceIte, Bool.false_eq_true, if_pos, if_neg]
    · simp (disch := omega) only [bl_lit, lgl, lgg, lgl0, lgg0, lglm, lggm, az_us, az_un, az_ue, az_urn, az_ure, bz_lit, nI_leI, nI_ltI, nI_eq, nI_clamp, nI_add, pk_sub, pk_mul, bz_nlt, bz_nle, bz_ltn, bz_len, bz_neq, bz_eqn, bz_nn, ↓reduceIte, Bool.false_eq_true, if_pos, if_neg]
    · simp (disch := omega) only [bl_lit, lgl, lgg, lgl0, lgg0, lglm, lggm, az_us, az_un, az_ue, az_urn, az_ure, bz_lit, nI_leI, nI_ltI, nI_eq, nI_clamp, nI_add, pk_sub, pk_mul, bz_nlt, bz_nle, bz_ltn, bz_len, bz_neq, bz_eqn, bz_nn, ↓reduceIte, Bool.false_eq_true, if_pos, if_neg, c5]
    · simp (disch := omega) only [bl_lit, lgl, lgg, lgl0, lgg0, lglm, lggm, az_us, az_un, az_ue, az_urn, az_ure, bz_lit, nI_leI, nI_ltI, nI_eq, nI_clamp, nI_add, pk_sub, pk_mul, bz_nlt, bz_nle, bz_ltn, bz_len, bz_neq, bz_eqn, bz_nn, ↓reduceIte, Bool.false_eq_true, if_pos, if_neg, c6]
    · have q := c7 k hk
      unfold ch_k at q ⊢
      simp (disch := omega) only [bl_lit, lgl, lgg, lgl0, lgg0, lglm, lggm, az_us, az_un, az_ue, az_urn, az_ure, bz_lit, nI_leI, nI_ltI, nI_eq, nI_clamp, nI_add, pk_sub, pk_mul, bz_nlt, bz_nle, bz_ltn, bz_len, bz_neq, bz_eqn, bz_nn, ↓reduceIte, Bool.false_eq_true, if_pos, if_neg]
      exact q
theorem mt_of (h : Rel I J rl rd) (a b : Int32) : ∃ v, rs_X_of I a b = some v ∧ rs_M_of I a b = some v := by
  obtain ⟨h1, h2, h3, h4, h5, h6, h7, h8, h9, h10, h11, h12⟩ := h
  have g1 := h1
  obtain ⟨np, nw, p1, p2, p3, p4, p5, p6⟩ := g1
  unfold rs_X_of rs_M_of
  rcases ch_there h1 a b with ⟨x, q1, q2, q3⟩ | ⟨i, w, p, hpl, rfl, rfl, q1, q2⟩
  · rw [q1, q2]
    (try dsimp only)
    rcases ix a nw (by omega) with x1 | ⟨x1, y1⟩ | ⟨j, hj, rfl⟩
    · refine ⟨-nI 2000000000, ?_, by simp (disch := omega) only [bl_lit, lgl, lgg, lgl0, lgg0, lglm, lggm, az_us, az_un, az_ue, az_urn, az_ure, bz_lit, nI_leI, nI_ltI, nI_eq, nI_clamp, nI_add, pk_sub, pk_mul, bz_nlt, bz_nle, bz_ltn, bz_len, bz_neq, bz_eqn, bz_nn, ↓reduceIte, Bool.false_eq_true, if_pos, if_neg, x1]⟩
      by_cases x0 : x = 0
      · rw [if_pos x0]; rfl
      · exfalso
        rcases q3 with q3 | rfl | rfl
        · exact x0 q3
        · unfold rs_Mo_isThere rs_Mo_isThere_69 at q1
          revert q1
          simp (disch := omega) only [bl_lit, lgl, lgg, lgl0, lgg0, lglm, lggm, az_us, az_un, az_ue, az_urn, az_ure, bz_lit, nI_leI, nI_ltI, nI_eq, nI_clamp, nI_add, pk_sub, pk_mul, bz_nlt, bz_nle, bz_ltn, bz_len, bz_neq, bz_eqn, bz_nn, ↓reduceIte, Bool.false_eq_true, if_pos, if_neg, x1, Option.some.injEq]
          intro q; exact x0 q.symm
        · unfold rs_Mo_isThere rs_Mo_isThere_69 at q1
          revert q1
          simp (disch := omega) only [bl_lit, lgl, lgg, lgl0, lgg0, lglm, lggm, az_us, az_un, az_ue, az_urn, az_ure, bz_lit, nI_leI, nI_ltI, nI_eq, nI_clamp, nI_add, pk_sub, pk_mul, bz_nlt, bz_nle, bz_ltn, bz_len, bz_neq, bz_eqn, bz_nn, ↓reduceIte, Bool.false_eq_true, if_pos, if_neg, x1, Option.some.injEq]
          intro q; exact x0 q.symm
    · refine ⟨-nI 2000000000, ?_, by simp (disch := omega) only [bl_lit, lgl, lgg, lgl0, lgg0, lglm, lggm, az_us, az_un, az_ue, az_urn, az_ure, bz_lit, nI_leI, nI_ltI, nI_eq, nI_clamp, nI_add, pk_sub, pk_mul, bz_nlt, bz_nle, bz_ltn, bz_len, bz_neq, bz_eqn, bz_nn, ↓reduceIte, Bool.false_eq_true, if_pos, if_neg, x1, y1, p6]⟩
      by_cases x0 : x = 0
      · rw [if_pos x0]; rfl
      · exfalso
        rcases q3 with q3 | rfl | rfl
        · exact x0 q3
        · unfold rs_Mo_isThere rs_Mo_isThere_69 at q1
          revert q1
          simp (disch := omega) only [bl_lit, lgl, lgg, lgl0, lgg0, lglm, lggm, az_us, az_un, az_ue, az_urn, az_ure, bz_lit, nI_leI, nI_ltI, nI_eq, nI_clamp, nI_add, pk_sub, pk_mul, bz_nlt, bz_nle, bz_ltn, bz_len, bz_neq, bz_eqn, bz_nn, ↓reduceIte, Bool.false_eq_true, if_pos, if_neg, x1, y1, p5, Option.some.injEq]
          intro q; exact x0 q.symm
        · unfold rs_Mo_isThere rs_Mo_isThere_69 at q1
          revert q1
          simp (disch := omega) only [bl_lit, lgl, lgg, lgl0, lgg0, lglm, lggm, az_us, az_un, az_ue, az_urn, az_ure, bz_lit, nI_leI, nI_ltI, nI_eq, nI_clamp, nI_add, pk_sub, pk_mul, bz_nlt, bz_nle, bz_ltn, bz_len, bz_neq, bz_eqn, bz_nn, ↓reduceIte, Bool.false_eq_true, if_pos, if_neg, x1, y1, p5, Option.some.injEq]
          intro q; exact x0 q.symm
    · obtain ⟨⟨c, s1, s2, s3⟩, s4, s5⟩ := h5 j (by omega)
      by_cases b7 : b = nI 7
      · subst b7
        unfold rs_Mo_isThere rs_Mo_isThere_69 at q1
        refine ⟨nI c, ?_, by simp (disch := omega) only [bl_lit, lgl, lgg, lgl0, lgg0, lglm, lggm, az_us, az_un, az_ue, az_urn, az_ure, bz_lit, nI_leI, nI_ltI, nI_eq, nI_clamp, nI_add, pk_sub, pk_mul, bz_nlt, bz_nle, bz_ltn, bz_len, bz_neq, bz_eqn, bz_nn, ↓reduceIte, Bool.false_eq_true, if_pos, if_neg, p6, s3]⟩
        have : x = nI 1 := by
          revert q1
          simp (disch := omega) only [bl_lit, lgl, lgg, lgl0, lgg0, lglm, lggm, az_us, az_un, az_ue, az_urn, az_ure, bz_lit, nI_leI, nI_ltI, nI_eq, nI_clamp, nI_add, pk_sub, pk_mul, bz_nlt, bz_nle, bz_ltn, bz_len, bz_neq, bz_eqn, bz_nn, ↓reduceIte, Bool.false_eq_true, if_pos, if_neg, p5, Option.some.injEq]
          exact fun q => q.symm
        subst this
        unfold rs_Mo_read
        simp (disch := omega) only [bl_lit, lgl, lgg, lgl0, lgg0, lglm, lggm, az_us, az_un, az_ue, az_urn, az_ure, bz_lit, nI_leI, nI_ltI, nI_eq, nI_clamp, nI_add, pk_sub, pk_mul, bz_nlt, bz_nle, bz_ltn, bz_len, bz_neq, bz_eqn, bz_nn, ↓reduceIte, Bool.false_eq_true, if_pos, if_neg, s2]
      · by_cases b8 : b = nI 8
        · subst b8
          unfold rs_Mo_isThere rs_Mo_isThere_69 at q1
          refine ⟨I 12 j, ?_, by simp (disch := omega) only [bl_lit, lgl, lgg, lgl0, lgg0, lglm, lggm, az_us, az_un, az_ue, az_urn, az_ure, bz_lit, nI_leI, nI_ltI, nI_eq, nI_clamp, nI_add, pk_sub, pk_mul, bz_nlt, bz_nle, bz_ltn, bz_len, bz_neq, bz_eqn, bz_nn, ↓reduceIte, Bool.false_eq_true, if_pos, if_neg, p6, s4]⟩
          have : x = nI 1 := by
            revert q1
            simp (disch := omega) only [bl_lit, lgl, lgg, lgl0, lgg0, lglm, lggm, az_us, az_un, az_ue, az_urn, az_ure, bz_lit, nI_leI, nI_ltI, nI_eq, nI_clamp, nI_add, pk_sub, pk_mul, bz_nlt, bz_nle, bz_ltn, bz_len, bz_neq, bz_eqn, bz_nn, ↓reduceIte, Bool.false_eq_true, if_pos, if_neg, p5, Option.some.injEq]
            exact fun q => q.symm
          subst this
          unfold rs_Mo_read
          simp (disch := omega) only [bl_lit, lgl, lgg, lgl0, lgg0, lglm, lggm, az_us, az_un, az_ue, az_urn, az_ure, bz_lit, nI_leI, nI_ltI, nI_eq, nI_clamp, nI_add, pk_sub, pk_mul, bz_nlt, bz_nle, bz_ltn, bz_len, bz_neq, bz_eqn, bz_nn, ↓reduceIte, Bool.false_eq_true, if_pos, if_neg]
        · rcases q3 with q3 | q3 | q3
          · subst q3
            exact ⟨-nI 2000000000, rfl, by simp (disch := omega) only [bl_lit, lgl, lgg, lgl0, lgg0, lglm, lggm, az_us, az_un, az_ue, az_urn, az_ure, bz_lit, nI_leI, nI_ltI, nI_eq, nI_clamp, nI_add, pk_sub, pk_mul, bz_nlt, bz_nle, bz_ltn, bz_len, bz_neq, bz_eqn, bz_nn, ↓reduceIte, Bool.false_eq_true, if_pos, if_neg, p6, b7, b8]⟩
          · exact absurd q3 b7
          · exact absurd q3 b8
  · obtain ⟨hw6, hp⟩ := ch_w hpl
    obtain ⟨e74, hv0⟩ := ch_eq hpl h2 h3 h4
    refine ⟨I 74 p, ?_, ?_⟩
    · rw [q1, ch_read hpl, ← e74]; rfl
    · rw [q2]
      simp (disch := omega) only [bl_lit, lgl, lgg, lgl0, lgg0, lglm, lggm, az_us, az_un, az_ue, az_urn, az_ure, bz_lit, nI_leI, nI_ltI, nI_eq, nI_clamp, nI_add, pk_sub, pk_mul, bz_nlt, bz_nle, bz_ltn, bz_len, bz_neq, bz_eqn, bz_nn, ↓reduceIte, Bool.false_eq_true, if_pos, if_neg]
end

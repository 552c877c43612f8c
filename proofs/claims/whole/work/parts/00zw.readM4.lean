/-! THE LAW: the reference's operands -/
section
variable {n : Nat} {B : Nat → Int32}
theorem mp_wrong {A : Nat → Nat → Int32} {p d : Nat} (hn : n ≤ 120) (h : mst n B A p d) (hp : p ≤ n) : rs_M_wrong A = some (nI 0, az_u A 73 17 (nI p)) ∧ az_fr F_m A (az_u A 73 17 (nI p)) ∧ mer n B (az_u A 73 17 (nI p)) p := by
  obtain ⟨h1, h3, h4, h5⟩ := h
  have f : az_fr F_m A (az_u A 73 17 (nI p)) := (az_fr.refl (S := F_m)).u (by unfold F_m; omega)
  refine ⟨?_, f, h1.fr f, az_us, hp, p, by omega, ?_⟩
  · unfold rs_M_wrong
    rw [h4, h3, if_neg (by decide)]
    rfl
  · rw [az_un (by omega)]; exact h3
theorem mp_wrongE {A : Nat → Nat → Int32} {e : Nat} (hn : n ≤ 120) (h : mer n B A e) : ∃ A', rs_M_wrong A = some (nI 0, A') ∧ az_fr F_m A A' ∧ mer n B A' e := by
  obtain ⟨h1, h2, h3, q, hq, h4⟩ := h
  have f : az_fr F_m A (az_u A 73 17 (nI e)) := (az_fr.refl (S := F_m)).u (by unfold F_m; omega)
  refine ⟨az_u A 73 17 (nI e), ?_, f, h1.fr f, az_us, h3, q, hq, ?_⟩
  · unfold rs_M_wrong
    rw [h2, if_pos (nI_pos' (by omega))]
    rfl
  · rw [az_un (by omega)]; exact h4
/-- number, name, or nothing -/
theorem mp_base {rec : az_GT} {I : Nat → Nat → Int32} {p d : Nat} (hn : n ≤ 120) (h : mst n B I p d) (hp : p ≤ n) (hb : p < n → B p ≠ nI 33 ∧ B p ≠ nI 45 ∧ B p ≠ nI 40) : ∃ x I', rs_M_one rec I = some (x, I') ∧ mqq n B I d (p0 n B p) x I' := by
  have h' := h
  obtain ⟨⟨h1, h2⟩, h3, h4, h5⟩ := h
  have m1 : ¬ nI 0 ≤ -nI 1 := by decide
  have m2 : -nI 1 < nI 0 := by decide
  have nm0 : rs_M_nameOf (nI 0) = some (-nI 1) := by decide
  obtain ⟨wr, wf, we⟩ := mp_wrong hn h' hp
  have w229 : ∀ v, rs_M_one_229 rec I v (nI 0) = some (nI 0, az_u I 73 17 (nI p)) := by
    intro v
    unfold rs_M_one_229
    simp (disch := omega) only [bl_lit, lgl, lgg, lgl0, lgg0, lglm, lggm, az_us, az_un, az_ue, az_urn, az_ure, bz_lit, nI_leI, nI_ltI, nI_eq, nI_clamp, nI_add, pk_sub, pk_mul, bz_nlt, bz_nle, bz_ltn, bz_len, bz_neq, bz_eqn, bz_nn, ↓reduceIte, Bool.false_eq_true, if_pos, if_neg, wr]
  -- no digit, no name
  have none176 : ¬ pdg n B p → rs_M_one_176 rec I (nI 0) (nI 0) = some (nI 0, az_u I 73 17 (nI p)) := by
    intro dg
    unfold rs_M_one_176
    refine az_lp_r ?_
    show rs_M_one_176_b rec (nI 0) (nI 0) I = _
    unfold rs_M_one_176_b
    rcases Nat.lt_or_ge p n with w | w
    · by_cases e2 : B p < nI 48
      · rcases h1 with ⟨a, b⟩ | ⟨a, b⟩
        · have b := b p w
          simp (disch := omega) only [bl_lit, lgl, lgg, lgl0, lgg0, lglm, lggm, az_us, az_un, az_ue, az_urn, az_ure, bz_lit, nI_leI, nI_ltI, nI_eq, nI_clamp, nI_add, pk_sub, pk_mul, bz_nlt, bz_nle, bz_ltn, bz_len, bz_neq, bz_eqn, bz_nn, ↓reduceIte, Bool.false_eq_true, if_pos, if_neg, h2, h3, a, m1, b, e2, w229, Option.map_some]
        · have b := b p w
          simp (disch := omega) only [bl_lit, lgl, lgg, lgl0, lgg0, lglm, lggm, az_us, az_un, az_ue, az_urn, az_ure, bz_lit, nI_leI, nI_ltI, nI_eq, nI_clamp, nI_add, pk_sub, pk_mul, bz_nlt, bz_nle, bz_ltn, bz_len, bz_neq, bz_eqn, bz_nn, ↓reduceIte, Bool.false_eq_true, if_pos, if_neg, h2, h3, a, m1, Nat.zero_add, b, e2, w229, Option.map_some]
      · have e3 : nI 57 < B p := by
          by_cases e3 : nI 57 < B p
          · exact e3
          · exact absurd ⟨w, e2, e3⟩ dg
        rcases h1 with ⟨a, b⟩ | ⟨a, b⟩
        · have b := b p w
          simp (disch := omega) only [bl_lit, lgl, lgg, lgl0, lgg0, lglm, lggm, az_us, az_un, az_ue, az_urn, az_ure, bz_lit, nI_leI, nI_ltI, nI_eq, nI_clamp, nI_add, pk_sub, pk_mul, bz_nlt, bz_nle, bz_ltn, bz_len, bz_neq, bz_eqn, bz_nn, ↓reduceIte, Bool.false_eq_true, if_pos, if_neg, h2, h3, a, m1, b, e2, e3, w229, Option.map_some]
        · have b := b p w
          simp (disch := omega) only [bl_lit, lgl, lgg, lgl0, lgg0, lglm, lggm, az_us, az_un, az_ue, az_urn, az_ure, bz_lit, nI_leI, nI_ltI, nI_eq, nI_clamp, nI_add, pk_sub, pk_mul, bz_nlt, bz_nle, bz_ltn, bz_len, bz_neq, bz_eqn, bz_nn, ↓reduceIte, Bool.false_eq_true, if_pos, if_neg, h2, h3, a, m1, Nat.zero_add, b, e2, e3, w229, Option.map_some]
    · simp (disch := omega) only [bl_lit, lgl, lgg, lgl0, lgg0, lglm, lggm, az_us, az_un, az_ue, az_urn, az_ure, bz_lit, nI_leI, nI_ltI, nI_eq, nI_clamp, nI_add, pk_sub, pk_mul, bz_nlt, bz_nle, bz_ltn, bz_len, bz_neq, bz_eqn, bz_nn, ↓reduceIte, Bool.false_eq_true, if_pos, if_neg, h2, h3, w229, Option.map_some]
  rcases Nat.lt_or_ge p n with w | w
  · obtain ⟨b1, b2, b3⟩ := hb w
    have nm := nmo_M (B p)
    have key : ∀ y, (match nmo (B p) with | some i => some (I 82 i, az_u I 73 15 (nI (p + 1))) | none => rs_M_one_176 rec I (nI 0) (nI 0)) = some y → rs_M_one rec I = some y := by
      intro y hy
      unfold rs_M_one
      cases e : nmo (B p) with
      | some i =>
        rw [e] at nm hy
        (try dsimp only at nm hy)
        have hi := (nmo_lt e).1
        rw [← hy]
        rcases h1 with ⟨a, b⟩ | ⟨a, b⟩
        · have b := b p w
          simp (disch := omega) only [bl_lit, lgl, lgg, lgl0, lgg0, lglm, lggm, az_us, az_un, az_ue, az_urn, az_ure, bz_lit, nI_leI, nI_ltI, nI_eq, nI_clamp, nI_add, pk_sub, pk_mul, bz_nlt, bz_nle, bz_ltn, bz_len, bz_neq, bz_eqn, bz_nn, ↓reduceIte, Bool.false_eq_true, if_pos, if_neg, h2, h3, h4, a, m1, m2, b, b1, b2, b3, nm]
        · have b := b p w
          simp (disch := omega) only [bl_lit, lgl, lgg, lgl0, lgg0, lglm, lggm, az_us, az_un, az_ue, az_urn, az_ure, bz_lit, nI_leI, nI_ltI, nI_eq, nI_clamp, nI_add, pk_sub, pk_mul, bz_nlt, bz_nle, bz_ltn, bz_len, bz_neq, bz_eqn, bz_nn, ↓reduceIte, Bool.false_eq_true, if_pos, if_neg, h2, h3, h4, a, m1, m2, Nat.zero_add, b, b1, b2, b3, nm]
      | none =>
        rw [e] at nm hy
        (try dsimp only at nm hy)
        rcases h1 with ⟨a, b⟩ | ⟨a, b⟩
        · have b := b p w
          simp (disch := omega) only [bl_lit, lgl, lgg, lgl0, lgg0, lglm, lggm, az_us, az_un, az_ue, az_urn, az_ure, bz_lit, nI_leI, nI_ltI, nI_eq, nI_clamp, nI_add, pk_sub, pk_mul, bz_nlt, bz_nle, bz_ltn, bz_len, bz_neq, bz_eqn, bz_nn, ↓reduceIte, Bool.false_eq_true, if_pos, if_neg, h2, h3, h4, a, m1, m2, b, b1, b2, b3, nm, hy]
        · have b := b p w
          simp (disch := omega) only [bl_lit, lgl, lgg, lgl0, lgg0, lglm, lggm, az_us, az_un, az_ue, az_urn, az_ure, bz_lit, nI_leI, nI_ltI, nI_eq, nI_clamp, nI_add, pk_sub, pk_mul, bz_nlt, bz_nle, bz_ltn, bz_len, bz_neq, bz_eqn, bz_nn, ↓reduceIte, Bool.false_eq_true, if_pos, if_neg, h2, h3, h4, a, m1, m2, Nat.zero_add, b, b1, b2, b3, nm, hy]
    by_cases dg : pdg n B p
    · have nn : nmo (B p) = none := by
        cases e : nmo (B p) with
        | none => rfl
        | some i => exact absurd (nmo_lt e).2 dg.2.2
      rw [nn] at key
      have dg' := dg
      obtain ⟨e1, e2, e3⟩ := dg'
      obtain ⟨A2, r2, q2, q3⟩ := mp_num (B := B) (rec := rec) (I0 := I) hn 3 (az_u I 73 15 (nI (p + 1))) (p + 1) (nI 0 * nI 10 + B p - nI 48) 99999 (by omega) (ms_take h') ((az_fr.refl (S := F_m)).u (by unfold F_m; omega)) (by omega) (by omega)
      have pe : pn n B 4 p (nI 0) = pn n B 3 (p + 1) (nI 0 * nI 10 + B p - nI 48) := if_pos dg
      have st : rs_M_one_176_b rec (nI 0) (nI 0) I = some (.inl (nI 0 * nI 10 + B p - nI 48, nI (4 - 3), az_u I 73 15 (nI (p + 1)))) := by
        unfold rs_M_one_176_b
        rw [Int32.mul_comm (nI 0) (nI 10)]
        rcases h1 with ⟨a, b⟩ | ⟨a, b⟩
        · have b := b p e1
          simp (disch := omega) only [bl_lit, lgl, lgg, lgl0, lgg0, lglm, lggm, az_us, az_un, az_ue, az_urn, az_ure, bz_lit, nI_leI, nI_ltI, nI_eq, nI_clamp, nI_add, pk_sub, pk_mul, bz_nlt, bz_nle, bz_ltn, bz_len, bz_neq, bz_eqn, bz_nn, ↓reduceIte, Bool.false_eq_true, if_pos, if_neg, h2, h3, a, m1, b, e2, e3]
        · have b := b p e1
          simp (disch := omega) only [bl_lit, lgl, lgg, lgl0, lgg0, lglm, lggm, az_us, az_un, az_ue, az_urn, az_ure, bz_lit, nI_leI, nI_ltI, nI_eq, nI_clamp, nI_add, pk_sub, pk_mul, bz_nlt, bz_nle, bz_ltn, bz_len, bz_neq, bz_eqn, bz_nn, ↓reduceIte, Bool.false_eq_true, if_pos, if_neg, h2, h3, a, m1, Nat.zero_add, b, e2, e3]
      refine ⟨(pn n B 4 p (nI 0)).2, A2, key _ ?_, ?_⟩
      · (try dsimp only)
        unfold rs_M_one_176
        rw [pe, az_lp_l (b := fun s : (Int32 × Int32 × (Nat → Nat → Int32)) => rs_M_one_176_b rec s.1 s.2.1 s.2.2) (s := (nI 0, nI 0, I)) (s' := (nI 0 * nI 10 + B p - nI 48, nI (4 - 3), az_u I 73 15 (nI (p + 1)))) (n := 99999) st]
        exact r2
      · unfold p0
        rw [if_pos dg]
        exact ⟨q2, by rw [pe]; exact q3, rfl⟩
    · unfold p0
      rw [if_neg dg, if_pos w]
      cases e : nmo (B p) with
      | some i =>
        rw [e] at key
        refine ⟨_, _, key _ rfl, (az_fr.refl (S := F_m)).u (by unfold F_m; omega), ms_take h', ?_⟩
        exact (if_pos (nmo_lt e).1).symm
      | none =>
        rw [e] at key
        exact ⟨_, _, key _ (none176 dg), wf, we⟩
  · have dg : ¬ pdg n B p := fun z => by have := z.1; omega
    unfold p0
    rw [if_neg dg, if_neg (show ¬ p < n by omega)]
    refine ⟨nI 0, _, ?_, wf, we⟩
    unfold rs_M_one
    simp (disch := omega) only [bl_lit, lgl, lgg, lgl0, lgg0, lglm, lggm, az_us, az_un, az_ue, az_urn, az_ure, bz_lit, nI_leI, nI_ltI, nI_eq, nI_clamp, nI_add, pk_sub, pk_mul, bz_nlt, bz_nle, bz_ltn, bz_len, bz_neq, bz_eqn, bz_nn, ↓reduceIte, Bool.false_eq_true, if_pos, if_neg, h2, h3, h4, m2, nm0, none176 dg]
end

/-! THE LAW: the reference's operands, all -/
section
variable {n : Nat} {B : Nat → Int32}
theorem mp_op (hn : n ≤ 120) : ∀ m, m ≤ 6 → ∀ g, 6 * m + 1 ≤ g → MP n B (6 - m) (fun I => rs_G3 g 185 0 0 0 0 I) (pop n B m) := by
  intro m
  induction m with
  | zero =>
    intro _ g hg I p h hp
    obtain ⟨g, rfl⟩ : ∃ g', g = g' + 1 := ⟨g - 1, by omega⟩
    show ∃ x I', rs_M_one (rs_G3 g) I = some (x, I') ∧ mqq n B I (6 - 0) (p0 n B p) x I'
    by_cases w : p < n ∧ (B p = nI 33 ∨ B p = nI 45 ∨ B p = nI 40)
    · have h' := h
      obtain ⟨⟨h1, h2⟩, h3, h4, h5⟩ := h
      have m1 : ¬ nI 0 ≤ -nI 1 := by decide
      have m2 : -nI 1 < nI 0 := by decide
      obtain ⟨wr, wf, we⟩ := mp_wrong hn h' hp
      have w32 : ∀ c, rs_M_one_32 (rs_G3 g) I c = some (nI 0, az_u I 73 17 (nI p)) := by
        intro c
        unfold rs_M_one_32
        simp (disch := omega) only [bl_lit, lgl, lgg, lgl0, lgg0, lglm, lggm, az_us, az_un, az_ue, az_urn, az_ure, bz_lit, nI_leI, nI_ltI, nI_eq, nI_clamp, nI_add, pk_sub, pk_mul, bz_nlt, bz_nle, bz_ltn, bz_len, bz_neq, bz_eqn, bz_nn, ↓reduceIte, Bool.false_eq_true, if_pos, if_neg, h5, wr]
      have pe : p0 n B p = .error p := by
        unfold p0
        obtain ⟨w1, w2⟩ := w
        rcases w2 with b | b | b
        · rw [if_neg (fun z => z.2.1 (by rw [b]; decide)), if_pos w1, b]; rfl
        · rw [if_neg (fun z => z.2.1 (by rw [b]; decide)), if_pos w1, b]; rfl
        · rw [if_neg (fun z => z.2.1 (by rw [b]; decide)), if_pos w1, b]; rfl
      rw [pe]
      refine ⟨nI 0, _, ?_, wf, we⟩
      unfold rs_M_one
      obtain ⟨w1, w2⟩ := w
      rcases w2 with b | b | b
      all_goals
        rcases h1 with ⟨a, bb⟩ | ⟨a, bb⟩
        · have bb := bb p w1
          rw [b] at bb
          simp (disch := omega) only [bl_lit, lgl, lgg, lgl0, lgg0, lglm, lggm, az_us, az_un, az_ue, az_urn, az_ure, bz_lit, nI_leI, nI_ltI, nI_eq, nI_clamp, nI_add, pk_sub, pk_mul, bz_nlt, bz_nle, bz_ltn, bz_len, bz_neq, bz_eqn, bz_nn, ↓reduceIte, Bool.false_eq_true, if_pos, if_neg, h2, h3, h4, a, m1, m2, bb, w32]
        · have bb := bb p w1
          rw [b] at bb
          simp (disch := omega) only [bl_lit, lgl, lgg, lgl0, lgg0, lglm, lggm, az_us, az_un, az_ue, az_urn, az_ure, bz_lit, nI_leI, nI_ltI, nI_eq, nI_clamp, nI_add, pk_sub, pk_mul, bz_nlt, bz_nle, bz_ltn, bz_len, bz_neq, bz_eqn, bz_nn, ↓reduceIte, Bool.false_eq_true, if_pos, if_neg, h2, h3, h4, a, m1, m2, Nat.zero_add, bb, w32]
    · exact mp_base hn h hp (fun w1 => ⟨fun z => w ⟨w1, Or.inl z⟩, fun z => w ⟨w1, Or.inr (Or.inl z)⟩, fun z => w ⟨w1, Or.inr (Or.inr z)⟩⟩)
  | succ m ih =>
    intro hm g hg I p h hp
    obtain ⟨g, rfl⟩ : ∃ g', g = g' + 5 + 1 := ⟨g - 6, by omega⟩
    have X1 := ih (by omega) (g + 5) (by omega)
    have X2 := mp_ex (B := B) hn (by omega) (pop_g (B := B) m) (ih (by omega) g (by omega))
    show ∃ x I', rs_M_one (rs_G3 (g + 5)) I = some (x, I') ∧ _
    have h' := h
    obtain ⟨⟨h1, h2⟩, h3, h4, h5⟩ := h
    have m1 : ¬ nI 0 ≤ -nI 1 := by decide
    have m2 : -nI 1 < nI 0 := by decide
    have d6 : ¬ nI (6 - (m + 1)) = nI 6 := by rw [nI_eq (by omega) (by omega)]; omega
    have hD : mst n B (az_u (az_u I 73 18 (nI (6 - (m + 1) + 1))) 73 15 (nI (p + 1))) (p + 1) (6 - m) := by
      refine ⟨h'.1.fr (((az_fr.refl (S := F_m)).u (by unfold F_m; omega)).u (by unfold F_m; omega)), az_us, ?_, ?_⟩
      · rw [az_un (by omega), az_un (by omega)]; exact h4
      · rw [az_un (by omega), az_us, show 6 - (m + 1) + 1 = 6 - m by omega]
    have fD : az_fr F_m I (az_u (az_u I 73 18 (nI (6 - (m + 1) + 1))) 73 15 (nI (p + 1))) := ((az_fr.refl (S := F_m)).u (by unfold F_m; omega)).u (by unfold F_m; omega)
    have e82 : az_u (az_u I 73 18 (nI (6 - (m + 1) + 1))) 73 15 (nI (p + 1)) 82 = I 82 := funext (fun j => fD 82 j (by unfold F_m; omega))
    have one : ∀ c y, (c = nI 33 ∨ c = nI 45 ∨ c = nI 40) → p < n → B p = c → rs_M_one_32 (rs_G3 (g + 5)) I c = some y → rs_M_one (rs_G3 (g + 5)) I = some y := by
      intro c y hc w1 b hy
      unfold rs_M_one
      rcases hc with rfl | rfl | rfl
      all_goals
        rcases h1 with ⟨a, bb⟩ | ⟨a, bb⟩
        · have bb := bb p w1
          rw [b] at bb
          simp (disch := omega) only [bl_lit, lgl, lgg, lgl0, lgg0, lglm, lggm, az_us, az_un, az_ue, az_urn, az_ure, bz_lit, nI_leI, nI_ltI, nI_eq, nI_clamp, nI_add, pk_sub, pk_mul, bz_nlt, bz_nle, bz_ltn, bz_len, bz_neq, bz_eqn, bz_nn, ↓reduceIte, Bool.false_eq_true, if_pos, if_neg, h2, h3, h4, a, m1, m2, bb, hy]
        · have bb := bb p w1
          rw [b] at bb
          simp (disch := omega) only [bl_lit, lgl, lgg, lgl0, lgg0, lglm, lggm, az_us, az_un, az_ue, az_urn, az_ure, bz_lit, nI_leI, nI_ltI, nI_eq, nI_clamp, nI_add, pk_sub, pk_mul, bz_nlt, bz_nle, bz_ltn, bz_len, bz_neq, bz_eqn, bz_nn, ↓reduceIte, Bool.false_eq_true, if_pos, if_neg, h2, h3, h4, a, m1, m2, Nat.zero_add, bb, hy]
    -- back at the depth before
    have back : ∀ (A1 : Nat → Nat → Int32) (q : Nat), mst n B A1 q (6 - m) → mst n B (az_u A1 73 18 (nI (6 - m) - nI 1)) q (6 - (m + 1)) := by
      intro A1 q hA
      refine ⟨hA.1.fr ((az_fr.refl (S := F_m)).u (by unfold F_m; omega)), ?_, ?_, ?_⟩
      · rw [az_un (by omega)]; exact hA.2.1
      · rw [az_un (by omega)]; exact hA.2.2.1
      · rw [az_us, pk_sub (by omega), show 6 - m - 1 = 6 - (m + 1) by omega]
    have backE : ∀ (A1 : Nat → Nat → Int32) (e : Nat) (v : Int32), mer n B A1 e → mer n B (az_u A1 73 18 v) e := by
      intro A1 e v hA
      obtain ⟨t1, t2, t3, q, hq, t4⟩ := hA
      exact ⟨t1.fr ((az_fr.refl (S := F_m)).u (by unfold F_m; omega)), by rw [az_un (by omega)]; exact t2, t3, q, hq, by rw [az_un (by omega)]; exact t4⟩
    by_cases c33 : p < n ∧ B p = nI 33
    · rw [show pop n B (m + 1) p = _ from if_pos c33]
      obtain ⟨x, A1, r, q⟩ := X1 _ (p + 1) hD (by omega)
      replace r : rs_G3 (g + 5) 185 (nI 0) (nI 0) (nI 0) (nI 0) (az_u (az_u I 73 18 (nI (6 - (m + 1) + 1))) 73 15 (nI (p + 1))) = some (x, A1) := r
      have st : rs_M_one_32 (rs_G3 (g + 5)) I (nI 33) = some (if x = 0 then 1 else 0, az_u A1 73 18 (A1 73 18 - nI 1)) := by
        unfold rs_M_one_32 rs_M_one_83 rs_M_one_104
        by_cases x0 : x = nI 0
        · simp (disch := omega) only [bl_lit, lgl, lgg, lgl0, lgg0, lglm, lggm, az_us, az_un, az_ue, az_urn, az_ure, bz_lit, nI_leI, nI_ltI, nI_eq, nI_clamp, nI_add, pk_sub, pk_mul, bz_nlt, bz_nle, bz_ltn, bz_len, bz_neq, bz_eqn, bz_nn, ↓reduceIte, Bool.false_eq_true, if_pos, if_neg, h3, h5, d6, r, x0]
        · simp (disch := omega) only [bl_lit, lgl, lgg, lgl0, lgg0, lglm, lggm, az_us, az_un, az_ue, az_urn, az_ure, bz_lit, nI_leI, nI_ltI, nI_eq, nI_clamp, nI_add, pk_sub, pk_mul, bz_nlt, bz_nle, bz_ltn, bz_len, bz_neq, bz_eqn, bz_nn, ↓reduceIte, Bool.false_eq_true, if_pos, if_neg, h3, h5, d6, r, x0]
      have st' := one _ _ (Or.inl rfl) c33.1 c33.2 st
      cases e : pop n B m (p + 1) with
      | error y =>
        rw [e] at q
        exact ⟨_, _, st', (fD.trans q.1).u (by unfold F_m; omega), backE A1 y _ q.2⟩
      | ok y =>
        obtain ⟨q', c, v⟩ := y
        rw [e] at q
        obtain ⟨u1, u2, u3⟩ := q
        refine ⟨_, _, st', (fD.trans u1).u (by unfold F_m; omega), ?_, ?_⟩
        · rw [u2.2.2.2]; exact back A1 q' u2
        · rw [u3, e82]
    · rw [show pop n B (m + 1) p = _ from if_neg c33]
      by_cases c45 : p < n ∧ B p = nI 45
      · rw [if_pos c45]
        obtain ⟨x, A1, r, q⟩ := X1 _ (p + 1) hD (by omega)
        replace r : rs_G3 (g + 5) 185 (nI 0) (nI 0) (nI 0) (nI 0) (az_u (az_u I 73 18 (nI (6 - (m + 1) + 1))) 73 15 (nI (p + 1))) = some (x, A1) := r
        have st : rs_M_one_32 (rs_G3 (g + 5)) I (nI 45) = some (-x, az_u A1 73 18 (A1 73 18 - nI 1)) := by
          unfold rs_M_one_32 rs_M_one_83 rs_M_one_104
          simp (disch := omega) only [bl_lit, lgl, lgg, lgl0, lgg0, lglm, lggm, az_us, az_un, az_ue, az_urn, az_ure, bz_lit, nI_leI, nI_ltI, nI_eq, nI_clamp, nI_add, pk_sub, pk_mul, bz_nlt, bz_nle, bz_ltn, bz_len, bz_neq, bz_eqn, bz_nn, ↓reduceIte, Bool.false_eq_true, if_pos, if_neg, h3, h5, d6, r]
        have st' := one _ _ (Or.inr (Or.inl rfl)) c45.1 c45.2 st
        cases e : pop n B m (p + 1) with
        | error y =>
          rw [e] at q
          exact ⟨_, _, st', (fD.trans q.1).u (by unfold F_m; omega), backE A1 y _ q.2⟩
        | ok y =>
          obtain ⟨q', c, v⟩ := y
          rw [e] at q
          obtain ⟨u1, u2, u3⟩ := q
          refine ⟨_, _, st', (fD.trans u1).u (by unfold F_m; omega), ?_, ?_⟩
          · rw [u2.2.2.2]; exact back A1 q' u2
          · rw [u3, e82]
      · rw [if_neg c45]
        by_cases c40 : p < n ∧ B p = nI 40
        · rw [if_pos c40]
          obtain ⟨x, A1, r, q⟩ := X2 _ (p + 1) hD (by omega)
          replace r : rs_G3 (g + 5) 179 (nI 0) (nI 0) (nI 0) (nI 0) (az_u (az_u I 73 18 (nI (6 - (m + 1) + 1))) 73 15 (nI (p + 1))) = some (x, A1) := r
          have gd := pex_g (n := n) (B := B) (by omega) (pop_g (B := B) m) (p + 1) (by omega)
          have st : ∀ y, rs_M_one_83 (rs_G3 (g + 5)) A1 (nI 40) x = some y → rs_M_one (rs_G3 (g + 5)) I = some y := by
            intro y hy
            refine one (nI 40) y (Or.inr (Or.inr rfl)) c40.1 c40.2 ?_
            unfold rs_M_one_32
            simp (disch := omega) only [bl_lit, lgl, lgg, lgl0, lgg0, lglm, lggm, az_us, az_un, az_ue, az_urn, az_ure, bz_lit, nI_leI, nI_ltI, nI_eq, nI_clamp, nI_add, pk_sub, pk_mul, bz_nlt, bz_nle, bz_ltn, bz_len, bz_neq, bz_eqn, bz_nn, ↓reduceIte, Bool.false_eq_true, if_pos, if_neg, h3, h5, d6, r, hy]
          cases e : pex n B (pop n B m) (p + 1) with
          | error y =>
            rw [e] at q
            have tk := mk_takesE hn q.2 (nI 41)
            obtain ⟨A2, r2, f2, q2⟩ := mp_wrongE hn q.2
            refine ⟨nI 0, A2, st _ ?_, (fD.trans q.1).trans f2, q2⟩
            unfold rs_M_one_83
            simp (disch := omega) only [bl_lit, lgl, lgg, lgl0, lgg0, lglm, lggm, az_us, az_un, az_ue, az_urn, az_ure, bz_lit, nI_leI, nI_ltI, nI_eq, nI_clamp, nI_add, pk_sub, pk_mul, bz_nlt, bz_nle, bz_ltn, bz_len, bz_neq, bz_eqn, bz_nn, ↓reduceIte, Bool.false_eq_true, if_pos, if_neg, tk, r2]
          | ok y =>
            obtain ⟨q', c, v⟩ := y
            rw [e] at q gd
            obtain ⟨u1, u2, u3⟩ := q
            obtain ⟨d1, d2, d3, d4⟩ := gd
            have tk := mk_takes hn u2 d2 (c := nI 41) (by decide)
            (try dsimp only)
            by_cases w : q' < n ∧ B q' = nI 41
            · rw [if_pos w] at tk ⊢
              refine ⟨x, az_u (az_u A1 73 15 (nI (q' + 1))) 73 18 (nI (6 - m) - nI 1), st _ ?_, ((fD.trans u1).u (by unfold F_m; omega)).u (by unfold F_m; omega), back _ (q' + 1) (ms_take u2), by rw [u3, e82]⟩
              have u5 := u2.2.2.2
              unfold rs_M_one_83 rs_M_one_104
              simp (disch := omega) only [bl_lit, lgl, lgg, lgl0, lgg0, lglm, lggm, az_us, az_un, az_ue, az_urn, az_ure, bz_lit, nI_leI, nI_ltI, nI_eq, nI_clamp, nI_add, pk_sub, pk_mul, bz_nlt, bz_nle, bz_ltn, bz_len, bz_neq, bz_eqn, bz_nn, ↓reduceIte, Bool.false_eq_true, if_pos, if_neg, tk, u5]
            · rw [if_neg w] at tk ⊢
              obtain ⟨wr, wf, we⟩ := mp_wrong hn u2 d2
              refine ⟨nI 0, _, st _ ?_, (fD.trans u1).trans wf, we⟩
              unfold rs_M_one_83
              simp (disch := omega) only [bl_lit, lgl, lgg, lgl0, lgg0, lglm, lggm, az_us, az_un, az_ue, az_urn, az_ure, bz_lit, nI_leI, nI_ltI, nI_eq, nI_clamp, nI_add, pk_sub, pk_mul, bz_nlt, bz_nle, bz_ltn, bz_len, bz_neq, bz_eqn, bz_nn, ↓reduceIte, Bool.false_eq_true, if_pos, if_neg, tk, wr]
        · rw [if_neg c40]
          exact mp_base hn h' hp (fun w1 => ⟨fun z => c33 ⟨w1, z⟩, fun z => c45 ⟨w1, z⟩, fun z => c40 ⟨w1, z⟩⟩)
theorem mp_e (hn : n ≤ 120) : MP n B 0 (fun I => rs_G3 60 179 0 0 0 0 I) (pex n B (pop n B 6)) :=
  mp_ex (B := B) hn (by omega) (pop_g (B := B) 6) (mp_op (B := B) hn 6 (by omega) 55 (by omega))
end

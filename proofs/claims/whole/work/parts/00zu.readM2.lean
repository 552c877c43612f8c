/-! THE LAW: the reference's other levels -/
section
variable {n : Nat} {B : Nat → Int32}
theorem jl_2 (c : Int32) : jl 2 c = true ↔ c = nI 60 ∨ c = nI 61 ∨ c = nI 62 := by
  show (c == 60 || c == 61 || c == 62) = true ↔ _
  rw [Bool.or_eq_true, Bool.or_eq_true, beq_iff_eq, beq_iff_eq, beq_iff_eq, or_assoc]; rfl
theorem jl_3 (c : Int32) : jl 3 c = true ↔ c = nI 43 ∨ c = nI 45 := by
  show (c == 43 || c == 45) = true ↔ _
  rw [Bool.or_eq_true, beq_iff_eq, beq_iff_eq]; rfl
theorem jl_4 (c : Int32) : jl 4 c = true ↔ c = nI 42 ∨ c = nI 47 ∨ c = nI 37 := by
  show (c == 42 || c == 47 || c == 37) = true ↔ _
  rw [Bool.or_eq_true, Bool.or_eq_true, beq_iff_eq, beq_iff_eq, beq_iff_eq, or_assoc]; rfl
theorem mp_compared {g H d : Nat} {sub : Nat → pr_T} (hn : n ≤ 120) (hs : pg n H sub) (hx : MP n B d (fun I => rs_G3 g 182 0 0 0 0 I) sub) : MP n B d (fun I => rs_G3 (g + 1) 181 0 0 0 0 I) (plv n B 2 sub) := by
  intro I p h hp
  obtain ⟨x, A, r, q⟩ := hx I p h hp
  have gd := hs p hp
  show ∃ x I', rs_M_compared (rs_G3 g) I = some (x, I') ∧ _
  unfold rs_M_compared plv
  rw [show rs_G3 g 182 0 0 0 0 I = some (x, A) from r]
  (try dsimp only)
  have m1 : ¬ nI 0 ≤ -nI 1 := by decide
  cases e : sub p with
  | error y =>
    rw [e] at q
    refine ⟨x, A, ?_, q⟩
    obtain ⟨_, ⟨h1, h2⟩, h3, h4, q', hq, h5⟩ := q
    have y0 : nI 0 ≤ nI y := nI_pos' (by omega)
    rcases Nat.lt_or_ge q' n with w | w
    · rcases h1 with ⟨a, b⟩ | ⟨a, b⟩
      · simp (disch := omega) only [bl_lit, lgl, lgg, lgl0, lgg0, lglm, lggm, az_us, az_un, az_ue, az_urn, az_ure, bz_lit, nI_leI, nI_ltI, nI_eq, nI_clamp, nI_add, pk_sub, pk_mul, bz_nlt, bz_nle, bz_ltn, bz_len, bz_neq, bz_eqn, bz_nn, ↓reduceIte, Bool.false_eq_true, if_pos, if_neg, h2, h3, h5, y0, m1, a, Nat.zero_add]
      · simp (disch := omega) only [bl_lit, lgl, lgg, lgl0, lgg0, lglm, lggm, az_us, az_un, az_ue, az_urn, az_ure, bz_lit, nI_leI, nI_ltI, nI_eq, nI_clamp, nI_add, pk_sub, pk_mul, bz_nlt, bz_nle, bz_ltn, bz_len, bz_neq, bz_eqn, bz_nn, ↓reduceIte, Bool.false_eq_true, if_pos, if_neg, h2, h3, h5, y0, m1, a, Nat.zero_add]
    · simp (disch := omega) only [bl_lit, lgl, lgg, lgl0, lgg0, lglm, lggm, az_us, az_un, az_ue, az_urn, az_ure, bz_lit, nI_leI, nI_ltI, nI_eq, nI_clamp, nI_add, pk_sub, pk_mul, bz_nlt, bz_nle, bz_ltn, bz_len, bz_neq, bz_eqn, bz_nn, ↓reduceIte, Bool.false_eq_true, if_pos, if_neg, h2, h3, h5, y0]
  | ok y =>
    obtain ⟨q', c, v⟩ := y
    rw [e] at q gd
    obtain ⟨t1, t2, t3⟩ := q
    obtain ⟨d1, d2, d3, d4⟩ := gd
    have t2' := t2
    obtain ⟨⟨h1, h2⟩, h3, h4, h5⟩ := t2
    show ∃ x' I', _ ∧ mqq n B I d (plp n B 2 sub (119 + 1) q' c v) x' I'
    unfold plp
    by_cases w : q' < n ∧ jl 2 (B q') = true
    · rw [if_pos w]
      obtain ⟨y, A1, r1, q1⟩ := hx (az_u A 73 15 (nI (q' + 1))) (q' + 1) (ms_take t2') (by omega)
      replace r1 : rs_G3 g 182 (nI 0) (nI 0) (nI 0) (nI 0) (az_u A 73 15 (nI (q' + 1))) = some (y, A1) := r1
      have f0 : az_fr F_m I (az_u A 73 15 (nI (q' + 1))) := t1.u (by unfold F_m; omega)
      have e82 : az_u A 73 15 (nI (q' + 1)) 82 = I 82 := funext (fun j => f0 82 j (by unfold F_m; omega))
      have st : rs_M_compared_37 (rs_G3 g) A x (B q') = some (jn x (B q') y, A1) := by
        unfold rs_M_compared_37 jn rs_La_joined
        rcases (jl_2 _).mp w.2 with b | b | b
        · rw [b]
          by_cases z : y ≤ x
          · simp (disch := omega) only [bl_lit, lgl, lgg, lgl0, lgg0, lglm, lggm, az_us, az_un, az_ue, az_urn, az_ure, bz_lit, nI_leI, nI_ltI, nI_eq, nI_clamp, nI_add, pk_sub, pk_mul, bz_nlt, bz_nle, bz_ltn, bz_len, bz_neq, bz_eqn, bz_nn, ↓reduceIte, Bool.false_eq_true, if_pos, if_neg, h3, r1, z, Option.getD_some]
          · simp (disch := omega) only [bl_lit, lgl, lgg, lgl0, lgg0, lglm, lggm, az_us, az_un, az_ue, az_urn, az_ure, bz_lit, nI_leI, nI_ltI, nI_eq, nI_clamp, nI_add, pk_sub, pk_mul, bz_nlt, bz_nle, bz_ltn, bz_len, bz_neq, bz_eqn, bz_nn, ↓reduceIte, Bool.false_eq_true, if_pos, if_neg, h3, r1, z, Option.getD_some]
        · rw [b]
          by_cases z : x = y
          · simp (disch := omega) only [bl_lit, lgl, lgg, lgl0, lgg0, lglm, lggm, az_us, az_un, az_ue, az_urn, az_ure, bz_lit, nI_leI, nI_ltI, nI_eq, nI_clamp, nI_add, pk_sub, pk_mul, bz_nlt, bz_nle, bz_ltn, bz_len, bz_neq, bz_eqn, bz_nn, ↓reduceIte, Bool.false_eq_true, if_pos, if_neg, h3, r1, z, Option.getD_some]
          · simp (disch := omega) only [bl_lit, lgl, lgg, lgl0, lgg0, lglm, lggm, az_us, az_un, az_ue, az_urn, az_ure, bz_lit, nI_leI, nI_ltI, nI_eq, nI_clamp, nI_add, pk_sub, pk_mul, bz_nlt, bz_nle, bz_ltn, bz_len, bz_neq, bz_eqn, bz_nn, ↓reduceIte, Bool.false_eq_true, if_pos, if_neg, h3, r1, z, Option.getD_some]
        · rw [b]
          by_cases z : x ≤ y
          · simp (disch := omega) only [bl_lit, lgl, lgg, lgl0, lgg0, lglm, lggm, az_us, az_un, az_ue, az_urn, az_ure, bz_lit, nI_leI, nI_ltI, nI_eq, nI_clamp, nI_add, pk_sub, pk_mul, bz_nlt, bz_nle, bz_ltn, bz_len, bz_neq, bz_eqn, bz_nn, ↓reduceIte, Bool.false_eq_true, if_pos, if_neg, h3, r1, z, Option.getD_some]
          · simp (disch := omega) only [bl_lit, lgl, lgg, lgl0, lgg0, lglm, lggm, az_us, az_un, az_ue, az_urn, az_ure, bz_lit, nI_leI, nI_ltI, nI_eq, nI_clamp, nI_add, pk_sub, pk_mul, bz_nlt, bz_nle, bz_ltn, bz_len, bz_neq, bz_eqn, bz_nn, ↓reduceIte, Bool.false_eq_true, if_pos, if_neg, h3, r1, z, Option.getD_some]
      have go : ∀ Q : Int32 → (Nat → Nat → Int32) → Prop, Q (jn x (B q') y) A1 → ∃ x' I', (if A 73 16 ≤ A 73 15 then (if 0 ≤ A 73 17 then some (x, A) else some (x, A)) else (if 0 ≤ A 73 14 then (if (A 73 14 + A 73 15) < 0 ∨ 120 ≤ (A 73 14 + A 73 15).toNatClampNeg then none else (if 0 ≤ A 73 17 then some (x, A) else (if A 81 (A 73 14 + A 73 15).toNatClampNeg = 60 then rs_M_compared_37 (rs_G3 g) A x (A 81 (A 73 14 + A 73 15).toNatClampNeg) else (if A 81 (A 73 14 + A 73 15).toNatClampNeg = 61 then rs_M_compared_37 (rs_G3 g) A x (A 81 (A 73 14 + A 73 15).toNatClampNeg) else (if A 81 (A 73 14 + A 73 15).toNatClampNeg = 62 then rs_M_compared_37 (rs_G3 g) A x (A 81 (A 73 14 + A 73 15).toNatClampNeg) else some (x, A)))))) else (if A 73 15 < 0 ∨ 120 ≤ (A 73 15).toNatClampNeg then none else (if 0 ≤ A 73 17 then some (x, A) else (if A 80 (A 73 15).toNatClampNeg = 60 then rs_M_compared_37 (rs_G3 g) A x (A 80 (A 73 15).toNatClampNeg) else (if A 80 (A 73 15).toNatClampNeg = 61 then rs_M_compared_37 (rs_G3 g) A x (A 80 (A 73 15).toNatClampNeg) else (if A 80 (A 73 15).toNatClampNeg = 62 then rs_M_compared_37 (rs_G3 g) A x (A 80 (A 73 15).toNatClampNeg) else some (x, A)))))))) = some (x', I') ∧ Q x' I' := by
        intro Q hQ
        refine ⟨_, A1, ?_, hQ⟩
        rcases (jl_2 _).mp w.2 with b | b | b
        all_goals
          rw [b] at st ⊢
          rcases h1 with ⟨a, bb⟩ | ⟨a, bb⟩
          · have bb := bb q' w.1
            rw [b] at bb
            simp (disch := omega) only [bl_lit, lgl, lgg, lgl0, lgg0, lglm, lggm, az_us, az_un, az_ue, az_urn, az_ure, bz_lit, nI_leI, nI_ltI, nI_eq, nI_clamp, nI_add, pk_sub, pk_mul, bz_nlt, bz_nle, bz_ltn, bz_len, bz_neq, bz_eqn, bz_nn, ↓reduceIte, Bool.false_eq_true, if_pos, if_neg, h2, h3, h4, m1, a, bb, Nat.zero_add, st]
          · have bb := bb q' w.1
            rw [b] at bb
            simp (disch := omega) only [bl_lit, lgl, lgg, lgl0, lgg0, lglm, lggm, az_us, az_un, az_ue, az_urn, az_ure, bz_lit, nI_leI, nI_ltI, nI_eq, nI_clamp, nI_add, pk_sub, pk_mul, bz_nlt, bz_nle, bz_ltn, bz_len, bz_neq, bz_eqn, bz_nn, ↓reduceIte, Bool.false_eq_true, if_pos, if_neg, h2, h3, h4, m1, a, bb, Nat.zero_add, st]
      cases e' : sub (q' + 1) with
      | error z =>
        rw [e'] at q1
        exact go _ ⟨f0.trans q1.1, q1.2⟩
      | ok z =>
        obtain ⟨q2, c', v'⟩ := z
        rw [e'] at q1
        obtain ⟨u1, u2, u3⟩ := q1
        (try dsimp only)
        rw [if_pos rfl]
        exact go _ ⟨f0.trans u1, u2, by rw [t3, u3, e82]⟩
    · rw [if_neg w]
      refine ⟨x, A, ?_, t1, t2', t3⟩
      rcases Nat.lt_or_ge q' n with w1 | w1
      · have nb : ¬ (B q' = nI 60 ∨ B q' = nI 61 ∨ B q' = nI 62) := fun z => w ⟨w1, (jl_2 _).mpr z⟩
        have b1 : ¬ B q' = nI 60 := fun z => nb (Or.inl z)
        have b2 : ¬ B q' = nI 61 := fun z => nb (Or.inr (Or.inl z))
        have b3 : ¬ B q' = nI 62 := fun z => nb (Or.inr (Or.inr z))
        rcases h1 with ⟨a, b⟩ | ⟨a, b⟩
        · have b := b q' w1
          simp (disch := omega) only [bl_lit, lgl, lgg, lgl0, lgg0, lglm, lggm, az_us, az_un, az_ue, az_urn, az_ure, bz_lit, nI_leI, nI_ltI, nI_eq, nI_clamp, nI_add, pk_sub, pk_mul, bz_nlt, bz_nle, bz_ltn, bz_len, bz_neq, bz_eqn, bz_nn, ↓reduceIte, Bool.false_eq_true, if_pos, if_neg, h2, h3, h4, m1, a, b, b1, b2, b3, Nat.zero_add]
        · have b := b q' w1
          simp (disch := omega) only [bl_lit, lgl, lgg, lgl0, lgg0, lglm, lggm, az_us, az_un, az_ue, az_urn, az_ure, bz_lit, nI_leI, nI_ltI, nI_eq, nI_clamp, nI_add, pk_sub, pk_mul, bz_nlt, bz_nle, bz_ltn, bz_len, bz_neq, bz_eqn, bz_nn, ↓reduceIte, Bool.false_eq_true, if_pos, if_neg, h2, h3, h4, m1, a, b, b1, b2, b3, Nat.zero_add]
      · simp (disch := omega) only [bl_lit, lgl, lgg, lgl0, lgg0, lglm, lggm, az_us, az_un, az_ue, az_urn, az_ure, bz_lit, nI_leI, nI_ltI, nI_eq, nI_clamp, nI_add, pk_sub, pk_mul, bz_nlt, bz_nle, bz_ltn, bz_len, bz_neq, bz_eqn, bz_nn, ↓reduceIte, Bool.false_eq_true, if_pos, if_neg, h2, h3, h4, m1]
theorem mp_sums {g H d : Nat} {sub : Nat → pr_T} (hn : n ≤ 120) (hs : pg n H sub) (hx : MP n B d (fun I => rs_G3 g 183 0 0 0 0 I) sub) : MP n B d (fun I => rs_G3 (g + 1) 182 0 0 0 0 I) (plv n B 3 sub) := by
  intro I p h hp
  obtain ⟨x, A, r, q⟩ := hx I p h hp
  have gd := hs p hp
  have m1 : ¬ nI 0 ≤ -nI 1 := by decide
  show ∃ x I', rs_M_sums (rs_G3 g) I = some (x, I') ∧ _
  unfold rs_M_sums plv
  rw [show rs_G3 g 183 0 0 0 0 I = some (x, A) from r]
  (try dsimp only)
  unfold rs_M_sums_5
  have S3 : ∀ (A : Nat → Nat → Int32) (e : Nat) (x : Int32), mer n B A e → rs_M_sums_5_b (rs_G3 g) x A = some (.inr (x, A)) := by
    intro A e x h
    unfold rs_M_sums_5_b
    rw [h.2.1, if_pos (nI_pos' (by have := h.2.2.1; omega))]
  cases e : sub p with
  | error y =>
    rw [e] at q
    exact ⟨x, A, az_lp_r (S3 A y x q.2), q⟩
  | ok y =>
    obtain ⟨q', c, v⟩ := y
    rw [e] at q gd
    obtain ⟨t1, t2, t3⟩ := q
    rw [t3]
    refine mp_loop (b := fun s : (Int32 × (Nat → Nat → Int32)) => rs_M_sums_5_b (rs_G3 g) s.1 s.2) (pk := fun x A => (x, A)) (lv := 3) (by omega) hs hx ?_ ?_ (fun A e x h => S3 A e x h) hn 120 q' A c v 100000 (by omega) gd.2.1 t2 t1 (by omega)
    · intro A p x h hp hj
      obtain ⟨⟨h1, h2⟩, h3, h4, h5⟩ := h
      (try dsimp only)
      unfold rs_M_sums_5_b
      rcases Nat.lt_or_ge p n with w | w
      · have nb : ¬ (B p = nI 43 ∨ B p = nI 45) := fun z => hj ⟨w, (jl_3 _).mpr z⟩
        have b1 : ¬ B p = nI 43 := fun z => nb (Or.inl z)
        have b2 : ¬ B p = nI 45 := fun z => nb (Or.inr z)
        rcases h1 with ⟨a, b⟩ | ⟨a, b⟩
        · have b := b p w
          simp (disch := omega) only [bl_lit, lgl, lgg, lgl0, lgg0, lglm, lggm, az_us, az_un, az_ue, az_urn, az_ure, bz_lit, nI_leI, nI_ltI, nI_eq, nI_clamp, nI_add, pk_sub, pk_mul, bz_nlt, bz_nle, bz_ltn, bz_len, bz_neq, bz_eqn, bz_nn, ↓reduceIte, Bool.false_eq_true, if_pos, if_neg, h2, h3, h4, m1, a, b, b1, b2, Nat.zero_add]
        · have b := b p w
          simp (disch := omega) only [bl_lit, lgl, lgg, lgl0, lgg0, lglm, lggm, az_us, az_un, az_ue, az_urn, az_ure, bz_lit, nI_leI, nI_ltI, nI_eq, nI_clamp, nI_add, pk_sub, pk_mul, bz_nlt, bz_nle, bz_ltn, bz_len, bz_neq, bz_eqn, bz_nn, ↓reduceIte, Bool.false_eq_true, if_pos, if_neg, h2, h3, h4, m1, a, b, b1, b2, Nat.zero_add]
      · simp (disch := omega) only [bl_lit, lgl, lgg, lgl0, lgg0, lglm, lggm, az_us, az_un, az_ue, az_urn, az_ure, bz_lit, nI_leI, nI_ltI, nI_eq, nI_clamp, nI_add, pk_sub, pk_mul, bz_nlt, bz_nle, bz_ltn, bz_len, bz_neq, bz_eqn, bz_nn, ↓reduceIte, Bool.false_eq_true, if_pos, if_neg, h2, h3, h4, m1]
    · intro A p x y A1 h hp hj hr _ _
      obtain ⟨⟨h1, h2⟩, h3, h4, h5⟩ := h
      replace hr : rs_G3 g 183 (nI 0) (nI 0) (nI 0) (nI 0) (az_u A 73 15 (nI (p + 1))) = some (y, A1) := hr
      (try dsimp only)
      unfold rs_M_sums_5_b rs_M_sums_30 rs_M_sums_44 jn rs_La_joined
      rcases (jl_3 _).mp hj with b | b
      all_goals
        rw [b]
        rcases h1 with ⟨a, bb⟩ | ⟨a, bb⟩
        · have bb := bb p hp
          rw [b] at bb
          simp (disch := omega) only [bl_lit, lgl, lgg, lgl0, lgg0, lglm, lggm, az_us, az_un, az_ue, az_urn, az_ure, bz_lit, nI_leI, nI_ltI, nI_eq, nI_clamp, nI_add, pk_sub, pk_mul, bz_nlt, bz_nle, bz_ltn, bz_len, bz_neq, bz_eqn, bz_nn, ↓reduceIte, Bool.false_eq_true, if_pos, if_neg, h2, h3, h4, m1, a, bb, Nat.zero_add, hr, Option.getD_some]
        · have bb := bb p hp
          rw [b] at bb
          simp (disch := omega) only [bl_lit, lgl, lgg, lgl0, lgg0, lglm, lggm, az_us, az_un, az_ue, az_urn, az_ure, bz_lit, nI_leI, nI_ltI, nI_eq, nI_clamp, nI_add, pk_sub, pk_mul, bz_nlt, bz_nle, bz_ltn, bz_len, bz_neq, bz_eqn, bz_nn, ↓reduceIte, Bool.false_eq_true, if_pos, if_neg, h2, h3, h4, m1, a, bb, Nat.zero_add, hr, Option.getD_some]
end

/-! THE LAW: the reference's products -/
section
variable {n : Nat} {B : Nat → Int32}
def mby (A : Nat → Nat → Int32) : Int32 := if A 73 16 ≤ A 73 15 then 0 else if 0 ≤ A 73 14 then A 81 (A 73 14 + A 73 15).toNatClampNeg else A 80 (A 73 15).toNatClampNeg
theorem mby_f {A : Nat → Nat → Int32} {α : Type} (hn : n ≤ 120) (h : mb n B A) (hq : ∃ q, q ≤ 121 ∧ A 73 15 = nI q) (K : Int32 → Option α) :
    (if A 73 16 ≤ A 73 15 then K 0 else if 0 ≤ A 73 14 then (if (A 73 14 + A 73 15) < 0 ∨ 120 ≤ (A 73 14 + A 73 15).toNatClampNeg then none else K (A 81 (A 73 14 + A 73 15).toNatClampNeg)) else (if A 73 15 < 0 ∨ 120 ≤ (A 73 15).toNatClampNeg then none else K (A 80 (A 73 15).toNatClampNeg))) = K (mby A) := by
  obtain ⟨h1, h2⟩ := h
  obtain ⟨q, hq, h3⟩ := hq
  have m1 : ¬ nI 0 ≤ -nI 1 := by decide
  unfold mby
  rcases Nat.lt_or_ge q n with w | w
  · rcases h1 with ⟨a, b⟩ | ⟨a, b⟩
    · simp (disch := omega) only [bl_lit, lgl, lgg, lgl0, lgg0, lglm, lggm, az_us, az_un, az_ue, az_urn, az_ure, bz_lit, nI_leI, nI_ltI, nI_eq, nI_clamp, nI_add, pk_sub, pk_mul, bz_nlt, bz_nle, bz_ltn, bz_len, bz_neq, bz_eqn, bz_nn, ↓reduceIte, Bool.false_eq_true, if_pos, if_neg, h2, h3, a, m1]
    · simp (disch := omega) only [bl_lit, lgl, lgg, lgl0, lgg0, lglm, lggm, az_us, az_un, az_ue, az_urn, az_ure, bz_lit, nI_leI, nI_ltI, nI_eq, nI_clamp, nI_add, pk_sub, pk_mul, bz_nlt, bz_nle, bz_ltn, bz_len, bz_neq, bz_eqn, bz_nn, ↓reduceIte, Bool.false_eq_true, if_pos, if_neg, h2, h3, a, m1]
  · simp (disch := omega) only [bl_lit, lgl, lgg, lgl0, lgg0, lglm, lggm, az_us, az_un, az_ue, az_urn, az_ure, bz_lit, nI_leI, nI_ltI, nI_eq, nI_clamp, nI_add, pk_sub, pk_mul, bz_nlt, bz_nle, bz_ltn, bz_len, bz_neq, bz_eqn, bz_nn, ↓reduceIte, Bool.false_eq_true, if_pos, if_neg, h2, h3]
theorem mby_lt {A : Nat → Nat → Int32} {p d : Nat} (hn : n ≤ 120) (h : mst n B A p d) (hp : p < n) : mby A = B p := by
  obtain ⟨⟨h1, h2⟩, h3, h4, h5⟩ := h
  have m1 : ¬ nI 0 ≤ -nI 1 := by decide
  unfold mby
  rcases h1 with ⟨a, b⟩ | ⟨a, b⟩
  · simp (disch := omega) only [bl_lit, lgl, lgg, lgl0, lgg0, lglm, lggm, az_us, az_un, az_ue, az_urn, az_ure, bz_lit, nI_leI, nI_ltI, nI_eq, nI_clamp, nI_add, pk_sub, pk_mul, bz_nlt, bz_nle, bz_ltn, bz_len, bz_neq, bz_eqn, bz_nn, ↓reduceIte, Bool.false_eq_true, if_pos, if_neg, h2, h3, a, m1]; exact b p hp
  · simp (disch := omega) only [bl_lit, lgl, lgg, lgl0, lgg0, lglm, lggm, az_us, az_un, az_ue, az_urn, az_ure, bz_lit, nI_leI, nI_ltI, nI_eq, nI_clamp, nI_add, pk_sub, pk_mul, bz_nlt, bz_nle, bz_ltn, bz_len, bz_neq, bz_eqn, bz_nn, ↓reduceIte, Bool.false_eq_true, if_pos, if_neg, h2, h3, a, m1, Nat.zero_add]; exact b p hp
theorem mby_ge {A : Nat → Nat → Int32} {p d : Nat} (hn : n ≤ 120) (h : mst n B A p d) (hp : n ≤ p) (hp' : p ≤ n) : mby A = nI 0 := by
  obtain ⟨⟨h1, h2⟩, h3, h4, h5⟩ := h
  unfold mby
  simp (disch := omega) only [bl_lit, lgl, lgg, lgl0, lgg0, lglm, lggm, az_us, az_un, az_ue, az_urn, az_ure, bz_lit, nI_leI, nI_ltI, nI_eq, nI_clamp, nI_add, pk_sub, pk_mul, bz_nlt, bz_nle, bz_ltn, bz_len, bz_neq, bz_eqn, bz_nn, ↓reduceIte, Bool.false_eq_true, if_pos, if_neg, h2, h3]
theorem mp_product {g H d : Nat} {sub : Nat → pr_T} (hn : n ≤ 120) (hs : pg n H sub) (hx : MP n B d (fun I => rs_G3 g 185 0 0 0 0 I) sub) : MP n B d (fun I => rs_G3 (g + 1) 183 0 0 0 0 I) (plv n B 4 sub) := by
  intro I p h hp
  obtain ⟨x, A, r, q⟩ := hx I p h hp
  have gd := hs p hp
  have m1 : ¬ nI 0 ≤ -nI 1 := by decide
  show ∃ x I', rs_M_product (rs_G3 g) I = some (x, I') ∧ _
  have S3 : ∀ (A : Nat → Nat → Int32) (e : Nat) (x : Int32), mer n B A e → rs_M_product_10_b (rs_G3 g) x (mby A) A = some (.inr (x, A)) := by
    intro A e x h
    unfold rs_M_product_10_b
    rw [h.2.1, if_pos (nI_pos' (by have := h.2.2.1; omega))]
  have st : ∀ Q : Int32 → (Nat → Nat → Int32) → Prop, mb n B A → (∃ q, q ≤ 121 ∧ A 73 15 = nI q) → (∃ x' A', az_lp (fun s : (Int32 × Int32 × (Nat → Nat → Int32)) => rs_M_product_10_b (rs_G3 g) s.1 s.2.1 s.2.2) 100000 (x, mby A, A) = some (x', A') ∧ Q x' A') → ∃ x' I', rs_M_product (rs_G3 g) I = some (x', I') ∧ Q x' I' := by
    intro Q hb hq hQ
    have e : rs_M_product (rs_G3 g) I = rs_M_product_10 (rs_G3 g) A x (mby A) := by
      unfold rs_M_product
      rw [show rs_G3 g 185 0 0 0 0 I = some (x, A) from r]
      exact mby_f hn hb hq (rs_M_product_10 (rs_G3 g) A x)
    rw [e]
    exact hQ
  unfold plv
  cases e : sub p with
  | error y =>
    rw [e] at q
    exact st _ q.2.1 q.2.2.2.2 ⟨x, A, az_lp_r (S3 A y x q.2), q⟩
  | ok y =>
    obtain ⟨q', c, v⟩ := y
    rw [e] at q gd
    obtain ⟨t1, t2, t3⟩ := q
    refine st _ t2.1 ⟨q', by have := gd.2.1; omega, t2.2.1⟩ ?_
    rw [t3]
    refine mp_loop (b := fun s : (Int32 × Int32 × (Nat → Nat → Int32)) => rs_M_product_10_b (rs_G3 g) s.1 s.2.1 s.2.2) (pk := fun x A => (x, mby A, A)) (lv := 4) (by omega) hs hx ?_ ?_ (fun A e x h => S3 A e x h) hn 120 q' A c v 100000 (by omega) gd.2.1 t2 t1 (by omega)
    · intro A p x h hp hj
      have h4 := h.2.2.1
      (try dsimp only)
      unfold rs_M_product_10_b
      rcases Nat.lt_or_ge p n with w | w
      · have nb : ¬ (B p = nI 42 ∨ B p = nI 47 ∨ B p = nI 37) := fun z => hj ⟨w, (jl_4 _).mpr z⟩
        have b1 : ¬ B p = nI 42 := fun z => nb (Or.inl z)
        have b2 : ¬ B p = nI 47 := fun z => nb (Or.inr (Or.inl z))
        have b3 : ¬ B p = nI 37 := fun z => nb (Or.inr (Or.inr z))
        rw [mby_lt hn h w]
        simp (disch := omega) only [bl_lit, lgl, lgg, lgl0, lgg0, lglm, lggm, az_us, az_un, az_ue, az_urn, az_ure, bz_lit, nI_leI, nI_ltI, nI_eq, nI_clamp, nI_add, pk_sub, pk_mul, bz_nlt, bz_nle, bz_ltn, bz_len, bz_neq, bz_eqn, bz_nn, ↓reduceIte, Bool.false_eq_true, if_pos, if_neg, h4, m1, b1, b2, b3]
      · rw [mby_ge hn h w hp]
        simp (disch := omega) only [bl_lit, lgl, lgg, lgl0, lgg0, lglm, lggm, az_us, az_un, az_ue, az_urn, az_ure, bz_lit, nI_leI, nI_ltI, nI_eq, nI_clamp, nI_add, pk_sub, pk_mul, bz_nlt, bz_nle, bz_ltn, bz_len, bz_neq, bz_eqn, bz_nn, ↓reduceIte, Bool.false_eq_true, if_pos, if_neg, h4, m1]
    · intro A p x y A1 h hp hj hr hb hq
      have h4 := h.2.2.1
      have h3 := h.2.1
      replace hr : rs_G3 g 185 (nI 0) (nI 0) (nI 0) (nI 0) (az_u A 73 15 (nI (p + 1))) = some (y, A1) := hr
      have f85 : ∀ s0, rs_M_product_85 (rs_G3 g) A1 s0 = some (.inl (s0, mby A1, A1)) := by
        intro s0
        exact mby_f (α := (Int32 × Int32 × (Nat → Nat → Int32)) ⊕ (Int32 × (Nat → Nat → Int32))) hn hb hq (fun b => some (Sum.inl (s0, b, A1)))
      (try dsimp only)
      rw [mby_lt hn h hp]
      unfold rs_M_product_10_b rs_M_product_35 jn rs_La_joined
      rcases (jl_4 _).mp hj with b | b | b
      · rw [b]
        simp (disch := omega) only [bl_lit, lgl, lgg, lgl0, lgg0, lglm, lggm, az_us, az_un, az_ue, az_urn, az_ure, bz_lit, nI_leI, nI_ltI, nI_eq, nI_clamp, nI_add, pk_sub, pk_mul, bz_nlt, bz_nle, bz_ltn, bz_len, bz_neq, bz_eqn, bz_nn, ↓reduceIte, Bool.false_eq_true, if_pos, if_neg, h3, h4, m1, hr, f85, Option.getD_some]
      · rw [b]
        by_cases y0 : y = nI 0
        · simp (disch := omega) only [bl_lit, lgl, lgg, lgl0, lgg0, lglm, lggm, az_us, az_un, az_ue, az_urn, az_ure, bz_lit, nI_leI, nI_ltI, nI_eq, nI_clamp, nI_add, pk_sub, pk_mul, bz_nlt, bz_nle, bz_ltn, bz_len, bz_neq, bz_eqn, bz_nn, ↓reduceIte, Bool.false_eq_true, if_pos, if_neg, h3, h4, m1, hr, f85, y0, Option.getD_some]
        · simp (disch := omega) only [bl_lit, lgl, lgg, lgl0, lgg0, lglm, lggm, az_us, az_un, az_ue, az_urn, az_ure, bz_lit, nI_leI, nI_ltI, nI_eq, nI_clamp, nI_add, pk_sub, pk_mul, bz_nlt, bz_nle, bz_ltn, bz_len, bz_neq, bz_eqn, bz_nn, ↓reduceIte, Bool.false_eq_true, if_pos, if_neg, h3, h4, m1, hr, f85, y0, Option.getD_some]
      · rw [b]
        by_cases y0 : y = nI 0
        · simp (disch := omega) only [bl_lit, lgl, lgg, lgl0, lgg0, lglm, lggm, az_us, az_un, az_ue, az_urn, az_ure, bz_lit, nI_leI, nI_ltI, nI_eq, nI_clamp, nI_add, pk_sub, pk_mul, bz_nlt, bz_nle, bz_ltn, bz_len, bz_neq, bz_eqn, bz_nn, ↓reduceIte, Bool.false_eq_true, if_pos, if_neg, h3, h4, m1, hr, f85, y0, Option.getD_some]
        · simp (disch := omega) only [bl_lit, lgl, lgg, lgl0, lgg0, lglm, lggm, az_us, az_un, az_ue, az_urn, az_ure, bz_lit, nI_leI, nI_ltI, nI_eq, nI_clamp, nI_add, pk_sub, pk_mul, bz_nlt, bz_nle, bz_ltn, bz_len, bz_neq, bz_eqn, bz_nn, ↓reduceIte, Bool.false_eq_true, if_pos, if_neg, h3, h4, m1, hr, f85, y0, Option.getD_some]
theorem mp_ex {g H d : Nat} {sub : Nat → pr_T} (hn : n ≤ 120) (hH : 1 ≤ H) (hs : pg n H sub) (hx : MP n B d (fun I => rs_G3 g 185 0 0 0 0 I) sub) : MP n B d (fun I => rs_G3 (g + 5) 179 0 0 0 0 I) (pex n B sub) := by
  have g4 := plv_g (B := B) 4 hH hs
  have g3 := plv_g (B := B) 3 (by omega) g4
  have g2 := plv_g (B := B) 2 (by omega) g3
  have g1 := plv_g (B := B) 1 (by omega) g2
  exact mp_either hn g1 (mp_both hn g2 (mp_compared hn g3 (mp_sums hn g4 (mp_product hn hs hx))))
/-- numbers -/
theorem mp_num (hn : n ≤ 120) {rec : az_GT} {d : Nat} {I0 : Nat → Nat → Int32} : ∀ k A p v N, k ≤ 3 → mst n B A p d → az_fr F_m I0 A → p ≤ n → k < N → ∃ A', az_lp (fun s : (Int32 × Int32 × (Nat → Nat → Int32)) => rs_M_one_176_b rec s.1 s.2.1 s.2.2) N (v, nI (4 - k), A) = some ((pn n B k p v).2, A') ∧ az_fr F_m I0 A' ∧ mst n B A' (pn n B k p v).1 d := by
  have fin : ∀ k A v, k ≤ 3 → rs_M_one_229 rec A v (nI (4 - k)) = some (v, A) := by
    intro k A v hk
    unfold rs_M_one_229
    rw [if_neg (show ¬ nI (4 - k) = 0 from by rw [show (0 : Int32) = nI 0 from rfl, nI_eq (by omega) (by omega)]; omega)]
  intro k
  induction k with
  | zero =>
    intro A p v N _ h f0 hp hN
    obtain ⟨N, rfl⟩ : ∃ N', N = N' + 1 := ⟨N - 1, by omega⟩
    refine ⟨A, az_lp_r ?_, f0, h⟩
    show rs_M_one_176_b rec v (nI 4) A = _
    unfold rs_M_one_176_b
    rw [if_pos (show (4 : Int32) ≤ nI 4 by decide), show rs_M_one_229 rec A v (nI 4) = _ from fin 0 A v (by omega)]
    rfl
  | succ k ih =>
    intro A p v N hk h f0 hp hN
    obtain ⟨N, rfl⟩ : ∃ N', N = N' + 1 := ⟨N - 1, by omega⟩
    have h' := h
    obtain ⟨⟨h1, h2⟩, h3, h4, h5⟩ := h
    have m1 : ¬ nI 0 ≤ -nI 1 := by decide
    have fn := fin (k + 1) A v hk
    unfold pn
    by_cases dg : pdg n B p
    · rw [if_pos dg]
      obtain ⟨e1, e2, e3⟩ := dg
      obtain ⟨A2, r2, q2⟩ := ih (az_u A 73 15 (nI (p + 1))) (p + 1) (v * nI 10 + B p - nI 48) N (by omega) (ms_take h') (f0.u (by unfold F_m; omega)) (by omega) (by omega)
      refine ⟨A2, ?_, q2⟩
      have st : rs_M_one_176_b rec v (nI (4 - (k + 1))) A = some (.inl (v * nI 10 + B p - nI 48, nI (4 - (k + 1) + 1), az_u A 73 15 (nI (p + 1)))) := by
        unfold rs_M_one_176_b
        rw [Int32.mul_comm v (nI 10)]
        rcases h1 with ⟨a, b⟩ | ⟨a, b⟩
        · have b := b p e1
          simp (disch := omega) only [bl_lit, lgl, lgg, lgl0, lgg0, lglm, lggm, az_us, az_un, az_ue, az_urn, az_ure, bz_lit, nI_leI, nI_ltI, nI_eq, nI_clamp, nI_add, pk_sub, pk_mul, bz_nlt, bz_nle, bz_ltn, bz_len, bz_neq, bz_eqn, bz_nn, ↓reduceIte, Bool.false_eq_true, if_pos, if_neg, h2, h3, a, m1, b, e2, e3]
        · have b := b p e1
          simp (disch := omega) only [bl_lit, lgl, lgg, lgl0, lgg0, lglm, lggm, az_us, az_un, az_ue, az_urn, az_ure, bz_lit, nI_leI, nI_ltI, nI_eq, nI_clamp, nI_add, pk_sub, pk_mul, bz_nlt, bz_nle, bz_ltn, bz_len, bz_neq, bz_eqn, bz_nn, ↓reduceIte, Bool.false_eq_true, if_pos, if_neg, h2, h3, a, m1, Nat.zero_add, b, e2, e3]
      rw [az_lp_l (b := fun s : (Int32 × Int32 × (Nat → Nat → Int32)) => rs_M_one_176_b rec s.1 s.2.1 s.2.2) (s := (v, nI (4 - (k + 1)), A)) (s' := (v * nI 10 + B p - nI 48, nI (4 - (k + 1) + 1), az_u A 73 15 (nI (p + 1)))) st, show 4 - (k + 1) + 1 = 4 - k by omega]
      exact r2
    · rw [if_neg dg]
      refine ⟨A, az_lp_r ?_, f0, h'⟩
      show rs_M_one_176_b rec v (nI (4 - (k + 1))) A = _
      unfold rs_M_one_176_b
      rcases Nat.lt_or_ge p n with w | w
      · by_cases e2 : B p < nI 48
        · rcases h1 with ⟨a, b⟩ | ⟨a, b⟩
          · have b := b p w
            simp (disch := omega) only [bl_lit, lgl, lgg, lgl0, lgg0, lglm, lggm, az_us, az_un, az_ue, az_urn, az_ure, bz_lit, nI_leI, nI_ltI, nI_eq, nI_clamp, nI_add, pk_sub, pk_mul, bz_nlt, bz_nle, bz_ltn, bz_len, bz_neq, bz_eqn, bz_nn, ↓reduceIte, Bool.false_eq_true, if_pos, if_neg, h2, h3, a, m1, b, e2, fn, Option.map_some]
          · have b := b p w
            simp (disch := omega) only [bl_lit, lgl, lgg, lgl0, lgg0, lglm, lggm, az_us, az_un, az_ue, az_urn, az_ure, bz_lit, nI_leI, nI_ltI, nI_eq, nI_clamp, nI_add, pk_sub, pk_mul, bz_nlt, bz_nle, bz_ltn, bz_len, bz_neq, bz_eqn, bz_nn, ↓reduceIte, Bool.false_eq_true, if_pos, if_neg, h2, h3, a, m1, Nat.zero_add, b, e2, fn, Option.map_some]
        · have e3 : nI 57 < B p := by
            by_cases e3 : nI 57 < B p
            · exact e3
            · exact absurd ⟨w, e2, e3⟩ dg
          rcases h1 with ⟨a, b⟩ | ⟨a, b⟩
          · have b := b p w
            simp (disch := omega) only [bl_lit, lgl, lgg, lgl0, lgg0, lglm, lggm, az_us, az_un, az_ue, az_urn, az_ure, bz_lit, nI_leI, nI_ltI, nI_eq, nI_clamp, nI_add, pk_sub, pk_mul, bz_nlt, bz_nle, bz_ltn, bz_len, bz_neq, bz_eqn, bz_nn, ↓reduceIte, Bool.false_eq_true, if_pos, if_neg, h2, h3, a, m1, b, e2, e3, fn, Option.map_some]
          · have b := b p w
            simp (disch := omega) only [bl_lit, lgl, lgg, lgl0, lgg0, lglm, lggm, az_us, az_un, az_ue, az_urn, az_ure, bz_lit, nI_leI, nI_ltI, nI_eq, nI_clamp, nI_add, pk_sub, pk_mul, bz_nlt, bz_nle, bz_ltn, bz_len, bz_neq, bz_eqn, bz_nn, ↓reduceIte, Bool.false_eq_true, if_pos, if_neg, h2, h3, a, m1, Nat.zero_add, b, e2, e3, fn, Option.map_some]
      · simp (disch := omega) only [bl_lit, lgl, lgg, lgl0, lgg0, lglm, lggm, az_us, az_un, az_ue, az_urn, az_ure, bz_lit, nI_leI, nI_ltI, nI_eq, nI_clamp, nI_add, pk_sub, pk_mul, bz_nlt, bz_nle, bz_ltn, bz_len, bz_neq, bz_eqn, bz_nn, ↓reduceIte, Bool.false_eq_true, if_pos, if_neg, h2, h3, fn, Option.map_some]
end

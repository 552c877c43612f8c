/-! THE LAW: the class reads -/
theorem cc_mk {I : Nat → Nat → Int32} {t i : Nat} {a b : pc_T} (h : cc I t i a) (h' : cc I t (i + a.length) b) : cc I t i (a ++ b) := fun j x hx => by
  rcases Nat.lt_or_ge j a.length with q | q
  · rw [List.getElem?_append_left q] at hx
    exact h j x hx
  · rw [List.getElem?_append_right q] at hx
    have := h' (j - a.length) x hx
    rw [show i + a.length + (j - a.length) = i + j by omega] at this
    exact this
section
variable {tl n : Nat} {B : Nat → Int32}
def F_x (tl : Nat) : Nat → Nat → Prop := fun r k => (r = 14 ∧ (k = 2 ∨ k = 3)) ∨ (r = tl ∧ k = 4) ∨ r = tl + 1 ∨ r = tl + 2
def xst (tl n : Nat) (B : Nat → Int32) (I : Nat → Nat → Int32) (p z : Nat) : Prop := I 14 1 = nI n ∧ (∀ k, k < n → I 15 k = B k) ∧ I 14 2 = nI p ∧ I 14 3 = -nI 1 ∧ I tl 4 = nI z
/-- read so far: from I0 at z0 -/
def xok (tl n : Nat) (B : Nat → Int32) (I0 : Nat → Nat → Int32) (z0 q : Nat) (c : pc_T) (I : Nat → Nat → Int32) : Prop := xst tl n B I q (z0 + c.length) ∧ cc I tl z0 c ∧ (∀ j, j < z0 → I (tl + 1) j = I0 (tl + 1) j ∧ I (tl + 2) j = I0 (tl + 2) j) ∧ az_fr (F_x tl) I0 I
def xer (tl : Nat) (I0 : Nat → Nat → Int32) (e : Nat) (I : Nat → Nat → Int32) : Prop := az_fr (F_x tl) I0 I ∧ I 14 3 = nI e ∧ (∃ q, q ≤ 121 ∧ I 14 2 = nI q) ∧ ∃ z, z ≤ 121 ∧ I tl 4 = nI z
def xqq (tl n : Nat) (B : Nat → Int32) (I0 : Nat → Nat → Int32) (z0 : Nat) (r : pr_T) (I : Nat → Nat → Int32) : Prop := match r with
  | .error e => xer tl I0 e I
  | .ok (q, c, _) => xok tl n B I0 z0 q c I
def XP (tl n : Nat) (B : Nat → Int32) (f : (Nat → Nat → Int32) → Option (Int32 × (Nat → Nat → Int32))) (sub : Nat → pr_T) : Prop := ∀ I p z, xst tl n B I p z → z ≤ p → p ≤ n → ∃ I', f I = some (0, I') ∧ xqq tl n B I z (sub p) I'
theorem xo_add (ht : tl = 16 ∨ tl = 21) {I0 A : Nat → Nat → Int32} {z0 q : Nat} {c : pc_T} (h : xok tl n B I0 z0 q c A) (hz : z0 + c.length < 121) (a b : Int32) :
    ∃ A', rs_La_add tl A a b = some (nI (z0 + c.length), A') ∧ xok tl n B I0 z0 q (c ++ [(a, b)]) A' := by
  obtain ⟨⟨h1, h2, h3, h4, h5⟩, h6, h7, h8⟩ := h
  refine ⟨az_u (az_u (az_u A (tl + 1) (z0 + c.length) a) (tl + 2) (z0 + c.length) b) tl 4 (nI (z0 + c.length + 1)), ?_, ⟨?_, ?_, ?_, ?_, ?_⟩, ?_, ?_, ?_⟩
  · unfold rs_La_add
    simp (disch := omega) only [bl_lit, lgl, lgg, lgl0, lgg0, lglm, lggm, az_us, az_un, az_ue, az_urn, az_ure, bz_lit, nI_leI, nI_ltI, nI_eq, nI_clamp, nI_add, pk_sub, pk_mul, bz_nlt, bz_nle, bz_ltn, bz_len, bz_neq, bz_eqn, bz_nn, ↓reduceIte, Bool.false_eq_true, if_pos, if_neg, h5]
  · rw [az_un (by omega), az_un (by omega), az_un (by omega)]; exact h1
  · intro k hk; rw [az_un (by omega), az_un (by omega), az_un (by omega)]; exact h2 k hk
  · rw [az_un (by omega), az_un (by omega), az_un (by omega)]; exact h3
  · rw [az_un (by omega), az_un (by omega), az_un (by omega)]; exact h4
  · rw [az_us, List.length_append]; rfl
  · refine cc_mk ?_ ?_
    · intro j x hx
      obtain ⟨hl, _⟩ := List.getElem?_eq_some_iff.mp hx
      rw [az_un (by omega), az_un (by omega), az_un (by omega), az_un (by omega), az_un (by omega), az_un (by omega)]
      exact h6 j x hx
    · intro j x hx
      obtain ⟨hl, _⟩ := List.getElem?_eq_some_iff.mp hx
      have j0 : j = 0 := by simp only [List.length_singleton] at hl; omega
      subst j0
      cases hx
      rw [show z0 + c.length + 0 = z0 + c.length from rfl]
      refine ⟨?_, ?_⟩
      · rw [az_un (by omega), az_un (by omega), az_us]
      · rw [az_un (by omega), az_us]
  · intro j hj
    rw [az_un (by omega), az_un (by omega), az_un (by omega), az_un (by omega), az_un (by omega), az_un (by omega)]
    exact h7 j hj
  · exact ((h8.u (by unfold F_x; omega)).u (by unfold F_x; omega)).u (by unfold F_x; omega)
theorem xe_add (ht : tl = 16 ∨ tl = 21) {I0 A : Nat → Nat → Int32} {e : Nat} (h : xer tl I0 e A) (a b : Int32) : ∃ x A', rs_La_add tl A a b = some (x, A') ∧ xer tl I0 e A' := by
  obtain ⟨h1, h2, ⟨q, hq, h3⟩, z, hz, h4⟩ := h
  unfold rs_La_add
  by_cases w : z < 121
  · refine ⟨nI z, az_u (az_u (az_u A (tl + 1) z a) (tl + 2) z b) tl 4 (nI (z + 1)), by simp (disch := omega) only [bl_lit, lgl, lgg, lgl0, lgg0, lglm, lggm, az_us, az_un, az_ue, az_urn, az_ure, bz_lit, nI_leI, nI_ltI, nI_eq, nI_clamp, nI_add, pk_sub, pk_mul, bz_nlt, bz_nle, bz_ltn, bz_len, bz_neq, bz_eqn, bz_nn, ↓reduceIte, Bool.false_eq_true, if_pos, if_neg, h4], ((h1.u (by unfold F_x; omega)).u (by unfold F_x; omega)).u (by unfold F_x; omega), ?_, ⟨q, hq, ?_⟩, z + 1, by omega, az_us⟩
    · rw [az_un (by omega), az_un (by omega), az_un (by omega)]; exact h2
    · rw [az_un (by omega), az_un (by omega), az_un (by omega)]; exact h3
  · exact ⟨nI z, A, by simp (disch := omega) only [bl_lit, lgl, lgg, lgl0, lgg0, lglm, lggm, az_us, az_un, az_ue, az_urn, az_ure, bz_lit, nI_leI, nI_ltI, nI_eq, nI_clamp, nI_add, pk_sub, pk_mul, bz_nlt, bz_nle, bz_ltn, bz_len, bz_neq, bz_eqn, bz_nn, ↓reduceIte, Bool.false_eq_true, if_pos, if_neg, h4], h1, h2, ⟨q, hq, h3⟩, z, hz, h4⟩
/-- a byte taken -/
theorem xs_take {A : Nat → Nat → Int32} {p z : Nat} (ht : tl = 16 ∨ tl = 21) (h : xst tl n B A p z) : xst tl n B (az_u A 14 2 (nI (p + 1))) (p + 1) z := by
  obtain ⟨h1, h2, h3, h4, h5⟩ := h
  refine ⟨?_, fun k hk => ?_, az_us, ?_, ?_⟩
  · rw [az_un (by omega)]; exact h1
  · rw [az_un (by omega)]; exact h2 k hk
  · rw [az_un (by omega)]; exact h4
  · rw [az_un (by omega)]; exact h5
theorem xe_take {A A' : Nat → Nat → Int32} {e : Nat} {v : Int32} (h : xer tl (az_u A 14 2 v) e A') : xer tl A e A' :=
  ⟨((az_fr.refl (S := F_x tl)).u (by unfold F_x; omega)).trans h.1, h.2⟩
theorem xo_app (ht : tl = 16 ∨ tl = 21) {I0 A A' : Nat → Nat → Int32} {z0 p q : Nat} {c c' : pc_T} {v : Int32} (h : xok tl n B I0 z0 p c A) (h' : xok tl n B (az_u A 14 2 v) (z0 + c.length) q c' A') : xok tl n B I0 z0 q (c ++ c') A' := by
  obtain ⟨h1, h2, h3, h4⟩ := h
  obtain ⟨g1, g2, g3, g4⟩ := h'
  refine ⟨?_, cc_mk ?_ g2, ?_, ?_⟩
  · rw [List.length_append, ← Nat.add_assoc]; exact g1
  · intro j x hx
    obtain ⟨hl, _⟩ := List.getElem?_eq_some_iff.mp hx
    obtain ⟨a, b⟩ := g3 (z0 + j) (by omega)
    rw [a, b, az_un (by omega), az_un (by omega)]
    exact h2 j x hx
  · intro j hj
    obtain ⟨a, b⟩ := g3 j (by omega)
    rw [a, b, az_un (by omega), az_un (by omega)]
    exact h3 j hj
  · exact (h4.u (by unfold F_x; omega)).trans g4
theorem xe_app {I0 A A' : Nat → Nat → Int32} {z0 p e : Nat} {c : pc_T} {v : Int32} (h : xok tl n B I0 z0 p c A) (h' : xer tl (az_u A 14 2 v) e A') : xer tl I0 e A' :=
  ⟨(h.2.2.2.u (by unfold F_x; omega)).trans h'.1, h'.2⟩
theorem xo_0 {I : Nat → Nat → Int32} {p z : Nat} (h : xst tl n B I p z) : xok tl n B I z p [] I :=
  ⟨h, fun j x hx => (by rw [List.getElem?_nil] at hx; cases hx), fun _ _ => ⟨rfl, rfl⟩, az_fr.refl⟩
/-- a level's loop -/
theorem xp_loop {g H lv : Nat} {d : Int32} {sub : Nat → pr_T} (ht : tl = 16 ∨ tl = 21) (hn : n ≤ 120) (hlv : lv < 5) (hs : pg n H sub) (hx : XP tl n B (fun I => rs_G1 tl g 69 (nI (lv + 1)) d 0 0 I) sub) {I0 : Nat → Nat → Int32} {z0 : Nat} :
    ∀ k A p c v N, k ≤ 120 → xok tl n B I0 z0 p c A → z0 + c.length ≤ p → p ≤ n → k + 1 < N → ∃ A', az_lp (fun s : (Int32 × (Nat → Nat → Int32)) => rs_Ta_readLevel_21_b (rs_G1 tl g) tl (nI lv) d s.1 s.2) N (nI (120 - k), A) = some A' ∧ xqq tl n B I0 z0 (plp n B lv sub k p c v) A' := by
  intro k
  induction k with
  | zero =>
    intro A p c v N _ h hz hp hN
    obtain ⟨N, rfl⟩ : ∃ N', N = N' + 1 := ⟨N - 1, by omega⟩
    refine ⟨A, ?_, h⟩
    refine az_lp_r ?_
    show rs_Ta_readLevel_21_b (rs_G1 tl g) tl (nI lv) d (nI 120) A = _
    unfold rs_Ta_readLevel_21_b
    rw [if_pos (show (120 : Int32) ≤ nI 120 by decide)]
  | succ k ih =>
    intro A p c v N hk h hz hp hN
    obtain ⟨N, rfl⟩ : ∃ N', N = N' + 1 + 1 := ⟨N - 2, by omega⟩
    obtain ⟨h1, h2, h3, h4, h5⟩ := h.1
    have j1 : rs_Ta_joinsAt (nI lv) (-nI 1) = some (nI 0) := by
      have hl : lv = 0 ∨ lv = 1 ∨ lv = 2 ∨ lv = 3 ∨ lv = 4 := by omega
      rcases hl with rfl | rfl | rfl | rfl | rfl <;> decide
    have m1 : ¬ nI 0 ≤ -nI 1 := by decide
    unfold plp
    rcases Nat.lt_or_ge p n with hpn | hpn
    · have b := h2 p hpn
      have j2 := jl_X hlv (B p)
      cases hj : jl lv (B p) with
      | false =>
        rw [hj, if_neg (by decide)] at j2
        rw [if_neg (by rintro ⟨_, q⟩; cases q)]
        refine ⟨A, az_lp_r ?_, h⟩
        show rs_Ta_readLevel_21_b (rs_G1 tl g) tl (nI lv) d (nI (120 - (k + 1))) A = _
        unfold rs_Ta_readLevel_21_b
        simp (disch := omega) only [bl_lit, lgl, lgg, lgl0, lgg0, lglm, lggm, az_us, az_un, az_ue, az_urn, az_ure, bz_lit, nI_leI, nI_ltI, nI_eq, nI_clamp, nI_add, pk_sub, pk_mul, bz_nlt, bz_nle, bz_ltn, bz_len, bz_neq, bz_eqn, bz_nn, ↓reduceIte, Bool.false_eq_true, if_pos, if_neg, h1, h3, h4, m1, b, j2]
      | true =>
        rw [hj, if_pos rfl] at j2
        rw [if_pos ⟨hpn, rfl⟩]
        obtain ⟨A1, r1, q1⟩ := hx (az_u A 14 2 (nI (p + 1))) (p + 1) (z0 + c.length) (xs_take ht h.1) (by omega) (by omega)
        replace r1 : rs_G1 tl g 69 (nI (lv + 1)) d (nI 0) (nI 0) (az_u A 14 2 (nI (p + 1))) = some (nI 0, A1) := r1
        have gd := hs (p + 1) (by omega)
        cases e : sub (p + 1) with
        | error x =>
          rw [e] at q1
          have q2 : xer tl I0 x A1 := xe_app h q1
          obtain ⟨y, A2, r2, q3⟩ := xe_add ht q2 (B p) (nI 0)
          refine ⟨A2, ?_, q3⟩
          by_cases l2 : lv = 2
          · refine az_lp_r ?_
            show rs_Ta_readLevel_21_b (rs_G1 tl g) tl (nI lv) d (nI (120 - (k + 1))) A = _
            unfold rs_Ta_readLevel_21_b
            subst l2
            simp (disch := omega) only [bl_lit, lgl, lgg, lgl0, lgg0, lglm, lggm, az_us, az_un, az_ue, az_urn, az_ure, bz_lit, nI_leI, nI_ltI, nI_eq, nI_clamp, nI_add, pk_sub, pk_mul, bz_nlt, bz_nle, bz_ltn, bz_len, bz_neq, bz_eqn, bz_nn, ↓reduceIte, Bool.false_eq_true, if_pos, if_neg, h1, h3, h4, m1, b, j2, r1, r2]
          · have st : rs_Ta_readLevel_21_b (rs_G1 tl g) tl (nI lv) d (nI (120 - (k + 1))) A = some (.inl (nI (120 - (k + 1) + 1), A2)) := by
              unfold rs_Ta_readLevel_21_b
              simp (disch := omega) only [bl_lit, lgl, lgg, lgl0, lgg0, lglm, lggm, az_us, az_un, az_ue, az_urn, az_ure, bz_lit, nI_leI, nI_ltI, nI_eq, nI_clamp, nI_add, pk_sub, pk_mul, bz_nlt, bz_nle, bz_ltn, bz_len, bz_neq, bz_eqn, bz_nn, ↓reduceIte, Bool.false_eq_true, if_pos, if_neg, h1, h3, h4, m1, b, j2, r1, r2, l2]
            rw [az_lp_l (b := fun s : (Int32 × (Nat → Nat → Int32)) => rs_Ta_readLevel_21_b (rs_G1 tl g) tl (nI lv) d s.1 s.2) (s := (nI (120 - (k + 1)), A)) (s' := (nI (120 - (k + 1) + 1), A2)) st]
            refine az_lp_r ?_
            show rs_Ta_readLevel_21_b (rs_G1 tl g) tl (nI lv) d (nI (120 - (k + 1) + 1)) A2 = _
            unfold rs_Ta_readLevel_21_b
            rw [q3.2.1]
            by_cases w : (120 : Int32) ≤ nI (120 - (k + 1) + 1)
            · rw [if_pos w]
            · rw [if_neg w, if_pos (show (0 : Int32) ≤ nI x from nI_pos' (by rw [e] at gd; have : x ≤ n := gd; omega))]
        | ok r =>
          obtain ⟨q, c', v'⟩ := r
          rw [e] at q1 gd
          obtain ⟨d1, d2, d3, d4⟩ := gd
          have q2 : xok tl n B I0 z0 q (c ++ c') A1 := xo_app ht h q1
          obtain ⟨A2, r2, q3⟩ := xo_add ht q2 (by rw [List.length_append]; omega) (B p) (nI 0)
          have r2' : rs_La_add tl A1 (B p) (nI 0) = some (nI (z0 + (c ++ c').length), A2) := r2
          (try dsimp only)
          by_cases l2 : lv = 2
          · rw [if_pos l2]
            refine ⟨A2, az_lp_r ?_, q3⟩
            show rs_Ta_readLevel_21_b (rs_G1 tl g) tl (nI lv) d (nI (120 - (k + 1))) A = _
            unfold rs_Ta_readLevel_21_b
            subst l2
            simp (disch := omega) only [bl_lit, lgl, lgg, lgl0, lgg0, lglm, lggm, az_us, az_un, az_ue, az_urn, az_ure, bz_lit, nI_leI, nI_ltI, nI_eq, nI_clamp, nI_add, pk_sub, pk_mul, bz_nlt, bz_nle, bz_ltn, bz_len, bz_neq, bz_eqn, bz_nn, ↓reduceIte, Bool.false_eq_true, if_pos, if_neg, h1, h3, h4, m1, b, j2, r1, r2']
          · rw [if_neg l2]
            have st : rs_Ta_readLevel_21_b (rs_G1 tl g) tl (nI lv) d (nI (120 - (k + 1))) A = some (.inl (nI (120 - (k + 1) + 1), A2)) := by
              unfold rs_Ta_readLevel_21_b
              simp (disch := omega) only [bl_lit, lgl, lgg, lgl0, lgg0, lglm, lggm, az_us, az_un, az_ue, az_urn, az_ure, bz_lit, nI_leI, nI_ltI, nI_eq, nI_clamp, nI_add, pk_sub, pk_mul, bz_nlt, bz_nle, bz_ltn, bz_len, bz_neq, bz_eqn, bz_nn, ↓reduceIte, Bool.false_eq_true, if_pos, if_neg, h1, h3, h4, m1, b, j2, r1, r2', l2]
            rw [az_lp_l (b := fun s : (Int32 × (Nat → Nat → Int32)) => rs_Ta_readLevel_21_b (rs_G1 tl g) tl (nI lv) d s.1 s.2) (s := (nI (120 - (k + 1)), A)) (s' := (nI (120 - (k + 1) + 1), A2)) st, show 120 - (k + 1) + 1 = 120 - k by omega]
            exact ih A2 q _ _ (N + 1) (by omega) q3 (by rw [List.length_append, List.length_append]; show z0 + (c.length + c'.length + 1) ≤ q; omega) d2 (by omega)
    · rw [if_neg (by omega)]
      refine ⟨A, az_lp_r ?_, h⟩
      show rs_Ta_readLevel_21_b (rs_G1 tl g) tl (nI lv) d (nI (120 - (k + 1))) A = _
      unfold rs_Ta_readLevel_21_b
      simp (disch := omega) only [bl_lit, lgl, lgg, lgl0, lgg0, lglm, lggm, az_us, az_un, az_ue, az_urn, az_ure, bz_lit, nI_leI, nI_ltI, nI_eq, nI_clamp, nI_add, pk_sub, pk_mul, bz_nlt, bz_nle, bz_ltn, bz_len, bz_neq, bz_eqn, bz_nn, ↓reduceIte, Bool.false_eq_true, if_pos, if_neg, h1, h3, h4, m1, j1]
end

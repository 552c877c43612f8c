/-! THE LAW: the class's operands -/
section
variable {tl n : Nat} {B : Nat → Int32}
theorem xp_lv {g H lv : Nat} {d : Int32} {sub : Nat → pr_T} (ht : tl = 16 ∨ tl = 21) (hn : n ≤ 120) (hlv : lv < 5) (hs : pg n H sub) (hx : XP tl n B (fun I => rs_G1 tl g 69 (nI (lv + 1)) d 0 0 I) sub) : XP tl n B (fun I => rs_G1 tl (g + 1) 69 (nI lv) d 0 0 I) (plv n B lv sub) := by
  intro I p z h hz hp
  obtain ⟨A, r, q⟩ := hx I p z h hz hp
  replace r : rs_G1 tl g 69 (nI (lv + 1)) d (nI 0) (nI 0) I = some (nI 0, A) := r
  have gd := hs p hp
  show ∃ I', (rs_Ta_readLevel (rs_G1 tl g) tl I (nI lv) d).map _ = _ ∧ _
  unfold rs_Ta_readLevel plv
  cases e : sub p with
  | error x =>
    rw [e] at q gd
    refine ⟨A, ?_, q⟩
    have x0 : nI 0 ≤ nI x := nI_pos' (by have : x ≤ n := gd; omega)
    have lp : rs_Ta_readLevel_21 (rs_G1 tl g) tl A (nI lv) d (nI 0) = some A := by
      unfold rs_Ta_readLevel_21
      refine az_lp_r ?_
      show rs_Ta_readLevel_21_b (rs_G1 tl g) tl (nI lv) d (nI 0) A = _
      unfold rs_Ta_readLevel_21_b
      rw [q.2.1, if_neg (by decide), if_pos (show (0 : Int32) ≤ nI x from x0)]
    simp (disch := omega) only [bl_lit, lgl, lgg, lgl0, lgg0, lglm, lggm, az_us, az_un, az_ue, az_urn, az_ure, bz_lit, nI_leI, nI_ltI, nI_eq, nI_clamp, nI_add, pk_sub, pk_mul, bz_nlt, bz_nle, bz_ltn, bz_len, bz_neq, bz_eqn, bz_nn, ↓reduceIte, Bool.false_eq_true, if_pos, if_neg, r, lp, Option.map_some]
  | ok y =>
    obtain ⟨q', c, v⟩ := y
    rw [e] at q gd
    obtain ⟨d1, d2, d3, d4⟩ := gd
    obtain ⟨A', r', q2⟩ := xp_loop ht hn hlv hs hx 120 A q' c v 100000 (by omega) q (by omega) d2 (by omega)
    refine ⟨A', ?_, q2⟩
    have lp : rs_Ta_readLevel_21 (rs_G1 tl g) tl A (nI lv) d (nI 0) = some A' := r'
    simp (disch := omega) only [bl_lit, lgl, lgg, lgl0, lgg0, lglm, lggm, az_us, az_un, az_ue, az_urn, az_ure, bz_lit, nI_leI, nI_ltI, nI_eq, nI_clamp, nI_add, pk_sub, pk_mul, bz_nlt, bz_nle, bz_ltn, bz_len, bz_neq, bz_eqn, bz_nn, ↓reduceIte, Bool.false_eq_true, if_pos, if_neg, r, lp, Option.map_some]
theorem xp_5 {g : Nat} {d : Int32} {sub : Nat → pr_T} (hx : XP tl n B (fun I => rs_G1 tl g 71 d 0 0 0 I) sub) : XP tl n B (fun I => rs_G1 tl (g + 1) 69 (nI 5) d 0 0 I) sub := by
  intro I p z h hz hp
  obtain ⟨A, r, q⟩ := hx I p z h hz hp
  replace r : rs_G1 tl g 71 d (nI 0) (nI 0) (nI 0) I = some (nI 0, A) := r
  refine ⟨A, ?_, q⟩
  show (rs_Ta_readLevel (rs_G1 tl g) tl I (nI 5) d).map _ = _
  unfold rs_Ta_readLevel
  simp (disch := omega) only [bl_lit, lgl, lgg, lgl0, lgg0, lglm, lggm, az_us, az_un, az_ue, az_urn, az_ure, bz_lit, nI_leI, nI_ltI, nI_eq, nI_clamp, nI_add, pk_sub, pk_mul, bz_nlt, bz_nle, bz_ltn, bz_len, bz_neq, bz_eqn, bz_nn, ↓reduceIte, Bool.false_eq_true, if_pos, if_neg, r, Option.map_some]
theorem xp_ex {g H : Nat} {d : Int32} {sub : Nat → pr_T} (ht : tl = 16 ∨ tl = 21) (hn : n ≤ 120) (hH : 1 ≤ H) (hs : pg n H sub) (hx : XP tl n B (fun I => rs_G1 tl g 71 d 0 0 0 I) sub) : XP tl n B (fun I => rs_G1 tl (g + 6) 69 (nI 0) d 0 0 I) (pex n B sub) := by
  have g4 := plv_g (B := B) 4 hH hs
  have g3 := plv_g (B := B) 3 (by omega) g4
  have g2 := plv_g (B := B) 2 (by omega) g3
  have g1 := plv_g (B := B) 1 (by omega) g2
  exact xp_lv ht hn (by omega) g1 (xp_lv ht hn (by omega) g2 (xp_lv ht hn (by omega) g3 (xp_lv ht hn (by omega) g4 (xp_lv ht hn (by omega) hs (xp_5 hx)))))
/-- numbers -/
theorem xp_num (ht : tl = 16 ∨ tl = 21) (hn : n ≤ 120) {I0 : Nat → Nat → Int32} {z0 : Nat} (hz : z0 < 121) : ∀ k A p v N, k ≤ 4 → xok tl n B I0 z0 p [] A → p ≤ n → k < N → ∃ A', az_lp (fun s : (Int32 × Int32 × (Nat → Nat → Int32)) => rs_Ta_readNumber_4_b tl s.1 s.2.1 s.2.2) N (v, nI (4 - k), A) = some A' ∧ xok tl n B I0 z0 (pn n B k p v).1 [(35, (pn n B k p v).2)] A' := by
  intro k
  have fin : ∀ A p v, xok tl n B I0 z0 p [] A → ∃ A', rs_Ta_readNumber_48 tl A v = some A' ∧ xok tl n B I0 z0 p [(35, v)] A' := by
    intro A p v h
    obtain ⟨A', r, q⟩ := xo_add ht h (by show z0 + 0 < 121; omega) 35 v
    refine ⟨A', ?_, q⟩
    unfold rs_Ta_readNumber_48
    rw [r]
  induction k with
  | zero =>
    intro A p v N _ h hp hN
    obtain ⟨N, rfl⟩ : ∃ N', N = N' + 1 := ⟨N - 1, by omega⟩
    obtain ⟨A', r, q⟩ := fin A p v h
    refine ⟨A', az_lp_r ?_, q⟩
    show rs_Ta_readNumber_4_b tl v (nI 4) A = _
    unfold rs_Ta_readNumber_4_b
    rw [if_pos (show (4 : Int32) ≤ nI 4 by decide), r]
    rfl
  | succ k ih =>
    intro A p v N hk h hp hN
    obtain ⟨N, rfl⟩ : ∃ N', N = N' + 1 := ⟨N - 1, by omega⟩
    obtain ⟨h1, h2, h3, h4, h5⟩ := h.1
    obtain ⟨A', r, q⟩ := fin A p v h
    unfold pn
    by_cases dg : pdg n B p
    · rw [if_pos dg]
      obtain ⟨e1, e2, e3⟩ := dg
      have b := h2 p e1
      obtain ⟨A2, r2, q2⟩ := ih (az_u A 14 2 (nI (p + 1))) (p + 1) (v * nI 10 + B p - nI 48) N (by omega) (xo_app ht h (xo_0 (xs_take ht h.1))) (by omega) (by omega)
      refine ⟨A2, ?_, q2⟩
      have st : rs_Ta_readNumber_4_b tl v (nI (4 - (k + 1))) A = some (.inl (v * nI 10 + B p - nI 48, nI (4 - (k + 1) + 1), az_u A 14 2 (nI (p + 1)))) := by
        unfold rs_Ta_readNumber_4_b
        simp (disch := omega) only [bl_lit, lgl, lgg, lgl0, lgg0, lglm, lggm, az_us, az_un, az_ue, az_urn, az_ure, bz_lit, nI_leI, nI_ltI, nI_eq, nI_clamp, nI_add, pk_sub, pk_mul, bz_nlt, bz_nle, bz_ltn, bz_len, bz_neq, bz_eqn, bz_nn, ↓reduceIte, Bool.false_eq_true, if_pos, if_neg, h1, h3, b, e2, e3]
      rw [az_lp_l (b := fun s : (Int32 × Int32 × (Nat → Nat → Int32)) => rs_Ta_readNumber_4_b tl s.1 s.2.1 s.2.2) (s := (v, nI (4 - (k + 1)), A)) (s' := (v * nI 10 + B p - nI 48, nI (4 - (k + 1) + 1), az_u A 14 2 (nI (p + 1)))) st, show 4 - (k + 1) + 1 = 4 - k by omega]
      exact r2
    · rw [if_neg dg]
      refine ⟨A', az_lp_r ?_, q⟩
      show rs_Ta_readNumber_4_b tl v (nI (4 - (k + 1))) A = _
      unfold rs_Ta_readNumber_4_b
      rcases Nat.lt_or_ge p n with w | w
      · have b := h2 p w
        by_cases e2 : B p < nI 48
        · simp (disch := omega) only [bl_lit, lgl, lgg, lgl0, lgg0, lglm, lggm, az_us, az_un, az_ue, az_urn, az_ure, bz_lit, nI_leI, nI_ltI, nI_eq, nI_clamp, nI_add, pk_sub, pk_mul, bz_nlt, bz_nle, bz_ltn, bz_len, bz_neq, bz_eqn, bz_nn, ↓reduceIte, Bool.false_eq_true, if_pos, if_neg, h1, h3, b, e2, r, Option.map_some]
        · have e3 : nI 57 < B p := by
            by_cases e3 : nI 57 < B p
            · exact e3
            · exact absurd ⟨w, e2, e3⟩ dg
          simp (disch := omega) only [bl_lit, lgl, lgg, lgl0, lgg0, lglm, lggm, az_us, az_un, az_ue, az_urn, az_ure, bz_lit, nI_leI, nI_ltI, nI_eq, nI_clamp, nI_add, pk_sub, pk_mul, bz_nlt, bz_nle, bz_ltn, bz_len, bz_neq, bz_eqn, bz_nn, ↓reduceIte, Bool.false_eq_true, if_pos, if_neg, h1, h3, b, e2, e3, r, Option.map_some]
      · simp (disch := omega) only [bl_lit, lgl, lgg, lgl0, lgg0, lglm, lggm, az_us, az_un, az_ue, az_urn, az_ure, bz_lit, nI_leI, nI_ltI, nI_eq, nI_clamp, nI_add, pk_sub, pk_mul, bz_nlt, bz_nle, bz_ltn, bz_len, bz_neq, bz_eqn, bz_nn, ↓reduceIte, Bool.false_eq_true, if_pos, if_neg, h1, h3, r, Option.map_some]
theorem xp_fail {I : Nat → Nat → Int32} {p z : Nat} (ht : tl = 16 ∨ tl = 21) (h : xst tl n B I p z) (hz : z ≤ p) (hp : p ≤ n) (hn : n ≤ 120) : rs_Ta_fail I = some (az_u I 14 3 (nI p)) ∧ xer tl I p (az_u I 14 3 (nI p)) := by
  obtain ⟨h1, h2, h3, h4, h5⟩ := h
  refine ⟨?_, (az_fr.refl (S := F_x tl)).u (by unfold F_x; omega), az_us, ⟨p, by omega, ?_⟩, z, by omega, ?_⟩
  · unfold rs_Ta_fail
    rw [h4, h3, if_neg (by decide)]
  · rw [az_un (by omega)]; exact h3
  · rw [az_un (by omega)]; exact h5
theorem xp_base {rec : az_GT} {I : Nat → Nat → Int32} {p z d : Nat} (ht : tl = 16 ∨ tl = 21) (hn : n ≤ 120) (hd : d ≤ 6) (h : xst tl n B I p z) (hz : z ≤ p) (hp : p ≤ n) (hb : p < n → d < 6 → B p ≠ nI 33 ∧ B p ≠ nI 45 ∧ B p ≠ nI 40) : ∃ I', rs_Ta_readOperand rec tl I (nI d) = some I' ∧ xqq tl n B I z (p0 n B p) I' := by
  have h' := h
  obtain ⟨h1, h2, h3, h4, h5⟩ := h
  obtain ⟨fl, fe⟩ := xp_fail ht h' hz hp hn
  have nm1 : rs_Ta_nameOf (-nI 1) = some (-nI 1) := by decide
  have m1 : -nI 1 < nI 0 := by decide
  unfold rs_Ta_readOperand p0
  by_cases dg : pdg n B p
  · rw [if_pos dg]
    obtain ⟨A', r, q⟩ := xp_num (B := B) ht hn (z0 := z) (by omega) 4 I p (nI 0) 100000 (by omega) (xo_0 h') hp (by omega)
    refine ⟨A', ?_, q⟩
    have r' : rs_Ta_readNumber tl I = some A' := r
    obtain ⟨e1, e2, e3⟩ := dg
    have b := h2 p e1
    simp (disch := omega) only [bl_lit, lgl, lgg, lgl0, lgg0, lglm, lggm, az_us, az_un, az_ue, az_urn, az_ure, bz_lit, nI_leI, nI_ltI, nI_eq, nI_clamp, nI_add, pk_sub, pk_mul, bz_nlt, bz_nle, bz_ltn, bz_len, bz_neq, bz_eqn, bz_nn, ↓reduceIte, Bool.false_eq_true, if_pos, if_neg, h1, h3, b, e2, e3, r']
  · rw [if_neg dg]
    rcases Nat.lt_or_ge p n with w | w
    · rw [if_pos w]
      have b := h2 p w
      have nm := nmo_X (B p)
      cases e : nmo (B p) with
      | some i =>
        rw [e] at nm
        obtain ⟨hi, h57⟩ := nmo_lt e
        replace h57 : nI 57 < B p := h57
        obtain ⟨A', r, q⟩ := xo_add ht (xo_app ht (xo_0 h') (xo_0 (xs_take ht h'))) (by show z + 0 < 121; omega) 110 (nI i)
        replace r : rs_La_add tl (az_u I 14 2 (nI (p + 1))) (nI 110) (nI i) = some (nI z, A') := r
        refine ⟨A', ?_, q⟩
        (try dsimp only at nm)
        by_cases e2 : B p < nI 48
        · simp (disch := omega) only [bl_lit, lgl, lgg, lgl0, lgg0, lglm, lggm, az_us, az_un, az_ue, az_urn, az_ure, bz_lit, nI_leI, nI_ltI, nI_eq, nI_clamp, nI_add, pk_sub, pk_mul, bz_nlt, bz_nle, bz_ltn, bz_len, bz_neq, bz_eqn, bz_nn, ↓reduceIte, Bool.false_eq_true, if_pos, if_neg, h1, h3, b, e2, nm, r]
        · simp (disch := omega) only [bl_lit, lgl, lgg, lgl0, lgg0, lglm, lggm, az_us, az_un, az_ue, az_urn, az_ure, bz_lit, nI_leI, nI_ltI, nI_eq, nI_clamp, nI_add, pk_sub, pk_mul, bz_nlt, bz_nle, bz_ltn, bz_len, bz_neq, bz_eqn, bz_nn, ↓reduceIte, Bool.false_eq_true, if_pos, if_neg, h1, h3, b, e2, h57, nm, r]
      | none =>
        rw [e] at nm
        (try dsimp only at nm)
        refine ⟨_, ?_, fe⟩
        by_cases d6 : d < 6
        · obtain ⟨b1, b2, b3⟩ := hb w d6
          by_cases e2 : B p < nI 48
          · simp (disch := omega) only [bl_lit, lgl, lgg, lgl0, lgg0, lglm, lggm, az_us, az_un, az_ue, az_urn, az_ure, bz_lit, nI_leI, nI_ltI, nI_eq, nI_clamp, nI_add, pk_sub, pk_mul, bz_nlt, bz_nle, bz_ltn, bz_len, bz_neq, bz_eqn, bz_nn, ↓reduceIte, Bool.false_eq_true, if_pos, if_neg, h1, h3, b, e2, nm, m1, b1, b2, b3, fl]
          · have e3 : nI 57 < B p := by
              by_cases e3 : nI 57 < B p
              · exact e3
              · exact absurd ⟨w, e2, e3⟩ dg
            simp (disch := omega) only [bl_lit, lgl, lgg, lgl0, lgg0, lglm, lggm, az_us, az_un, az_ue, az_urn, az_ure, bz_lit, nI_leI, nI_ltI, nI_eq, nI_clamp, nI_add, pk_sub, pk_mul, bz_nlt, bz_nle, bz_ltn, bz_len, bz_neq, bz_eqn, bz_nn, ↓reduceIte, Bool.false_eq_true, if_pos, if_neg, h1, h3, b, e2, e3, nm, m1, b1, b2, b3, fl]
        · by_cases e2 : B p < nI 48
          · simp (disch := omega) only [bl_lit, lgl, lgg, lgl0, lgg0, lglm, lggm, az_us, az_un, az_ue, az_urn, az_ure, bz_lit, nI_leI, nI_ltI, nI_eq, nI_clamp, nI_add, pk_sub, pk_mul, bz_nlt, bz_nle, bz_ltn, bz_len, bz_neq, bz_eqn, bz_nn, ↓reduceIte, Bool.false_eq_true, if_pos, if_neg, h1, h3, b, e2, nm, m1, fl]
          · have e3 : nI 57 < B p := by
              by_cases e3 : nI 57 < B p
              · exact e3
              · exact absurd ⟨w, e2, e3⟩ dg
            simp (disch := omega) only [bl_lit, lgl, lgg, lgl0, lgg0, lglm, lggm, az_us, az_un, az_ue, az_urn, az_ure, bz_lit, nI_leI, nI_ltI, nI_eq, nI_clamp, nI_add, pk_sub, pk_mul, bz_nlt, bz_nle, bz_ltn, bz_len, bz_neq, bz_eqn, bz_nn, ↓reduceIte, Bool.false_eq_true, if_pos, if_neg, h1, h3, b, e2, e3, nm, m1, fl]
    · rw [if_neg (show ¬ p < n by omega)]
      refine ⟨_, ?_, fe⟩
      by_cases d6 : d < 6
      · simp (disch := omega) only [bl_lit, lgl, lgg, lgl0, lgg0, lglm, lggm, az_us, az_un, az_ue, az_urn, az_ure, bz_lit, nI_leI, nI_ltI, nI_eq, nI_clamp, nI_add, pk_sub, pk_mul, bz_nlt, bz_nle, bz_ltn, bz_len, bz_neq, bz_eqn, bz_nn, ↓reduceIte, Bool.false_eq_true, if_pos, if_neg, h1, h3, nm1, m1, fl]
      · simp (disch := omega) only [bl_lit, lgl, lgg, lgl0, lgg0, lglm, lggm, az_us, az_un, az_ue, az_urn, az_ure, bz_lit, nI_leI, nI_ltI, nI_eq, nI_clamp, nI_add, pk_sub, pk_mul, bz_nlt, bz_nle, bz_ltn, bz_len, bz_neq, bz_eqn, bz_nn, ↓reduceIte, Bool.false_eq_true, if_pos, if_neg, h1, h3, nm1, m1, fl]
theorem xp_close {I0 A : Nat → Nat → Int32} {z0 q : Nat} {c : pc_T} (ht : tl = 16 ∨ tl = 21) (hn : n ≤ 120) (h : xok tl n B I0 z0 q c A) (hz : z0 + c.length ≤ q) (hq : q ≤ n) (v : pv_T) :
    ∃ A', rs_Ta_closeBracket A = some A' ∧ xqq tl n B I0 z0 (if q < n ∧ B q = nI 41 then .ok (q + 1, c, v) else .error q) A' := by
  obtain ⟨h1, h2, h3, h4, h5⟩ := h.1
  obtain ⟨fl, fe⟩ := xp_fail ht h.1 hz hq hn
  have m1 : ¬ nI 0 ≤ -nI 1 := by decide
  unfold rs_Ta_closeBracket
  rcases Nat.lt_or_ge q n with w | w
  · have b := h2 q w
    by_cases e : B q = nI 41
    · rw [if_pos (show q < n ∧ B q = nI 41 from ⟨w, e⟩)]
      refine ⟨az_u A 14 2 (nI (q + 1)), by simp (disch := omega) only [bl_lit, lgl, lgg, lgl0, lgg0, lglm, lggm, az_us, az_un, az_ue, az_urn, az_ure, bz_lit, nI_leI, nI_ltI, nI_eq, nI_clamp, nI_add, pk_sub, pk_mul, bz_nlt, bz_nle, bz_ltn, bz_len, bz_neq, bz_eqn, bz_nn, ↓reduceIte, Bool.false_eq_true, if_pos, if_neg, h1, h3, h4, b, e, m1], ?_⟩
      have := xo_app ht h (xo_0 (xs_take ht h.1))
      rw [List.append_nil] at this
      exact this
    · rw [if_neg (show ¬ (q < n ∧ B q = nI 41) from fun z => e z.2)]
      exact ⟨az_u A 14 3 (nI q), by simp (disch := omega) only [bl_lit, lgl, lgg, lgl0, lgg0, lglm, lggm, az_us, az_un, az_ue, az_urn, az_ure, bz_lit, nI_leI, nI_ltI, nI_eq, nI_clamp, nI_add, pk_sub, pk_mul, bz_nlt, bz_nle, bz_ltn, bz_len, bz_neq, bz_eqn, bz_nn, ↓reduceIte, Bool.false_eq_true, if_pos, if_neg, h1, h3, b, e, fl], h.2.2.2.trans fe.1, fe.2⟩
  · rw [if_neg (show ¬ (q < n ∧ B q = nI 41) from fun z => by omega)]
    exact ⟨az_u A 14 3 (nI q), by simp (disch := omega) only [bl_lit, lgl, lgg, lgl0, lgg0, lglm, lggm, az_us, az_un, az_ue, az_urn, az_ure, bz_lit, nI_leI, nI_ltI, nI_eq, nI_clamp, nI_add, pk_sub, pk_mul, bz_nlt, bz_nle, bz_ltn, bz_len, bz_neq, bz_eqn, bz_nn, ↓reduceIte, Bool.false_eq_true, if_pos, if_neg, h1, h3, fl], h.2.2.2.trans fe.1, fe.2⟩
theorem xp_closeE {I0 A : Nat → Nat → Int32} {e : Nat} (ht : tl = 16 ∨ tl = 21) (hn : n ≤ 120) (h : xer tl I0 e A) (he : e ≤ 121) (h1 : A 14 1 = nI n) : ∃ A', rs_Ta_closeBracket A = some A' ∧ xer tl I0 e A' := by
  obtain ⟨g1, g2, ⟨q, hq, g3⟩, z, hz, g4⟩ := h
  have fl : rs_Ta_fail A = some A := by
    unfold rs_Ta_fail
    rw [g2, if_pos (nI_pos' (by omega))]
  have e0 : nI 0 ≤ nI e := nI_pos' (by omega)
  unfold rs_Ta_closeBracket
  rcases Nat.lt_or_ge q n with w | w
  · by_cases b : A 15 q = nI 41
    · refine ⟨az_u A 14 2 (nI (q + 0)), by simp (disch := omega) only [bl_lit, lgl, lgg, lgl0, lgg0, lglm, lggm, az_us, az_un, az_ue, az_urn, az_ure, bz_lit, nI_leI, nI_ltI, nI_eq, nI_clamp, nI_add, pk_sub, pk_mul, bz_nlt, bz_nle, bz_ltn, bz_len, bz_neq, bz_eqn, bz_nn, ↓reduceIte, Bool.false_eq_true, if_pos, if_neg, h1, g2, g3, b, e0], g1.u (by unfold F_x; omega), ?_, ⟨q, hq, az_us⟩, z, hz, ?_⟩
      · rw [az_un (by omega)]; exact g2
      · rw [az_un (by omega)]; exact g4
    · exact ⟨A, by simp (disch := omega) only [bl_lit, lgl, lgg, lgl0, lgg0, lglm, lggm, az_us, az_un, az_ue, az_urn, az_ure, bz_lit, nI_leI, nI_ltI, nI_eq, nI_clamp, nI_add, pk_sub, pk_mul, bz_nlt, bz_nle, bz_ltn, bz_len, bz_neq, bz_eqn, bz_nn, ↓reduceIte, Bool.false_eq_true, if_pos, if_neg, h1, g3, b, fl], g1, g2, ⟨q, hq, g3⟩, z, hz, g4⟩
  · exact ⟨A, by simp (disch := omega) only [bl_lit, lgl, lgg, lgl0, lgg0, lglm, lggm, az_us, az_un, az_ue, az_urn, az_ure, bz_lit, nI_leI, nI_ltI, nI_eq, nI_clamp, nI_add, pk_sub, pk_mul, bz_nlt, bz_nle, bz_ltn, bz_len, bz_neq, bz_eqn, bz_nn, ↓reduceIte, Bool.false_eq_true, if_pos, if_neg, h1, g3, fl], g1, g2, ⟨q, hq, g3⟩, z, hz, g4⟩
theorem xp_op (ht : tl = 16 ∨ tl = 21) (hn : n ≤ 120) : ∀ m, m ≤ 6 → ∀ g, 7 * m + 1 ≤ g → XP tl n B (fun I => rs_G1 tl g 71 (nI (6 - m)) 0 0 0 I) (pop n B m) := by
  intro m
  induction m with
  | zero =>
    intro _ g hg I p z h hz hp
    obtain ⟨g, rfl⟩ : ∃ g', g = g' + 1 := ⟨g - 1, by omega⟩
    obtain ⟨I', r, q⟩ := xp_base (B := B) (rec := rs_G1 tl g) (d := 6) ht hn (by omega) h hz hp (fun _ w => absurd w (by omega))
    refine ⟨I', ?_, q⟩
    show (rs_Ta_readOperand (rs_G1 tl g) tl I (nI 6)).map _ = _
    rw [r]
    rfl
  | succ m ih =>
    intro hm g hg I p z h hz hp
    obtain ⟨g, rfl⟩ : ∃ g', g = g' + 6 + 1 := ⟨g - 7, by omega⟩
    have X1 := ih (by omega) (g + 6) (by omega)
    have X2 := xp_ex (B := B) ht hn (by omega) (pop_g m) (ih (by omega) g (by omega))
    have nm33 : rs_Ta_nameOf (nI 33) = some (-nI 1) := by decide
    have nm45 : rs_Ta_nameOf (nI 45) = some (-nI 1) := by decide
    have nm40 : rs_Ta_nameOf (nI 40) = some (-nI 1) := by decide
    have m1 : -nI 1 < nI 0 := by decide
    have dd : nI (6 - (m + 1)) + nI 1 = nI (6 - m) := by rw [nI_add, show 6 - (m + 1) + 1 = 6 - m by omega]
    have d6 : nI (6 - (m + 1)) < nI 6 := by rw [nI_ltI (by omega) (by omega)]; omega
    show ∃ I', (rs_Ta_readOperand (rs_G1 tl (g + 6)) tl I (nI (6 - (m + 1)))).map _ = _ ∧ _
    obtain ⟨h1, h2, h3, h4, h5⟩ := h
    have h : xst tl n B I p z := ⟨h1, h2, h3, h4, h5⟩
    by_cases c33 : p < n ∧ B p = nI 33
    · have b := h2 p c33.1
      rw [c33.2] at b
      obtain ⟨A, r, q⟩ := X1 (az_u I 14 2 (nI (p + 1))) (p + 1) z (xs_take ht h) (by omega) (by omega)
      replace r : rs_G1 tl (g + 6) 71 (nI (6 - m)) (nI 0) (nI 0) (nI 0) (az_u I 14 2 (nI (p + 1))) = some (nI 0, A) := r
      have gd := pop_g (n := n) (B := B) m (p + 1) (by omega)
      have st : ∀ A', rs_Ta_readOperand_112 (rs_G1 tl (g + 6)) tl A (nI 33) = some A' → rs_Ta_readOperand (rs_G1 tl (g + 6)) tl I (nI (6 - (m + 1))) = some A' := by
        intro A' hA
        unfold rs_Ta_readOperand rs_Ta_readOperand_78
        simp only [bz_lit, dd]
        simp (disch := omega) only [bl_lit, lgl, lgg, lgl0, lgg0, lglm, lggm, az_us, az_un, az_ue, az_urn, az_ure, bz_lit, nI_leI, nI_ltI, nI_eq, nI_clamp, nI_add, pk_sub, pk_mul, bz_nlt, bz_nle, bz_ltn, bz_len, bz_neq, bz_eqn, bz_nn, ↓reduceIte, Bool.false_eq_true, if_pos, if_neg, h1, h3, b, nm33, m1, d6, r, hA]
      rw [show pop n B (m + 1) p = _ from if_pos c33]
      cases e : pop n B m (p + 1) with
      | error x =>
        rw [e] at q
        obtain ⟨y, A', r2, q2⟩ := xe_add ht (xe_take q) 33 0
        exact ⟨A', by rw [st A' (by unfold rs_Ta_readOperand_112; rw [show rs_La_add tl A (nI 33) 0 = _ from r2])]; rfl, q2⟩
      | ok y =>
        obtain ⟨q', c, v⟩ := y
        rw [e] at q gd
        obtain ⟨d1, d2, d3, d4⟩ := gd
        obtain ⟨A', r2, q2⟩ := xo_add ht (xo_app ht (xo_0 h) q) (by show z + c.length < 121; omega) 33 0
        exact ⟨A', by rw [st A' (by unfold rs_Ta_readOperand_112; rw [show rs_La_add tl A (nI 33) 0 = _ from r2])]; rfl, q2⟩
    · rw [show pop n B (m + 1) p = _ from if_neg c33]
      by_cases c45 : p < n ∧ B p = nI 45
      · have b := h2 p c45.1
        rw [c45.2] at b
        obtain ⟨A, r, q⟩ := X1 (az_u I 14 2 (nI (p + 1))) (p + 1) z (xs_take ht h) (by omega) (by omega)
        replace r : rs_G1 tl (g + 6) 71 (nI (6 - m)) (nI 0) (nI 0) (nI 0) (az_u I 14 2 (nI (p + 1))) = some (nI 0, A) := r
        have gd := pop_g (n := n) (B := B) m (p + 1) (by omega)
        have st : ∀ A', rs_Ta_readOperand_112 (rs_G1 tl (g + 6)) tl A (nI 126) = some A' → rs_Ta_readOperand (rs_G1 tl (g + 6)) tl I (nI (6 - (m + 1))) = some A' := by
          intro A' hA
          unfold rs_Ta_readOperand rs_Ta_readOperand_78
          simp only [bz_lit, dd]
          simp (disch := omega) only [bl_lit, lgl, lgg, lgl0, lgg0, lglm, lggm, az_us, az_un, az_ue, az_urn, az_ure, bz_lit, nI_leI, nI_ltI, nI_eq, nI_clamp, nI_add, pk_sub, pk_mul, bz_nlt, bz_nle, bz_ltn, bz_len, bz_neq, bz_eqn, bz_nn, ↓reduceIte, Bool.false_eq_true, if_pos, if_neg, h1, h3, b, nm45, m1, d6, r, hA]
        rw [if_pos c45]
        cases e : pop n B m (p + 1) with
        | error x =>
          rw [e] at q
          obtain ⟨y, A', r2, q2⟩ := xe_add ht (xe_take q) 126 0
          exact ⟨A', by rw [st A' (by unfold rs_Ta_readOperand_112; rw [show rs_La_add tl A (nI 126) 0 = _ from r2])]; rfl, q2⟩
        | ok y =>
          obtain ⟨q', c, v⟩ := y
          rw [e] at q gd
          obtain ⟨d1, d2, d3, d4⟩ := gd
          obtain ⟨A', r2, q2⟩ := xo_add ht (xo_app ht (xo_0 h) q) (by show z + c.length < 121; omega) 126 0
          exact ⟨A', by rw [st A' (by unfold rs_Ta_readOperand_112; rw [show rs_La_add tl A (nI 126) 0 = _ from r2])]; rfl, q2⟩
      · rw [if_neg c45]
        by_cases c40 : p < n ∧ B p = nI 40
        · have b := h2 p c40.1
          rw [c40.2] at b
          obtain ⟨A, r, q⟩ := X2 (az_u I 14 2 (nI (p + 1))) (p + 1) z (xs_take ht h) (by omega) (by omega)
          replace r : rs_G1 tl (g + 6) 69 (nI 0) (nI (6 - m)) (nI 0) (nI 0) (az_u I 14 2 (nI (p + 1))) = some (nI 0, A) := r
          have gd := pex_g (n := n) (B := B) (by omega) (pop_g (B := B) m) (p + 1) (by omega)
          have st : ∀ A', rs_Ta_closeBracket A = some A' → rs_Ta_readOperand (rs_G1 tl (g + 6)) tl I (nI (6 - (m + 1))) = some A' := by
            intro A' hA
            unfold rs_Ta_readOperand rs_Ta_readOperand_78
            simp only [bz_lit, dd]
            simp (disch := omega) only [bl_lit, lgl, lgg, lgl0, lgg0, lglm, lggm, az_us, az_un, az_ue, az_urn, az_ure, bz_lit, nI_leI, nI_ltI, nI_eq, nI_clamp, nI_add, pk_sub, pk_mul, bz_nlt, bz_nle, bz_ltn, bz_len, bz_neq, bz_eqn, bz_nn, ↓reduceIte, Bool.false_eq_true, if_pos, if_neg, h1, h3, b, nm40, m1, d6, r, hA]
          rw [if_pos c40]
          cases e : pex n B (pop n B m) (p + 1) with
          | error x =>
            rw [e] at q gd
            have gd : x ≤ n := gd
            have q' : xer tl I x A := xe_take q
            obtain ⟨A', r2, q2⟩ := xp_closeE ht hn q' (by omega) (by rw [q'.1 14 1 (by unfold F_x; omega)]; exact h1)
            exact ⟨A', by rw [st A' r2]; rfl, q2⟩
          | ok y =>
            obtain ⟨q', c, v⟩ := y
            rw [e] at q gd
            obtain ⟨d1, d2, d3, d4⟩ := gd
            obtain ⟨A', r2, q2⟩ := xp_close ht hn (xo_app ht (xo_0 h) q) (by show z + c.length ≤ q'; omega) d2 v
            exact ⟨A', by rw [st A' r2]; rfl, q2⟩
        · rw [if_neg c40]
          obtain ⟨I', r, q⟩ := xp_base (B := B) (rec := rs_G1 tl (g + 6)) (d := 6 - (m + 1)) ht hn (by omega) h hz hp (fun w _ => ⟨fun q => c33 ⟨w, q⟩, fun q => c45 ⟨w, q⟩, fun q => c40 ⟨w, q⟩⟩)
          exact ⟨I', by rw [r]; rfl, q⟩
end

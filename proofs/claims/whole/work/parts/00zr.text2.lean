/-! THE LAW: the class reads the text -/
theorem lcs_snoc (l : ln_T) : ∀ ls z, lcs z (ls ++ [l]) = lcs z ls ++ lc (z + (lcs z ls).length) l := by
  intro ls
  induction ls with
  | nil => intro z; show lc z l ++ [] = [] ++ lc (z + 0) l; rw [List.append_nil]; rfl
  | cons a ls ih =>
    intro z
    show lc z a ++ lcs (z + (lc z a).length) (ls ++ [l]) = lc z a ++ lcs (z + (lc z a).length) ls ++ lc (z + (lc z a ++ lcs (z + (lc z a).length) ls).length) l
    rw [ih, List.append_assoc, List.length_append, Nat.add_assoc]
section
variable {tl n : Nat} {B : Nat → Int32}
def xtx (tl n : Nat) (B : Nat → Int32) (I0 : Nat → Nat → Int32) (r : Except Nat (List ln_T)) (x : Int32) (I : Nat → Nat → Int32) : Prop := match r with
  | .error e => x = nI e ∧ e ≤ n ∧ az_fr (F_x tl) I0 I
  | .ok ls => x = -nI 1 ∧ az_fr (F_x tl) I0 I ∧ cc I tl 0 (lcs 0 ls) ∧ I tl 4 = nI (lcs 0 ls).length ∧ (lcs 0 ls).length ≤ 121 ∧ ∀ l, l ∈ ls → lg l
theorem xp_lines (ht : tl = 16 ∨ tl = 21) (hn : n ≤ 120) {I0 : Nat → Nat → Int32} : ∀ k A p ls N, k ≤ 120 → xok tl n B I0 0 p (lcs 0 ls) A → (lcs 0 ls).length ≤ p + 1 → p ≤ n → (∀ l, l ∈ ls → lg l) → k + 1 < N →
    ∃ x A', az_lp (fun s : (Int32 × (Nat → Nat → Int32)) => rs_Ta_readInto_28_b tl s.1 s.2) N (nI (120 - k), A) = some (x, A') ∧ xtx tl n B I0 (ptl n B k p ls) x A' := by
  have m1 : ¬ nI 0 ≤ -nI 1 := by decide
  have fin : ∀ A p ls, xok tl n B I0 0 p (lcs 0 ls) A → (lcs 0 ls).length ≤ p + 1 → p ≤ n → (∀ l, l ∈ ls → lg l) → ∃ x A', rs_Ta_readInto_70 tl A = some (x, A') ∧ xtx tl n B I0 (if n ≤ p then .ok ls else .error p) x A' := by
    intro A p ls h hz hp hg
    obtain ⟨h1, h2, h3, h4, h5⟩ := h.1
    rw [Nat.zero_add] at h5
    unfold rs_Ta_readInto_70
    rcases Nat.lt_or_ge p n with w | w
    · rw [if_neg (show ¬ n ≤ p by omega)]
      refine ⟨nI p, az_u A 14 3 (nI p), ?_, rfl, hp, h.2.2.2.u (by unfold F_x; omega)⟩
      have fl : rs_Ta_fail A = some (az_u A 14 3 (nI p)) := by
        unfold rs_Ta_fail
        rw [h4, h3, if_neg (by decide)]
      simp (disch := omega) only [bl_lit, lgl, lgg, lgl0, lgg0, lglm, lggm, az_us, az_un, az_ue, az_urn, az_ure, bz_lit, nI_leI, nI_ltI, nI_eq, nI_clamp, nI_add, pk_sub, pk_mul, bz_nlt, bz_nle, bz_ltn, bz_len, bz_neq, bz_eqn, bz_nn, ↓reduceIte, Bool.false_eq_true, if_pos, if_neg, h1, h3, fl]
    · rw [if_pos w]
      refine ⟨-nI 1, A, by simp (disch := omega) only [bl_lit, lgl, lgg, lgl0, lgg0, lglm, lggm, az_us, az_un, az_ue, az_urn, az_ure, bz_lit, nI_leI, nI_ltI, nI_eq, nI_clamp, nI_add, pk_sub, pk_mul, bz_nlt, bz_nle, bz_ltn, bz_len, bz_neq, bz_eqn, bz_nn, ↓reduceIte, Bool.false_eq_true, if_pos, if_neg, h1, h3, h4], rfl, h.2.2.2, h.2.1, h5, by omega, hg⟩
  intro k
  induction k with
  | zero =>
    intro A p ls N _ h hz hp hg hN
    obtain ⟨N, rfl⟩ : ∃ N', N = N' + 1 := ⟨N - 1, by omega⟩
    obtain ⟨x, A', r, q⟩ := fin A p ls h hz hp hg
    refine ⟨x, A', az_lp_r ?_, q⟩
    show rs_Ta_readInto_28_b tl (nI 120) A = _
    unfold rs_Ta_readInto_28_b
    rw [if_pos (show (120 : Int32) ≤ nI 120 by decide), r]
    rfl
  | succ k ih =>
    intro A p ls N hk h hz hp hg hN
    obtain ⟨N, rfl⟩ : ∃ N', N = N' + 1 + 1 := ⟨N - 2, by omega⟩
    obtain ⟨h1, h2, h3, h4, h5⟩ := h.1
    unfold ptl
    by_cases w : p < n ∧ B p = nI 59
    · rw [if_pos w]
      have b := h2 p w.1
      rw [w.2] at b
      have ht' := xs_take ht h.1
      rw [Nat.zero_add] at ht'
      obtain ⟨A1, r1, q1⟩ := xp_line (B := B) ht hn ht' (by omega) (by omega)
      have g := pln_g (n := n) (B := B) (p := p + 1) (by omega)
      have st : rs_Ta_readInto_28_b tl (nI (120 - (k + 1))) A = some (.inl (nI (120 - (k + 1) + 1), A1)) := by
        unfold rs_Ta_readInto_28_b
        simp (disch := omega) only [bl_lit, lgl, lgg, lgl0, lgg0, lglm, lggm, az_us, az_un, az_ue, az_urn, az_ure, bz_lit, nI_leI, nI_ltI, nI_eq, nI_clamp, nI_add, pk_sub, pk_mul, bz_nlt, bz_nle, bz_ltn, bz_len, bz_neq, bz_eqn, bz_nn, ↓reduceIte, Bool.false_eq_true, if_pos, if_neg, h1, h3, h4, m1, b, r1]
      rw [az_lp_l (b := fun s : (Int32 × (Nat → Nat → Int32)) => rs_Ta_readInto_28_b tl s.1 s.2) (s := (nI (120 - (k + 1)), A)) (s' := (nI (120 - (k + 1) + 1), A1)) st]
      cases e : pln n B (p + 1) with
      | error x =>
        rw [e] at q1 g
        have g : x ≤ n := g
        have q1 : xer tl I0 x A1 := ⟨(h.2.2.2.u (by unfold F_x; omega)).trans q1.1, q1.2⟩
        obtain ⟨t1, t2, ⟨q, hq, t3⟩, t4⟩ := q1
        have x0 : nI 0 ≤ nI x := nI_pos' (by omega)
        have n1 : A1 14 1 = nI n := by
          rw [t1 14 1 (by unfold F_x; omega), ← h.2.2.2 14 1 (by unfold F_x; omega)]; exact h1
        have f70 : rs_Ta_readInto_70 tl A1 = some (nI x, A1) := by
          unfold rs_Ta_readInto_70
          have fl : rs_Ta_fail A1 = some A1 := by
            unfold rs_Ta_fail
            rw [t2, if_pos (show (0 : Int32) ≤ nI x from x0)]
          rcases Nat.lt_or_ge q n with w2 | w2
          · simp (disch := omega) only [bl_lit, lgl, lgg, lgl0, lgg0, lglm, lggm, az_us, az_un, az_ue, az_urn, az_ure, bz_lit, nI_leI, nI_ltI, nI_eq, nI_clamp, nI_add, pk_sub, pk_mul, bz_nlt, bz_nle, bz_ltn, bz_len, bz_neq, bz_eqn, bz_nn, ↓reduceIte, Bool.false_eq_true, if_pos, if_neg, n1, t2, t3, fl]
          · simp (disch := omega) only [bl_lit, lgl, lgg, lgl0, lgg0, lglm, lggm, az_us, az_un, az_ue, az_urn, az_ure, bz_lit, nI_leI, nI_ltI, nI_eq, nI_clamp, nI_add, pk_sub, pk_mul, bz_nlt, bz_nle, bz_ltn, bz_len, bz_neq, bz_eqn, bz_nn, ↓reduceIte, Bool.false_eq_true, if_pos, if_neg, n1, t2, t3]
        refine ⟨nI x, A1, az_lp_r ?_, rfl, g, t1⟩
        show rs_Ta_readInto_28_b tl (nI (120 - (k + 1) + 1)) A1 = _
        unfold rs_Ta_readInto_28_b
        rw [t2, f70]
        by_cases w3 : (120 : Int32) ≤ nI (120 - (k + 1) + 1)
        · rw [if_pos w3]; rfl
        · rw [if_neg w3, if_pos (show (0 : Int32) ≤ nI x from x0)]; rfl
      | ok y =>
        obtain ⟨q, l⟩ := y
        rw [e] at q1 g
        obtain ⟨g1, g2, g3, g4⟩ := g
        have g3 := g3 (lcs 0 ls).length
        have q1 : xok tl n B (az_u A 14 2 (nI (p + 1))) (lcs 0 ls).length q (lc (lcs 0 ls).length l) A1 := q1
        have q2 : xok tl n B I0 0 q (lcs 0 (ls ++ [l])) A1 := by
          rw [lcs_snoc, Nat.zero_add]
          exact xo_app ht h (by rw [Nat.zero_add]; exact q1)
        rw [show 120 - (k + 1) + 1 = 120 - k by omega]
        refine ih A1 q (ls ++ [l]) (N + 1) (by omega) q2 ?_ g2 ?_ (by omega)
        · rw [lcs_snoc, Nat.zero_add, List.length_append]; omega
        · intro a ha
          rcases List.mem_append.mp ha with ha | ha
          · exact hg a ha
          · rw [List.mem_singleton.mp ha]; exact g4
    · rw [if_neg w]
      obtain ⟨x, A', r, q⟩ := fin A p ls h hz hp hg
      refine ⟨x, A', az_lp_r ?_, q⟩
      show rs_Ta_readInto_28_b tl (nI (120 - (k + 1))) A = _
      unfold rs_Ta_readInto_28_b
      rcases Nat.lt_or_ge p n with w1 | w1
      · have b := h2 p w1
        have nb : ¬ B p = nI 59 := fun z => w ⟨w1, z⟩
        simp (disch := omega) only [bl_lit, lgl, lgg, lgl0, lgg0, lglm, lggm, az_us, az_un, az_ue, az_urn, az_ure, bz_lit, nI_leI, nI_ltI, nI_eq, nI_clamp, nI_add, pk_sub, pk_mul, bz_nlt, bz_nle, bz_ltn, bz_len, bz_neq, bz_eqn, bz_nn, ↓reduceIte, Bool.false_eq_true, if_pos, if_neg, h1, h3, h4, m1, b, nb, r, Option.map_some]
      · simp (disch := omega) only [bl_lit, lgl, lgg, lgl0, lgg0, lglm, lggm, az_us, az_un, az_ue, az_urn, az_ure, bz_lit, nI_leI, nI_ltI, nI_eq, nI_clamp, nI_add, pk_sub, pk_mul, bz_nlt, bz_nle, bz_ltn, bz_len, bz_neq, bz_eqn, bz_nn, ↓reduceIte, Bool.false_eq_true, if_pos, if_neg, h1, h3, h4, m1, r, Option.map_some]
/-- the class reads the whole tape -/
theorem xp_text (ht : tl = 16 ∨ tl = 21) (hn : n ≤ 120) {I : Nat → Nat → Int32} (h1 : I 14 1 = nI n) (h2 : ∀ k, k < n → I 15 k = B k) :
    ∃ x I', rs_Ta_readInto tl I = some (x, I') ∧ xtx tl n B (az_u I tl 5 (nI 1)) (ptx n B) x I' := by
  unfold rs_Ta_readInto rs_La_beginText
  (try dsimp only)
  have hs : xst tl n B (az_u (az_u (az_u (az_u I tl 5 1) tl 4 0) 14 2 0) 14 3 (-1)) 0 0 := by
    refine ⟨?_, fun k hk => ?_, ?_, az_us, ?_⟩
    · rw [az_un (by omega), az_un (by omega), az_un (by omega), az_un (by omega)]; exact h1
    · rw [az_un (by omega), az_un (by omega), az_un (by omega), az_un (by omega)]; exact h2 k hk
    · rw [az_un (by omega), az_us]; rfl
    · rw [az_un (by omega), az_un (by omega), az_us]; rfl
  have f0 : az_fr (F_x tl) (az_u I tl 5 (nI 1)) (az_u (az_u (az_u (az_u I tl 5 1) tl 4 0) 14 2 0) 14 3 (-1)) :=
    (((az_fr.refl (S := F_x tl) (f := az_u I tl 5 (nI 1))).u (by unfold F_x; omega)).u (by unfold F_x; omega)).u (by unfold F_x; omega)
  generalize az_u (az_u (az_u (az_u I tl 5 1) tl 4 0) 14 2 0) 14 3 (-1) = A at *
  obtain ⟨A1, r1, q1⟩ := xp_line (B := B) ht hn hs (by omega) (by omega)
  have g := pln_g (n := n) (B := B) (p := 0) (by omega)
  rw [r1]
  (try dsimp only)
  unfold ptx rs_Ta_readInto_28
  cases e : pln n B 0 with
  | error x =>
    rw [e] at q1 g
    have g : x ≤ n := g
    have q1 : xer tl (az_u I tl 5 (nI 1)) x A1 := ⟨f0.trans q1.1, q1.2⟩
    obtain ⟨t1, t2, ⟨q, hq, t3⟩, t4⟩ := q1
    have x0 : nI 0 ≤ nI x := nI_pos' (by omega)
    have n1 : A1 14 1 = nI n := by rw [t1 14 1 (by unfold F_x; omega), az_un (by omega)]; exact h1
    have f70 : rs_Ta_readInto_70 tl A1 = some (nI x, A1) := by
      unfold rs_Ta_readInto_70
      have fl : rs_Ta_fail A1 = some A1 := by
        unfold rs_Ta_fail
        rw [t2, if_pos (show (0 : Int32) ≤ nI x from x0)]
      rcases Nat.lt_or_ge q n with w2 | w2
      · simp (disch := omega) only [bl_lit, lgl, lgg, lgl0, lgg0, lglm, lggm, az_us, az_un, az_ue, az_urn, az_ure, bz_lit, nI_leI, nI_ltI, nI_eq, nI_clamp, nI_add, pk_sub, pk_mul, bz_nlt, bz_nle, bz_ltn, bz_len, bz_neq, bz_eqn, bz_nn, ↓reduceIte, Bool.false_eq_true, if_pos, if_neg, n1, t2, t3, fl]
      · simp (disch := omega) only [bl_lit, lgl, lgg, lgl0, lgg0, lglm, lggm, az_us, az_un, az_ue, az_urn, az_ure, bz_lit, nI_leI, nI_ltI, nI_eq, nI_clamp, nI_add, pk_sub, pk_mul, bz_nlt, bz_nle, bz_ltn, bz_len, bz_neq, bz_eqn, bz_nn, ↓reduceIte, Bool.false_eq_true, if_pos, if_neg, n1, t2, t3]
    refine ⟨nI x, A1, az_lp_r ?_, rfl, g, t1⟩
    show rs_Ta_readInto_28_b tl 0 A1 = _
    unfold rs_Ta_readInto_28_b
    rw [t2, f70, if_neg (by decide), if_pos (show (0 : Int32) ≤ nI x from x0)]
    rfl
  | ok y =>
    obtain ⟨q, l⟩ := y
    rw [e] at q1 g
    obtain ⟨g1, g2, g3, g4⟩ := g
    have g3 := g3 0
    have q1 : xok tl n B A 0 q (lc 0 l) A1 := q1
    have q2 : xok tl n B (az_u I tl 5 (nI 1)) 0 q (lcs 0 [l]) A1 := by
      show xok tl n B (az_u I tl 5 (nI 1)) 0 q (lc 0 l ++ []) A1
      rw [List.append_nil]
      exact ⟨q1.1, q1.2.1, fun j hj => absurd hj (by omega), f0.trans q1.2.2.2⟩
    exact xp_lines ht hn 120 A1 q [l] 100000 (by omega) q2 (by show (lc 0 l ++ []).length ≤ _; rw [List.append_nil]; omega) g2 (fun a ha => by rw [List.mem_singleton.mp ha]; exact g4) (by omega)
end

/-! THE LAW: the reference works the text -/
def fo : List ln_T → (Nat → Int32) → Option Int32
  | [], _ => none
  | l :: ls, f => match lval l f with
    | some x => some x
    | none => fo ls f
theorem fo_vals (f : Nat → Int32) : ∀ ls, lvals ls f = (fo ls f).getD 0 := by
  intro ls
  induction ls with
  | nil => rfl
  | cons l ls ih =>
    show (match lval l f with | some x => x | none => lvals ls f) = (match lval l f with | some x => some x | none => fo ls f).getD 0
    cases lval l f with
    | some x => rfl
    | none => exact ih
def oor (o b : Option Int32) : Option Int32 := match o with | some x => some x | none => b
theorem fo_snoc (f : Nat → Int32) (l : ln_T) : ∀ ls, fo (ls ++ [l]) f = oor (fo ls f) (lval l f) := by
  intro ls
  induction ls with
  | nil =>
    show (match lval l f with | some x => some x | none => none) = lval l f
    cases lval l f <;> rfl
  | cons a ls ih =>
    show (match lval a f with | some x => some x | none => fo (ls ++ [l]) f) = oor (match lval a f with | some x => some x | none => fo ls f) (lval l f)
    cases lval a f with
    | some x => rfl
    | none => exact ih
def en1 (o : Option Int32) : Int32 := match o with | some _ => nI 1 | none => nI 0
def en2 (o : Option Int32) : Int32 := match o with | some x => x | none => nI 0
section
variable {n : Nat} {B : Nat → Int32}
def hd5 (n : Nat) (B : Nat → Int32) (p : Nat) : Int32 := if p < n ∧ B p = nI 59 then nI 1 else nI 0
def hdA (n : Nat) (B : Nat → Int32) (p : Nat) (A : Nat → Nat → Int32) : Nat → Nat → Int32 := if p < n ∧ B p = nI 59 then az_u A 73 15 (nI (p + 1)) else A
theorem mt_line (hn : n ≤ 120) {A : Nat → Nat → Int32} {p : Nat} (h : mst n B A p 0) (hp : p ≤ n) (o : Option Int32) :
    match pln n B p with
    | .error e => ∃ a b A', rs_M_workOut_33_b (en1 o) (en2 o) (nI 1) A = some (.inl (a, b, nI 0, A')) ∧ az_fr F_m A A' ∧ mer n B A' e
    | .ok (q, l) => ∃ A', rs_M_workOut_33_b (en1 o) (en2 o) (nI 1) A = some (.inl (en1 (oor o (lval l (f6 (A 82)))), en2 (oor o (lval l (f6 (A 82)))), hd5 n B q, hdA n B q A')) ∧ az_fr F_m A A' ∧ mst n B A' q 0 := by
  have X := mp_e (B := B) hn
  have g := pe_g (n := n) (B := B) p hp
  have m1 : ¬ nI 0 ≤ -nI 1 := by decide
  obtain ⟨x, A1, r, q⟩ := X A p h hp
  replace r : rs_G3 60 179 (nI 0) (nI 0) (nI 0) (nI 0) A = some (x, A1) := r
  -- the end of a line
  have end96 : ∀ (A' : Nat → Nat → Int32) (q : Nat) (a b : Int32), mst n B A' q 0 → q ≤ n → rs_M_workOut_96 A' a b = some (.inl (a, b, hd5 n B q, hdA n B q A')) := by
    intro A' q a b h hq
    unfold rs_M_workOut_96 hd5 hdA
    rw [show rs_M_takesByte A' 59 = _ from mk_takes hn h hq (c := nI 59) (by decide)]
    by_cases w : q < n ∧ B q = nI 59
    · rw [if_pos w, if_pos w, if_pos w]
    · rw [if_neg w, if_neg w, if_neg w]
  have endE : ∀ (A' : Nat → Nat → Int32) (e : Nat) (a b c d : Int32), mer n B A' e → rs_M_workOut_74 A' a b c d = some (.inl (a, b, nI 0, A')) := by
    intro A' e a b c d h
    have x0 : nI 0 ≤ nI e := nI_pos' (by have := h.2.2.1; omega)
    unfold rs_M_workOut_74 rs_M_workOut_96
    rw [h.2.1, if_pos (show (0 : Int32) ≤ nI e from x0), mk_takesE hn h]
  unfold pln
  cases e : pex n B (pop n B 6) p with
  | error y =>
    rw [e] at q
    refine ⟨en1 o, en2 o, A1, ?_, q⟩
    unfold rs_M_workOut_33_b
    have tk := mk_takesE hn q.2 (nI 63)
    have ee := endE A1 y (en1 o) (en2 o) x (nI 1) q.2
    simp (disch := omega) only [bl_lit, lgl, lgg, lgl0, lgg0, lglm, lggm, az_us, az_un, az_ue, az_urn, az_ure, bz_lit, nI_leI, nI_ltI, nI_eq, nI_clamp, nI_add, pk_sub, pk_mul, bz_nlt, bz_nle, bz_ltn, bz_len, bz_neq, bz_eqn, bz_nn, ↓reduceIte, Bool.false_eq_true, if_pos, if_neg, r, tk, ee]
  | ok y =>
    obtain ⟨q1, c, v⟩ := y
    rw [e] at q g
    obtain ⟨t1, t2, t3⟩ := q
    obtain ⟨d1, d2, d3, d4⟩ := g
    have tk := mk_takes hn t2 d2 (c := nI 63) (by decide)
    (try dsimp only)
    by_cases w : q1 < n ∧ B q1 = nI 63
    · rw [if_pos w] at tk ⊢
      obtain ⟨x2, A2, r2, k2⟩ := X _ (q1 + 1) (ms_take t2) (by omega)
      replace r2 : rs_G3 60 179 (nI 0) (nI 0) (nI 0) (nI 0) (az_u A1 73 15 (nI (q1 + 1))) = some (x2, A2) := r2
      have g' := pe_g (n := n) (B := B) (q1 + 1) (by omega)
      have f0 : az_fr F_m A (az_u A1 73 15 (nI (q1 + 1))) := t1.u (by unfold F_m; omega)
      have e82 : az_u A1 73 15 (nI (q1 + 1)) 82 = A 82 := funext (fun j => f0 82 j (by unfold F_m; omega))
      have go : ∀ y, rs_M_workOut_74 A2 (en1 o) (en2 o) x2 (if x = nI 0 then nI 0 else nI 1) = some y → rs_M_workOut_33_b (en1 o) (en2 o) (nI 1) A = some y := by
        intro y hy
        unfold rs_M_workOut_33_b rs_M_workOut_66
        by_cases x0 : x = nI 0
        · rw [if_pos x0] at hy
          simp (disch := omega) only [bl_lit, lgl, lgg, lgl0, lgg0, lglm, lggm, az_us, az_un, az_ue, az_urn, az_ure, bz_lit, nI_leI, nI_ltI, nI_eq, nI_clamp, nI_add, pk_sub, pk_mul, bz_nlt, bz_nle, bz_ltn, bz_len, bz_neq, bz_eqn, bz_nn, ↓reduceIte, Bool.false_eq_true, if_pos, if_neg, r, tk, x0, r2, hy]
        · rw [if_neg x0] at hy
          simp (disch := omega) only [bl_lit, lgl, lgg, lgl0, lgg0, lglm, lggm, az_us, az_un, az_ue, az_urn, az_ure, bz_lit, nI_leI, nI_ltI, nI_eq, nI_clamp, nI_add, pk_sub, pk_mul, bz_nlt, bz_nle, bz_ltn, bz_len, bz_neq, bz_eqn, bz_nn, ↓reduceIte, Bool.false_eq_true, if_pos, if_neg, r, tk, x0, r2, hy]
      cases e' : pex n B (pop n B 6) (q1 + 1) with
      | error y =>
        rw [e'] at k2
        exact ⟨en1 o, en2 o, A2, go _ (endE A2 y _ _ _ _ k2.2), f0.trans k2.1, k2.2⟩
      | ok y =>
        obtain ⟨q2, c', v'⟩ := y
        rw [e'] at k2 g'
        obtain ⟨u1, u2, u3⟩ := k2
        refine ⟨A2, go _ ?_, f0.trans u1, u2⟩
        have m17 := u2.2.2.1
        have ed := fun a b => end96 A2 q2 a b u2 g'.2.1
        rw [e82] at u3
        show rs_M_workOut_74 A2 (en1 o) (en2 o) x2 (if x = nI 0 then nI 0 else nI 1) = some (.inl (en1 (oor o (if v (f6 (A 82)) = 0 then none else some (v' (f6 (A 82))))), en2 (oor o (if v (f6 (A 82)) = 0 then none else some (v' (f6 (A 82))))), hd5 n B q2, hdA n B q2 A2))
        rw [← t3, ← u3]
        unfold rs_M_workOut_74
        by_cases x0 : x = nI 0
        · rw [if_pos x0, if_pos (show x = 0 from x0)]
          cases o with
          | some z =>
            simp (disch := omega) only [bl_lit, lgl, lgg, lgl0, lgg0, lglm, lggm, az_us, az_un, az_ue, az_urn, az_ure, bz_lit, nI_leI, nI_ltI, nI_eq, nI_clamp, nI_add, pk_sub, pk_mul, bz_nlt, bz_nle, bz_ltn, bz_len, bz_neq, bz_eqn, bz_nn, ↓reduceIte, Bool.false_eq_true, if_pos, if_neg, m17, m1, ed]
            rfl
          | none =>
            simp (disch := omega) only [bl_lit, lgl, lgg, lgl0, lgg0, lglm, lggm, az_us, az_un, az_ue, az_urn, az_ure, bz_lit, nI_leI, nI_ltI, nI_eq, nI_clamp, nI_add, pk_sub, pk_mul, bz_nlt, bz_nle, bz_ltn, bz_len, bz_neq, bz_eqn, bz_nn, ↓reduceIte, Bool.false_eq_true, if_pos, if_neg, m17, m1, ed]
            rfl
        · rw [if_neg x0, if_neg (show ¬ x = 0 from x0)]
          cases o with
          | some z =>
            have z1 : ¬ en1 (some z) = nI 0 := by show ¬ nI 1 = nI 0; decide
            simp (disch := omega) only [bl_lit, lgl, lgg, lgl0, lgg0, lglm, lggm, az_us, az_un, az_ue, az_urn, az_ure, bz_lit, nI_leI, nI_ltI, nI_eq, nI_clamp, nI_add, pk_sub, pk_mul, bz_nlt, bz_nle, bz_ltn, bz_len, bz_neq, bz_eqn, bz_nn, ↓reduceIte, Bool.false_eq_true, if_pos, if_neg, m17, m1, z1, ed]
            rfl
          | none =>
            have z1 : en1 none = nI 0 := rfl
            simp (disch := omega) only [bl_lit, lgl, lgg, lgl0, lgg0, lglm, lggm, az_us, az_un, az_ue, az_urn, az_ure, bz_lit, nI_leI, nI_ltI, nI_eq, nI_clamp, nI_add, pk_sub, pk_mul, bz_nlt, bz_nle, bz_ltn, bz_len, bz_neq, bz_eqn, bz_nn, ↓reduceIte, Bool.false_eq_true, if_pos, if_neg, m17, m1, z1, ed]
            rfl
    · rw [if_neg w] at tk ⊢
      refine ⟨A1, ?_, t1, t2⟩
      have m17 := t2.2.2.1
      have ed := fun a b => end96 A1 q1 a b t2 d2
      show rs_M_workOut_33_b (en1 o) (en2 o) (nI 1) A = some (.inl (en1 (oor o (some (v (f6 (A 82))))), en2 (oor o (some (v (f6 (A 82))))), hd5 n B q1, hdA n B q1 A1))
      rw [← t3]
      unfold rs_M_workOut_33_b rs_M_workOut_74
      cases o with
      | some z =>
        have z1 : ¬ en1 (some z) = nI 0 := by show ¬ nI 1 = nI 0; decide
        simp (disch := omega) only [bl_lit, lgl, lgg, lgl0, lgg0, lglm, lggm, az_us, az_un, az_ue, az_urn, az_ure, bz_lit, nI_leI, nI_ltI, nI_eq, nI_clamp, nI_add, pk_sub, pk_mul, bz_nlt, bz_nle, bz_ltn, bz_len, bz_neq, bz_eqn, bz_nn, ↓reduceIte, Bool.false_eq_true, if_pos, if_neg, r, tk, m17, m1, z1, ed]
        rfl
      | none =>
        have z1 : en1 none = nI 0 := rfl
        simp (disch := omega) only [bl_lit, lgl, lgg, lgl0, lgg0, lglm, lggm, az_us, az_un, az_ue, az_urn, az_ure, bz_lit, nI_leI, nI_ltI, nI_eq, nI_clamp, nI_add, pk_sub, pk_mul, bz_nlt, bz_nle, bz_ltn, bz_len, bz_neq, bz_eqn, bz_nn, ↓reduceIte, Bool.false_eq_true, if_pos, if_neg, r, tk, m17, m1, z1, ed]
        rfl
def mtx (n : Nat) (I0 : Nat → Nat → Int32) (r : Except Nat (List ln_T)) (x : Int32) (I : Nat → Nat → Int32) : Prop := match r with
  | .error e => az_fr F_m I0 I ∧ I 73 17 = nI e ∧ e ≤ n
  | .ok ls => az_fr F_m I0 I ∧ I 73 17 = -nI 1 ∧ x = lvals ls (f6 (I0 82))
theorem mt_lines (hn : n ≤ 120) {I0 : Nat → Nat → Int32} : ∀ k A p ls N, n ≤ p + k → p ≤ n → mst n B A p 0 → az_fr F_m I0 A → k + 2 < N →
    ∃ x A', az_lp (fun s : (Int32 × Int32 × Int32 × (Nat → Nat → Int32)) => rs_M_workOut_33_b s.1 s.2.1 s.2.2.1 s.2.2.2) N (en1 (fo ls (f6 (I0 82))), en2 (fo ls (f6 (I0 82))), hd5 n B p, hdA n B p A) = some (x, A') ∧ mtx n I0 (ptl n B k p ls) x A' := by
  have m1 : ¬ nI 0 ≤ -nI 1 := by decide
  have fin : ∀ A p ls N, ¬ (p < n ∧ B p = nI 59) → p ≤ n → mst n B A p 0 → az_fr F_m I0 A → 0 < N → ∃ x A', az_lp (fun s : (Int32 × Int32 × Int32 × (Nat → Nat → Int32)) => rs_M_workOut_33_b s.1 s.2.1 s.2.2.1 s.2.2.2) N (en1 (fo ls (f6 (I0 82))), en2 (fo ls (f6 (I0 82))), hd5 n B p, hdA n B p A) = some (x, A') ∧ mtx n I0 (if n ≤ p then .ok ls else .error p) x A' := by
    intro A p ls N w hp h f0 hN
    obtain ⟨N, rfl⟩ : ∃ N', N = N' + 1 := ⟨N - 1, by omega⟩
    rw [show hd5 n B p = nI 0 from if_neg w, show hdA n B p A = A from if_neg w]
    have h2 := h.1.2
    have h3 := h.2.1
    have h4 := h.2.2.1
    rcases Nat.lt_or_ge p n with w1 | w1
    · rw [if_neg (show ¬ n ≤ p by omega)]
      obtain ⟨wr, wf, we⟩ := mp_wrong hn h hp
      refine ⟨nI 0, _, az_lp_r ?_, f0.trans wf, we.2.1, hp⟩
      show rs_M_workOut_33_b _ _ (nI 0) A = _
      unfold rs_M_workOut_33_b rs_M_workOut_107
      simp (disch := omega) only [bl_lit, lgl, lgg, lgl0, lgg0, lglm, lggm, az_us, az_un, az_ue, az_urn, az_ure, bz_lit, nI_leI, nI_ltI, nI_eq, nI_clamp, nI_add, pk_sub, pk_mul, bz_nlt, bz_nle, bz_ltn, bz_len, bz_neq, bz_eqn, bz_nn, ↓reduceIte, Bool.false_eq_true, if_pos, if_neg, h2, h3, h4, m1, wr, Option.map_some]
    · rw [if_pos w1]
      refine ⟨en2 (fo ls (f6 (I0 82))), A, az_lp_r ?_, f0, h4, ?_⟩
      · show rs_M_workOut_33_b _ _ (nI 0) A = _
        unfold rs_M_workOut_33_b rs_M_workOut_107
        simp (disch := omega) only [bl_lit, lgl, lgg, lgl0, lgg0, lglm, lggm, az_us, az_un, az_ue, az_urn, az_ure, bz_lit, nI_leI, nI_ltI, nI_eq, nI_clamp, nI_add, pk_sub, pk_mul, bz_nlt, bz_nle, bz_ltn, bz_len, bz_neq, bz_eqn, bz_nn, ↓reduceIte, Bool.false_eq_true, if_pos, if_neg, h2, h3, h4, m1, Option.map_some]
      · rw [fo_vals]
        cases fo ls (f6 (I0 82)) <;> rfl
  intro k
  induction k with
  | zero =>
    intro A p ls N h1 hp h f0 hN
    exact fin A p ls N (by omega) hp h f0 (by omega)
  | succ k ih =>
    intro A p ls N h1 hp h f0 hN
    unfold ptl
    by_cases w : p < n ∧ B p = nI 59
    · rw [if_pos w]
      obtain ⟨N, rfl⟩ : ∃ N', N = N' + 1 + 1 := ⟨N - 2, by omega⟩
      rw [show hd5 n B p = nI 1 from if_pos w, show hdA n B p A = az_u A 73 15 (nI (p + 1)) from if_pos w]
      have L := mt_line (B := B) hn (ms_take h) (by omega) (fo ls (f6 (I0 82)))
      have g := pln_g (n := n) (B := B) (p := p + 1) (by omega)
      have f1 : az_fr F_m I0 (az_u A 73 15 (nI (p + 1))) := f0.u (by unfold F_m; omega)
      have e82 : az_u A 73 15 (nI (p + 1)) 82 = I0 82 := funext (fun j => f1 82 j (by unfold F_m; omega))
      cases e : pln n B (p + 1) with
      | error y =>
        rw [e] at L
        obtain ⟨a, b, A', r, f2, q⟩ := L
        rw [az_lp_l (b := fun s : (Int32 × Int32 × Int32 × (Nat → Nat → Int32)) => rs_M_workOut_33_b s.1 s.2.1 s.2.2.1 s.2.2.2) (s := (en1 (fo ls (f6 (I0 82))), en2 (fo ls (f6 (I0 82))), nI 1, az_u A 73 15 (nI (p + 1)))) (s' := (a, b, nI 0, A')) r]
        refine ⟨b, A', az_lp_r ?_, f1.trans f2, q.2.1, q.2.2.1⟩
        show rs_M_workOut_33_b a b (nI 0) A' = _
        have x0 : nI 0 ≤ nI y := nI_pos' (by have := q.2.2.1; omega)
        unfold rs_M_workOut_33_b rs_M_workOut_107
        rw [if_pos (show nI 0 = 0 from rfl), q.2.1, if_pos (show (0 : Int32) ≤ nI y from x0)]
        rfl
      | ok y =>
        obtain ⟨q, l⟩ := y
        rw [e] at L g
        obtain ⟨A', r, f2, q1⟩ := L
        rw [e82] at r
        rw [← fo_snoc] at r
        rw [az_lp_l (b := fun s : (Int32 × Int32 × Int32 × (Nat → Nat → Int32)) => rs_M_workOut_33_b s.1 s.2.1 s.2.2.1 s.2.2.2) (s := (en1 (fo ls (f6 (I0 82))), en2 (fo ls (f6 (I0 82))), nI 1, az_u A 73 15 (nI (p + 1)))) (s' := (en1 (fo (ls ++ [l]) (f6 (I0 82))), en2 (fo (ls ++ [l]) (f6 (I0 82))), hd5 n B q, hdA n B q A')) r]
        have g1 := g.1
        exact ih A' q (ls ++ [l]) (N + 1) (by omega) g.2.1 q1 (f1.trans f2) (by omega)
    · rw [if_neg w]
      exact fin A p ls N w hp h f0 (by omega)
/-- the whole text -/
theorem mt_text (hn : n ≤ 120) {I : Nat → Nat → Int32} {a : Int32} (ha : (a = -nI 1 ∧ ∀ k, k < n → I 80 k = B k) ∨ (a = nI 0 ∧ ∀ k, k < n → I 81 k = B k)) :
    ∃ x I', rs_M_workOut I a (nI n) = some (x, I') ∧ az_fr (fun r k => r = 73 ∧ 14 ≤ k ∧ k ≤ 18) I I' ∧ (match ptx n B with | .error e => I' 73 17 = nI e ∧ e ≤ n | .ok ls => I' 73 17 = -nI 1 ∧ x = lvals ls (f6 (I 82))) := by
  unfold rs_M_workOut rs_M_workOut_33
  have h : mst n B (az_u (az_u (az_u (az_u (az_u I 73 14 a) 73 15 0) 73 16 (nI n)) 73 17 (-1)) 73 18 0) 0 0 := by
    refine ⟨⟨?_, ?_⟩, ?_, ?_, az_us⟩
    · rcases ha with ⟨a1, a2⟩ | ⟨a1, a2⟩
      · left
        refine ⟨?_, fun k hk => ?_⟩
        · rw [az_un (by omega), az_un (by omega), az_un (by omega), az_un (by omega), az_us]; exact a1
        · rw [az_un (by omega), az_un (by omega), az_un (by omega), az_un (by omega), az_un (by omega)]; exact a2 k hk
      · right
        refine ⟨?_, fun k hk => ?_⟩
        · rw [az_un (by omega), az_un (by omega), az_un (by omega), az_un (by omega), az_us]; exact a1
        · rw [az_un (by omega), az_un (by omega), az_un (by omega), az_un (by omega), az_un (by omega)]; exact a2 k hk
    · rw [az_un (by omega), az_un (by omega), az_us]
    · rw [az_un (by omega), az_un (by omega), az_un (by omega), az_us]; rfl
    · rw [az_un (by omega), az_us]; rfl
  have f0 : az_fr (fun r k => r = 73 ∧ 14 ≤ k ∧ k ≤ 18) I (az_u (az_u (az_u (az_u (az_u I 73 14 a) 73 15 0) 73 16 (nI n)) 73 17 (-1)) 73 18 0) := by
    refine (((((az_fr.refl (S := fun r k => r = 73 ∧ 14 ≤ k ∧ k ≤ 18)).u ?_).u ?_).u ?_).u ?_).u ?_ <;> exact ⟨rfl, by omega, by omega⟩
  generalize az_u (az_u (az_u (az_u (az_u I 73 14 a) 73 15 0) 73 16 (nI n)) 73 17 (-1)) 73 18 0 = A at *
  have e82 : A 82 = I 82 := funext (fun j => f0 82 j (by omega))
  have L := mt_line (B := B) hn h (by omega) none
  have g := pln_g (n := n) (B := B) (p := 0) (by omega)
  have up : ∀ A', az_fr F_m A A' → az_fr (fun r k => r = 73 ∧ 14 ≤ k ∧ k ≤ 18) I A' := fun A' f => f0.trans (f.mono (fun r k z => by unfold F_m at z; (try dsimp only); omega))
  unfold ptx
  cases e : pln n B 0 with
  | error y =>
    rw [e] at L
    obtain ⟨a, b, A', r, f2, q⟩ := L
    refine ⟨b, A', ?_, up A' f2, q.2.1, q.2.2.1⟩
    rw [az_lp_l (b := fun s : (Int32 × Int32 × Int32 × (Nat → Nat → Int32)) => rs_M_workOut_33_b s.1 s.2.1 s.2.2.1 s.2.2.2) (s := (0, 0, 1, A)) (s' := (a, b, nI 0, A')) (n := 99999) r]
    refine az_lp_r (n := 99998) ?_
    show rs_M_workOut_33_b a b (nI 0) A' = _
    have x0 : nI 0 ≤ nI y := nI_pos' (by have := q.2.2.1; omega)
    unfold rs_M_workOut_33_b rs_M_workOut_107
    rw [if_pos (show nI 0 = 0 from rfl), q.2.1, if_pos (show (0 : Int32) ≤ nI y from x0)]
    rfl
  | ok y =>
    obtain ⟨q, l⟩ := y
    rw [e] at L g
    obtain ⟨A', r, f2, q1⟩ := L
    have fl : oor none (lval l (f6 (A 82))) = fo [l] (f6 (A 82)) := by
      show lval l (f6 (A 82)) = (match lval l (f6 (A 82)) with | some x => some x | none => none)
      cases lval l (f6 (A 82)) <;> rfl
    rw [fl] at r
    obtain ⟨x, A2, r2, q2⟩ := mt_lines (B := B) hn (I0 := A) 120 A' q [l] 99999 (by omega) g.2.1 q1 f2 (by omega)
    refine ⟨x, A2, ?_, ?_⟩
    · rw [az_lp_l (b := fun s : (Int32 × Int32 × Int32 × (Nat → Nat → Int32)) => rs_M_workOut_33_b s.1 s.2.1 s.2.2.1 s.2.2.2) (s := (0, 0, 1, A)) (s' := (en1 (fo [l] (f6 (A 82))), en2 (fo [l] (f6 (A 82))), hd5 n B q, hdA n B q A')) (n := 99999) r]
      exact r2
    · (try dsimp only)
      cases e2 : ptl n B 120 q [l] with
      | error y =>
        rw [e2] at q2
        exact ⟨up A2 q2.1, q2.2⟩
      | ok ls =>
        rw [e2] at q2
        obtain ⟨u1, u2, u3⟩ := q2
        rw [e82] at u3
        exact ⟨up A2 u1, u2, u3⟩
end

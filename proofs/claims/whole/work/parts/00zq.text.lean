/-! THE LAW: lines and the text -/
abbrev ln_T : Type := pc_T × pv_T × Option (pc_T × pv_T)
section
variable (n : Nat) (B : Nat → Int32)
/-- one line -/
def pln (p : Nat) : Except Nat (Nat × ln_T) := match pex n B (pop n B 6) p with
  | .error e => .error e
  | .ok (q, c, v) => if q < n ∧ B q = nI 63 then (match pex n B (pop n B 6) (q + 1) with
      | .error e => .error e
      | .ok (q', c', v') => .ok (q', c, v, some (c', v'))) else .ok (q, c, v, none)
/-- all lines -/
def ptl : Nat → Nat → List ln_T → Except Nat (List ln_T)
  | 0, p, ls => if n ≤ p then .ok ls else .error p
  | k + 1, p, ls => if p < n ∧ B p = nI 59 then (match pln n B (p + 1) with
      | .error e => .error e
      | .ok (q, l) => ptl k q (ls ++ [l])) else if n ≤ p then .ok ls else .error p
def ptx : Except Nat (List ln_T) := match pln n B 0 with
  | .error e => .error e
  | .ok (q, l) => ptl n B 120 q [l]
end
/-- a line's orders, from z on -/
def lc (z : Nat) (l : ln_T) : pc_T := match l.2.2 with
  | none => l.1 ++ [(59, 0)]
  | some (c', _) => l.1 ++ [(63, nI (z + l.1.length + 1 + c'.length))] ++ c' ++ [(59, 0)]
def lcs : Nat → List ln_T → pc_T
  | _, [] => []
  | z, l :: ls => lc z l ++ lcs (z + (lc z l).length) ls
/-- a line's value, where it speaks -/
def lval (l : ln_T) (f : Nat → Int32) : Option Int32 := match l.2.2 with
  | none => some (l.2.1 f)
  | some (_, v') => if l.2.1 f = 0 then none else some (v' f)
def lvals : List ln_T → (Nat → Int32) → Int32
  | [], _ => 0
  | l :: ls, f => match lval l f with
    | some x => x
    | none => lvals ls f
def lg (l : ln_T) : Prop := rn 36 l.1 l.2.1 ∧ ∀ c v, l.2.2 = some (c, v) → rn 36 c v
section
variable {tl n : Nat} {B : Nat → Int32}
theorem pln_g {p : Nat} (hp : p ≤ n) : match pln n B p with
  | .error e => e ≤ n
  | .ok (q, l) => p < q ∧ q ≤ n ∧ (∀ z, (lc z l).length ≤ q - p + 1) ∧ lg l := by
  have g := pe_g (n := n) (B := B) p hp
  unfold pln
  cases e : pex n B (pop n B 6) p with
  | error x => rw [e] at g; exact g
  | ok r =>
    obtain ⟨q, c, v⟩ := r
    rw [e] at g
    obtain ⟨g1, g2, g3, g4⟩ := g
    (try dsimp only)
    by_cases z : q < n ∧ B q = nI 63
    · rw [if_pos z]
      have g' := pe_g (n := n) (B := B) (q + 1) (by omega)
      cases e' : pex n B (pop n B 6) (q + 1) with
      | error x => rw [e'] at g'; exact g'
      | ok r =>
        obtain ⟨q', c', v'⟩ := r
        rw [e'] at g'
        obtain ⟨k1, k2, k3, k4⟩ := g'
        refine ⟨by omega, k2, fun z => ?_, g4, fun c2 v2 h => ?_⟩
        · show (c ++ [(63, nI (z + c.length + 1 + c'.length))] ++ c' ++ [(59, 0)]).length ≤ _
          simp only [List.length_append, List.length_cons, List.length_nil]
          omega
        · cases h
          exact k4
    · rw [if_neg z]
      refine ⟨g1, g2, fun z => ?_, g4, fun c2 v2 h => by cases h⟩
      show (c ++ [(59, 0)]).length ≤ _
      simp only [List.length_append, List.length_cons, List.length_nil]
      omega
theorem xo_app2 {I0 A A' : Nat → Nat → Int32} {z0 p q : Nat} {c c' : pc_T} (h : xok tl n B I0 z0 p c A) (h' : xok tl n B A (z0 + c.length) q c' A') : xok tl n B I0 z0 q (c ++ c') A' := by
  obtain ⟨h1, h2, h3, h4⟩ := h
  obtain ⟨g1, g2, g3, g4⟩ := h'
  refine ⟨?_, cc_mk ?_ g2, ?_, h4.trans g4⟩
  · rw [List.length_append, ← Nat.add_assoc]; exact g1
  · intro j x hx
    obtain ⟨hl, _⟩ := List.getElem?_eq_some_iff.mp hx
    obtain ⟨a, b⟩ := g3 (z0 + j) (by omega)
    rw [a, b]
    exact h2 j x hx
  · intro j hj
    obtain ⟨a, b⟩ := g3 j (by omega)
    rw [a, b]
    exact h3 j hj
theorem cc_u {I : Nat → Nat → Int32} {t i k : Nat} {c : pc_T} {v : Int32} (h : cc I t i c) (hk : k < i ∨ i + c.length ≤ k) : cc (az_u I (t + 2) k v) t i c := fun j x hx => by
  obtain ⟨hl, _⟩ := List.getElem?_eq_some_iff.mp hx
  rw [az_un (by omega), az_un (by omega)]
  exact h j x hx
theorem cc_1 {I : Nat → Nat → Int32} {t i : Nat} {a b : Int32} (h1 : I (t + 1) i = a) (h2 : I (t + 2) i = b) : cc I t i [(a, b)] := fun j x hx => by
  obtain ⟨hl, _⟩ := List.getElem?_eq_some_iff.mp hx
  have j0 : j = 0 := by simp only [List.length_singleton] at hl; omega
  subst j0
  cases hx
  exact ⟨h1, h2⟩
theorem xe_join (ht : tl = 16 ∨ tl = 21) {I0 A : Nat → Nat → Int32} {e k : Nat} (h : xer tl I0 e A) (hk : k < 121) (y : Int32) : ∃ A', rs_La_join tl A (nI k) y = some A' ∧ xer tl I0 e A' := by
  have h' := h
  obtain ⟨h1, h2, ⟨q, hq, h3⟩, z, hz, h4⟩ := h
  unfold rs_La_join
  rw [if_neg (show ¬ nI k < 0 from by rw [show (0 : Int32) = nI 0 from rfl, nI_ltI (by omega) (by omega)]; omega)]
  split
  · exact ⟨A, rfl, h'⟩
  · split
    · exact ⟨A, rfl, h'⟩
    · refine ⟨az_u A (tl + 2) k y, by simp (disch := omega) only [bl_lit, lgl, lgg, lgl0, lgg0, lglm, lggm, az_us, az_un, az_ue, az_urn, az_ure, bz_lit, nI_leI, nI_ltI, nI_eq, nI_clamp, nI_add, pk_sub, pk_mul, bz_nlt, bz_nle, bz_ltn, bz_len, bz_neq, bz_eqn, bz_nn, ↓reduceIte, Bool.false_eq_true, if_pos, if_neg], h1.u (by unfold F_x; omega), ?_, ⟨q, hq, ?_⟩, z, hz, ?_⟩
      · rw [az_un (by omega)]; exact h2
      · rw [az_un (by omega)]; exact h3
      · rw [az_un (by omega)]; exact h4
/-- the class reads a line -/
theorem xp_line (ht : tl = 16 ∨ tl = 21) (hn : n ≤ 120) {I : Nat → Nat → Int32} {p z : Nat} (h : xst tl n B I p z) (hz : z ≤ p) (hp : p ≤ n) :
    ∃ I', rs_Ta_readLine tl I = some I' ∧ (match pln n B p with | .error e => xer tl I e I' | .ok (q, l) => xok tl n B I z q (lc z l) I') := by
  have X := xp_ex (B := B) ht hn (by omega) (pop_g (B := B) 6) (xp_op (B := B) ht hn 6 (by omega) 54 (by omega))
  have g := pe_g (n := n) (B := B) p hp
  have m1 : ¬ nI 0 ≤ -nI 1 := by decide
  obtain ⟨A, r, q⟩ := X I p z h hz hp
  replace r : rs_G1 tl 60 69 (nI 0) (nI 0) (nI 0) (nI 0) I = some (nI 0, A) := r
  unfold rs_Ta_readLine rs_Ta_readLine_70 pln
  cases e : pex n B (pop n B 6) p with
  | error x =>
    rw [e] at q g
    have g : x ≤ n := g
    have q : xer tl I x A := q
    have x0 : nI 0 ≤ nI x := nI_pos' (by omega)
    obtain ⟨y, A', r2, q2⟩ := xe_add ht q (nI 59) (nI 0)
    exact ⟨A', by simp (disch := omega) only [bl_lit, lgl, lgg, lgl0, lgg0, lglm, lggm, az_us, az_un, az_ue, az_urn, az_ure, bz_lit, nI_leI, nI_ltI, nI_eq, nI_clamp, nI_add, pk_sub, pk_mul, bz_nlt, bz_nle, bz_ltn, bz_len, bz_neq, bz_eqn, bz_nn, ↓reduceIte, Bool.false_eq_true, if_pos, if_neg, r, q.2.1, x0, r2], q2⟩
  | ok y =>
    obtain ⟨q1, c, v⟩ := y
    rw [e] at q g
    obtain ⟨g1, g2, g3, g4⟩ := g
    have q : xok tl n B I z q1 c A := q
    obtain ⟨h1, h2, h3, h4, h5⟩ := q.1
    (try dsimp only)
    by_cases w : q1 < n ∧ B q1 = nI 63
    · rw [if_pos w]
      have b := h2 q1 w.1
      rw [w.2] at b
      have qt := xo_app ht q (xo_0 (xs_take ht q.1))
      rw [List.append_nil] at qt
      obtain ⟨A1, r1, k1⟩ := xo_add ht qt (by omega) (nI 63) (nI 0)
      have g' := pe_g (n := n) (B := B) (q1 + 1) (by omega)
      obtain ⟨A2, r2, k2⟩ := X A1 (q1 + 1) (z + (c ++ [(nI 63, nI 0)]).length) k1.1 (by rw [List.length_append]; show z + (c.length + 1) ≤ _; omega) (by omega)
      replace r2 : rs_G1 tl 60 69 (nI 0) (nI 0) (nI 0) (nI 0) A1 = some (nI 0, A2) := r2
      have l1 : (c ++ [(nI 63, nI 0)]).length = c.length + 1 := by rw [List.length_append]; rfl
      cases e' : pex n B (pop n B 6) (q1 + 1) with
      | error x =>
        rw [e'] at k2 g'
        have k2 : xer tl A1 x A2 := k2
        have k3 : xer tl I x A2 := ⟨k1.2.2.2.trans k2.1, k2.2⟩
        obtain ⟨y, A3, r3, k4⟩ := xe_add ht k3 (nI 59) (nI 0)
        obtain ⟨A4, r4, k5⟩ := xe_join ht k4 (k := z + c.length) (by omega) y
        exact ⟨A4, by simp (disch := omega) only [bl_lit, lgl, lgg, lgl0, lgg0, lglm, lggm, az_us, az_un, az_ue, az_urn, az_ure, bz_lit, nI_leI, nI_ltI, nI_eq, nI_clamp, nI_add, pk_sub, pk_mul, bz_nlt, bz_nle, bz_ltn, bz_len, bz_neq, bz_eqn, bz_nn, ↓reduceIte, Bool.false_eq_true, if_pos, if_neg, r, h1, h3, h4, m1, b, r1, r2, r3, r4], k5⟩
      | ok y =>
        obtain ⟨q2, c', v'⟩ := y
        rw [e'] at k2 g'
        obtain ⟨f1, f2, f3, f4⟩ := g'
        have k2 : xok tl n B A1 (z + (c ++ [(nI 63, nI 0)]).length) q2 c' A2 := k2
        have k3 := xo_app2 k1 k2
        have l2 : (c ++ [(nI 63, nI 0)] ++ c').length = c.length + 1 + c'.length := by rw [List.length_append, l1]
        obtain ⟨A3, r3, k4⟩ := xo_add ht k3 (by rw [l2]; omega) (nI 59) (nI 0)
        rw [l2] at r3
        have l3 : (c ++ [(nI 63, nI 0)] ++ c' ++ [(nI 59, nI 0)]).length = c.length + 1 + c'.length + 1 := by rw [List.length_append, l2]; rfl
        obtain ⟨⟨s1, s2, s3, s4, s5⟩, s6, s7, s8⟩ := k4
        rw [l3] at s5
        have sz : A3 tl 4 = nI (z + (c.length + 1 + c'.length + 1)) := s5
        refine ⟨az_u A3 (tl + 2) (z + c.length) (nI (z + (c.length + 1 + c'.length))), ?_, ⟨?_, ?_, ?_, ?_, ?_⟩, ?_, ?_, ?_⟩
        · have jn : rs_La_join tl A3 (nI (z + c.length)) (nI (z + (c.length + 1 + c'.length))) = some (az_u A3 (tl + 2) (z + c.length) (nI (z + (c.length + 1 + c'.length)))) := by
            unfold rs_La_join
            simp (disch := omega) only [bl_lit, lgl, lgg, lgl0, lgg0, lglm, lggm, az_us, az_un, az_ue, az_urn, az_ure, bz_lit, nI_leI, nI_ltI, nI_eq, nI_clamp, nI_add, pk_sub, pk_mul, bz_nlt, bz_nle, bz_ltn, bz_len, bz_neq, bz_eqn, bz_nn, ↓reduceIte, Bool.false_eq_true, if_pos, if_neg, sz]
          simp (disch := omega) only [bl_lit, lgl, lgg, lgl0, lgg0, lglm, lggm, az_us, az_un, az_ue, az_urn, az_ure, bz_lit, nI_leI, nI_ltI, nI_eq, nI_clamp, nI_add, pk_sub, pk_mul, bz_nlt, bz_nle, bz_ltn, bz_len, bz_neq, bz_eqn, bz_nn, ↓reduceIte, Bool.false_eq_true, if_pos, if_neg, r, h1, h3, h4, m1, b, r1, r2, r3, jn]
        · rw [az_un (by omega)]; exact s1
        · intro k hk; rw [az_un (by omega)]; exact s2 k hk
        · rw [az_un (by omega)]; exact s3
        · rw [az_un (by omega)]; exact s4
        · rw [az_un (by omega)]
          show A3 tl 4 = nI (z + (c ++ [(63, nI (z + c.length + 1 + c'.length))] ++ c' ++ [(59, 0)]).length)
          rw [sz]
          simp only [List.length_append, List.length_cons, List.length_nil]
        · show cc _ tl z (c ++ [(63, nI (z + c.length + 1 + c'.length))] ++ c' ++ [(59, 0)])
          have t1 := cc_l (cc_l (cc_l s6))
          have t2 := cc_r (cc_l (cc_l s6))
          have t3 := cc_r (cc_l s6)
          have t4 := cc_r s6
          rw [l1] at t3
          rw [l2] at t4
          refine cc_mk (cc_mk (cc_mk (cc_u t1 (Or.inr (Nat.le_refl _))) (cc_1 ?_ ?_)) ?_) ?_
          · rw [az_un (by omega)]; exact (t2 0 _ rfl).1
          · rw [az_us, show z + (c.length + 1 + c'.length) = z + c.length + 1 + c'.length by omega]
          · rw [show (c ++ [((63 : Int32), nI (z + c.length + 1 + c'.length))]).length = c.length + 1 by rw [List.length_append]; rfl]
            exact cc_u t3 (Or.inl (by omega))
          · rw [show (c ++ [((63 : Int32), nI (z + c.length + 1 + c'.length))] ++ c').length = c.length + 1 + c'.length by rw [List.length_append, List.length_append]; rfl]
            exact cc_u t4 (Or.inl (by omega))
        · intro j hj
          rw [az_un (by omega), az_un (by omega)]
          exact s7 j hj
        · exact s8.u (by unfold F_x; omega)
    · rw [if_neg w]
      obtain ⟨A', r2, q2⟩ := xo_add ht q (by omega) (nI 59) (nI 0)
      refine ⟨A', ?_, q2⟩
      rcases Nat.lt_or_ge q1 n with w1 | w1
      · have b := h2 q1 w1
        have nb : ¬ B q1 = nI 63 := fun z => w ⟨w1, z⟩
        simp (disch := omega) only [bl_lit, lgl, lgg, lgl0, lgg0, lglm, lggm, az_us, az_un, az_ue, az_urn, az_ure, bz_lit, nI_leI, nI_ltI, nI_eq, nI_clamp, nI_add, pk_sub, pk_mul, bz_nlt, bz_nle, bz_ltn, bz_len, bz_neq, bz_eqn, bz_nn, ↓reduceIte, Bool.false_eq_true, if_pos, if_neg, r, h1, h3, h4, m1, b, nb, r2]
      · simp (disch := omega) only [bl_lit, lgl, lgg, lgl0, lgg0, lglm, lggm, az_us, az_un, az_ue, az_urn, az_ure, bz_lit, nI_leI, nI_ltI, nI_eq, nI_clamp, nI_add, pk_sub, pk_mul, bz_nlt, bz_nle, bz_ltn, bz_len, bz_neq, bz_eqn, bz_nn, ↓reduceIte, Bool.false_eq_true, if_pos, if_neg, r, h1, h3, h4, m1, r2]
end

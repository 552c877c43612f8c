/-! ROUNDS: the reference's orders -/
theorem az_sim2 {S S' X X' : Type} {b : S → Option (S ⊕ X)} {b' : S' → Option (S' ⊕ X')} {R : S → S' → Prop} {Q : X → X' → Prop}
    (h : ∀ s s' o', R s s' → b' s' = some o' → ∃ o, b s = some o ∧ ((∃ t t', o = .inl t ∧ o' = .inl t' ∧ R t t') ∨ (∃ x x', o = .inr x ∧ o' = .inr x' ∧ Q x x'))) :
    ∀ n s s' x', R s s' → az_lp b' n s' = some x' → ∃ x, az_lp b n s = some x ∧ Q x x' := by
  intro n
  induction n with
  | zero => intro s s' x' _ h; cases h
  | succ n ih =>
    intro s s' x' hr hx
    cases e : b' s' with
    | none => unfold az_lp at hx; rw [e] at hx; cases hx
    | some o' =>
      obtain ⟨o, ho, hor⟩ := h s s' o' hr e
      rcases hor with ⟨t, t', rfl, rfl, hr'⟩ | ⟨x, y, rfl, rfl, hq⟩
      · rw [az_lp_l e] at hx
        obtain ⟨x, x1, x2⟩ := ih t t' x' hr' hx
        exact ⟨x, by rw [az_lp_l ho]; exact x1, x2⟩
      · rw [az_lp_r e] at hx
        cases hx
        exact ⟨x, az_lp_r ho, hq⟩
/-- rows alike by their order -/
def od_R (n : Nat) (P : Nat → Nat) (I I' : Nat → Nat → Int32) : Prop := ∀ k, k < n → ∃ u, 1 ≤ u ∧ u ≤ n ∧ I' 88 k = nI u ∧ I 88 k = nI (P u)
theorem od_le {n : Nat} {P : Nat → Nat} {I I' : Nat → Nat → Int32} (h : od_R n P I I') (hP : ∀ u v, 1 ≤ u → v ≤ n → u < v → P u < P v) (hPb : ∀ u, P u < 100) (hn : n ≤ 5) {i j : Nat} (hi : i < n) (hj : j < n) : (I 88 i ≤ I 88 j) ↔ (I' 88 i ≤ I' 88 j) := by
  obtain ⟨u, u1, u2, u3, u4⟩ := h i hi
  obtain ⟨v, v1, v2, v3, v4⟩ := h j hj
  have b1 := hPb u
  have b2 := hPb v
  rw [u3, u4, v3, v4, nI_leI (by omega) (by omega), nI_leI (by omega) (by omega)]
  rcases Nat.lt_trichotomy u v with q | q | q
  · have := hP u v u1 v2 q; omega
  · subst q; omega
  · have := hP v u v1 u2 q; omega
theorem od_swc (I : Nat → Nat → Int32) (i j k : Nat) : az_u (az_u I 88 i (I 88 j)) 88 j (I 88 i) 88 k = if k = j then I 88 i else if k = i then I 88 j else I 88 k := by
  by_cases e : k = j
  · subst e
    rw [az_us, if_pos rfl]
  · rw [if_neg e, az_un (f := az_u I 88 i (I 88 j)) (by omega)]
    by_cases e2 : k = i
    · subst e2
      rw [az_us, if_pos rfl]
    · rw [if_neg e2, az_un (f := I) (by omega)]
theorem od_sw {n : Nat} {P : Nat → Nat} {I I' : Nat → Nat → Int32} (h : od_R n P I I') {i j : Nat} (hi : i < n) (hj : j < n) : od_R n P (az_u (az_u I 88 i (I 88 j)) 88 j (I 88 i)) (az_u (az_u I' 88 i (I' 88 j)) 88 j (I' 88 i)) := by
  intro k hk
  rw [od_swc, od_swc]
  by_cases e : k = j
  · rw [if_pos e, if_pos e]
    exact h i hi
  · rw [if_neg e, if_neg e]
    by_cases e2 : k = i
    · rw [if_pos e2, if_pos e2]
      exact h j hj
    · rw [if_neg e2, if_neg e2]
      exact h k hk
def od_Q (n : Nat) (P : Nat → Nat) (I : Nat → Nat → Int32) (x x' : Int32 × (Nat → Nat → Int32)) : Prop := x.1 = x'.1 ∧ od_R n P x.2 x'.2 ∧ az_fr (fun r _ => r = 88) I x.2
theorem od_next {n : Nat} {P : Nat → Nat} {I I' : Nat → Nat → Int32} (hn : n ≤ 5) (h : od_R n P I I') (hP : ∀ u v, 1 ≤ u → v ≤ n → u < v → P u < P v) (hPb : ∀ u, P u < 100) {x' : Int32 × (Nat → Nat → Int32)} (hx : rs_M_nextOrder I' (nI n) = some x') : ∃ x, rs_M_nextOrder I (nI n) = some x ∧ od_Q n P I x x' := by
  -- the third loop
  have l100 : ∀ (A A' : Nat → Nat → Int32) (a b : Nat) (y' : Int32 × (Nat → Nat → Int32)), od_R n P A A' → az_fr (fun r _ => r = 88) I A → a ≤ n → b < n → rs_M_nextOrder_100 A' (nI a) (nI b) = some y' → ∃ y, rs_M_nextOrder_100 A (nI a) (nI b) = some y ∧ od_Q n P I y y' := by
    intro A A' a b y' hA fA ha hb hy
    unfold rs_M_nextOrder_100 at hy ⊢
    refine az_sim2 (R := fun (s s' : Int32 × Int32 × (Nat → Nat → Int32)) => s.1 = s'.1 ∧ s.2.1 = s'.2.1 ∧ od_R n P s.2.2 s'.2.2 ∧ az_fr (fun r _ => r = 88) I s.2.2 ∧ ∃ a b : Nat, a ≤ n ∧ b < n ∧ s.1 = nI a ∧ s.2.1 = nI b) ?_ 100000 (nI a, nI b, A) (nI a, nI b, A') y' ⟨rfl, rfl, hA, fA, a, b, ha, hb, rfl, rfl⟩ hy
    intro s s' o' hr ho
    obtain ⟨s1, s2, B⟩ := s
    obtain ⟨t1, t2, B'⟩ := s'
    obtain ⟨e1, e2, hB, fB, a, b, ha, hb, e3, e4⟩ := hr
    (try dsimp only at e1 e2 hB fB e3 e4 ho ⊢)
    subst e1 e2 e3 e4
    unfold rs_M_nextOrder_100_b at ho ⊢
    by_cases z : b ≤ a
    · rw [if_pos (show nI b ≤ nI a from nI_le z (by omega))] at ho ⊢
      cases ho
      exact ⟨_, rfl, Or.inr ⟨_, _, rfl, rfl, rfl, hB, fB⟩⟩
    · have m1 : nI b + -nI 1 = nI (b - 1) := by
        obtain ⟨c, rfl⟩ : ∃ c, b = c + 1 := ⟨b - 1, by omega⟩
        exact pk_m1 c
      have q' : some o' = some (Sum.inl (nI (a + 1), nI (b - 1), az_u (az_u B' 88 a (B' 88 b)) 88 b (B' 88 a))) := by
        rw [← ho]
        simp (disch := omega) only [bl_lit, lgl, lgg, lgl0, lgg0, lglm, lggm, az_us, az_un, az_ue, az_urn, az_ure, bz_lit, nI_leI, nI_ltI, nI_eq, nI_clamp, nI_add, pk_sub, pk_mul, bz_nlt, bz_nle, bz_ltn, bz_len, bz_neq, bz_eqn, bz_nn, ↓reduceIte, Bool.false_eq_true, if_pos, if_neg, m1]
      cases q'
      refine ⟨.inl (nI (a + 1), nI (b - 1), az_u (az_u B 88 a (B 88 b)) 88 b (B 88 a)), by simp (disch := omega) only [bl_lit, lgl, lgg, lgl0, lgg0, lglm, lggm, az_us, az_un, az_ue, az_urn, az_ure, bz_lit, nI_leI, nI_ltI, nI_eq, nI_clamp, nI_add, pk_sub, pk_mul, bz_nlt, bz_nle, bz_ltn, bz_len, bz_neq, bz_eqn, bz_nn, ↓reduceIte, Bool.false_eq_true, if_pos, if_neg, m1], Or.inl ⟨_, _, rfl, rfl, rfl, rfl, od_sw hB (by omega) (by omega), (fB.u rfl).u rfl, a + 1, b - 1, by omega, by omega, rfl, rfl⟩⟩
  have l41 : ∀ (k : Nat) (v : Int32) (y' : Int32 × (Nat → Nat → Int32)), k + 1 < n → (∃ j, j < n ∧ v = nI j) → rs_M_nextOrder_41 I' (nI n) (nI k) v = some y' → ∃ y, rs_M_nextOrder_41 I (nI n) (nI k) v = some y ∧ od_Q n P I y y' := by
    intro k v y' hk hv hy
    unfold rs_M_nextOrder_41 at hy ⊢
    refine az_sim2 (R := fun (s s' : Int32) => s = s' ∧ (s = -nI 1 ∨ ∃ j, j < n ∧ s = nI j)) ?_ 100000 _ _ _ ⟨rfl, Or.inr hv⟩ hy
    intro s s' o' hr ho
    obtain ⟨rfl, hr⟩ := hr
    rcases hr with rfl | ⟨j, hj, rfl⟩
    · exfalso
      unfold rs_M_nextOrder_41_b at ho
      rw [if_pos (Or.inl (show -nI 1 < 0 by decide))] at ho
      cases ho
    · have hle := od_le h hP hPb hn (i := k) (j := j) (by omega) hj
      unfold rs_M_nextOrder_41_b at ho ⊢
      rw [if_neg (nI_in (show j < 5 by omega) (by decide)), if_neg (nI_in (show k < 5 by omega) (by decide)), nI_clamp (n := j) (by omega), nI_clamp (n := k) (by omega)] at ho ⊢
      by_cases z : I' 88 k ≤ I' 88 j
      · rw [if_pos z] at ho
        rw [if_pos (hle.mpr z)]
        cases e : rs_M_nextOrder_62 I' (nI n) (nI k) (nI j) with
        | none => rw [e] at ho; cases ho
        | some y =>
          rw [e] at ho
          cases ho
          unfold rs_M_nextOrder_62 at e ⊢
          have n1 : nI n - nI 1 = nI (n - 1) := pk_sub (by omega)
          have e' : rs_M_nextOrder_100 (az_u (az_u I' 88 k (I' 88 j)) 88 j (I' 88 k)) (nI (k + 1)) (nI (n - 1)) = some y := by
            rw [← e]
            simp (disch := omega) only [bl_lit, lgl, lgg, lgl0, lgg0, lglm, lggm, az_us, az_un, az_ue, az_urn, az_ure, bz_lit, nI_leI, nI_ltI, nI_eq, nI_clamp, nI_add, pk_sub, pk_mul, bz_nlt, bz_nle, bz_ltn, bz_len, bz_neq, bz_eqn, bz_nn, ↓reduceIte, Bool.false_eq_true, if_pos, if_neg]
          obtain ⟨w, w1, w2⟩ := l100 _ _ (k + 1) (n - 1) y (od_sw h (i := k) (j := j) (by omega) hj) (show az_fr (fun r _ => r = 88) I _ from ((az_fr.refl (S := fun r _ => r = 88)).u rfl).u rfl) (by omega) (by omega) e'
          refine ⟨.inr w, ?_, Or.inr ⟨w, y, rfl, rfl, w2⟩⟩
          simp (disch := omega) only [bl_lit, lgl, lgg, lgl0, lgg0, lglm, lggm, az_us, az_un, az_ue, az_urn, az_ure, bz_lit, nI_leI, nI_ltI, nI_eq, nI_clamp, nI_add, pk_sub, pk_mul, bz_nlt, bz_nle, bz_ltn, bz_len, bz_neq, bz_eqn, bz_nn, ↓reduceIte, Bool.false_eq_true, if_pos, if_neg, w1, Option.map_some]
      · rw [if_neg z] at ho
        rw [if_neg (fun q => z (hle.mp q))]
        cases ho
        refine ⟨_, rfl, Or.inl ⟨_, _, rfl, rfl, rfl, ?_⟩⟩
        rcases Nat.eq_zero_or_pos j with q | q
        · subst q
          exact Or.inl (by decide)
        · obtain ⟨c, rfl⟩ : ∃ c, j = c + 1 := ⟨j - 1, by omega⟩
          exact Or.inr ⟨c, by omega, pk_m1 c⟩
  have l31 : ∀ (v : Int32) (y' : Int32 × (Nat → Nat → Int32)), (v < nI 0 ∨ ∃ k, k + 1 < n ∧ v = nI k) → rs_M_nextOrder_31 I' (nI n) v = some y' → ∃ y, rs_M_nextOrder_31 I (nI n) v = some y ∧ od_Q n P I y y' := by
    intro v y' hv hy
    unfold rs_M_nextOrder_31 at hy ⊢
    rcases hv with hv | ⟨k, hk, rfl⟩
    · have nv : ¬ (0 : Int32) ≤ v := by
        rw [Int32.lt_iff_toInt_lt] at hv
        rw [Int32.le_iff_toInt_le]
        have : (nI 0).toInt = (0 : Int32).toInt := rfl
        omega
      rw [if_neg nv] at hy ⊢
      cases hy
      exact ⟨_, rfl, rfl, h, az_fr.refl⟩
    · rw [if_pos (nI_pos' (by omega)), show nI n - 1 = nI (n - 1) from pk_sub (b := 1) (by omega)] at hy ⊢
      exact l41 k _ y' hk ⟨n - 1, by omega, rfl⟩ hy
  unfold rs_M_nextOrder rs_M_nextOrder_4 at hx ⊢
  have st : (nI n - 2 : Int32) < nI 0 ∨ ∃ k, k + 1 < n ∧ (nI n - 2 : Int32) = nI k := by
    rcases Nat.lt_or_ge n 2 with q | q
    · left
      show nI n - nI 2 < nI 0
      rw [sub_lt (by omega) (by omega) (by omega)]
      omega
    · right
      exact ⟨n - 2, by omega, pk_sub (b := 2) q⟩
  refine az_sim2 (R := fun (s s' : Int32) => s = s' ∧ (s < nI 0 ∨ ∃ k, k + 1 < n ∧ s = nI k)) ?_ 100000 _ _ _ ⟨rfl, st⟩ hx
  intro s s' o' hr ho
  obtain ⟨rfl, hr⟩ := hr
  unfold rs_M_nextOrder_4_b at ho ⊢
  have go31 : ∀ {o'}, (rs_M_nextOrder_31 I' (nI n) s).map (fun x => (Sum.inr x : Int32 ⊕ (Int32 × (Nat → Nat → Int32)))) = some o' → ∃ o, (rs_M_nextOrder_31 I (nI n) s).map (fun x => (Sum.inr x : Int32 ⊕ (Int32 × (Nat → Nat → Int32)))) = some o ∧ ((∃ t t', o = .inl t ∧ o' = .inl t' ∧ t = t' ∧ (t < nI 0 ∨ ∃ k, k + 1 < n ∧ t = nI k)) ∨ (∃ x x', o = .inr x ∧ o' = .inr x' ∧ od_Q n P I x x')) := by
    intro o' ho
    cases e : rs_M_nextOrder_31 I' (nI n) s with
    | none => rw [e] at ho; cases ho
    | some y =>
      rw [e] at ho
      cases ho
      obtain ⟨w, w1, w2⟩ := l31 s y hr e
      exact ⟨.inr w, by rw [w1]; rfl, Or.inr ⟨w, y, rfl, rfl, w2⟩⟩
  by_cases z : s < 0
  · rw [if_pos z] at ho ⊢
    exact go31 ho
  · rw [if_neg z] at ho ⊢
    rcases hr with hr | ⟨k, hk, rfl⟩
    · exact absurd hr z
    · have hle := od_le h hP hPb hn (i := k) (j := k + 1) (by omega) hk
      rw [if_neg (nI_in (show k < 5 by omega) (by decide)), show nI k + 1 = nI (k + 1) from nI_add k 1, if_neg (nI_in (show k + 1 < 5 by omega) (by decide)), nI_clamp (n := k) (by omega), nI_clamp (n := k + 1) (by omega)] at ho ⊢
      by_cases z2 : I' 88 k ≤ I' 88 (k + 1)
      · rw [if_pos z2] at ho
        rw [if_pos (hle.mpr z2)]
        exact go31 ho
      · rw [if_neg z2] at ho
        rw [if_neg (fun q => z2 (hle.mp q))]
        cases ho
        refine ⟨_, rfl, Or.inl ⟨_, _, rfl, rfl, rfl, ?_⟩⟩
        rcases Nat.eq_zero_or_pos k with q | q
        · subst q
          exact Or.inl (by decide)
        · obtain ⟨c, rfl⟩ : ∃ c, k = c + 1 := ⟨k - 1, by omega⟩
          exact Or.inr ⟨c, by omega, pk_m1 c⟩
/-- the orders one behind another, on rows of small numbers -/
def toy (l : List Nat) : Nat → Nat → Int32 := fun _ k => nI (l.getD k 0)
def toyn (n : Nat) (l : List Nat) : Option (Int32 × List Int32) := (rs_M_nextOrder (toy l) (nI n)).map (fun p => (p.1, (List.range n).map (fun k => p.2 88 k)))
theorem toy_ok : ∀ n, n < 6 → ∀ i, i < (comps n n []).length → toyn n ((comps n n []).getD i []) = if i + 1 < (comps n n []).length then some (1, ((comps n n []).getD (i + 1) []).map nI) else some (0, ((comps n n []).getD i []).map nI) := by decide +kernel
theorem toy_len : ∀ n, n < 6 → ∀ i, i < (comps n n []).length → ((comps n n []).getD i []).length = n ∧ ∀ k, k < n → 1 ≤ ((comps n n []).getD i []).getD k 0 ∧ ((comps n n []).getD i []).getD k 0 ≤ n := by decide +kernel
theorem toy_0 : ∀ n, n < 6 → 0 < (comps n n []).length ∧ (comps n n []).length ≤ 120 ∧ ∀ k, k < n → ((comps n n []).getD 0 []).getD k 0 = k + 1 := by decide +kernel

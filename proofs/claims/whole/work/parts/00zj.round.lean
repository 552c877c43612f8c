/-! ROUNDS -/
theorem ps_8 (s i : Nat) : ps s i < 8 := by
  unfold ps
  cases e : (List.range 8).find? (fun p => rb s p && gd_n (rb s) p == i) with
  | none => exact (by decide : (0 : Nat) < 8)
  | some p => exact List.mem_range.mp (List.mem_of_find?_eq_some e)
theorem gd_n_mo (u : Nat → Bool) : ∀ a b, a ≤ b → gd_n u a ≤ gd_n u b := by
  intro a b h
  induction b with
  | zero => rw [show a = 0 by omega]; exact Nat.le_refl _
  | succ b ih =>
    by_cases e : a = b + 1
    · subst e; exact Nat.le_refl _
    · have := ih (by omega)
      show gd_n u a ≤ gd_n u b + _
      omega
/-- the stops' cells -/
def tc (c0 : Nat) (pc : Nat → Nat) (s : Nat) : Nat → Nat
  | 0 => c0
  | i + 1 => pc (ps s i)
theorem tc_lt {c0 s : Nat} {pc : Nat → Nat} (h0 : c0 < 144) (hp : ∀ k, k < 8 → pc k < 144) (i : Nat) : tc c0 pc s i < 144 := by
  cases i with
  | zero => exact h0
  | succ i => exact hp _ (ps_8 s i)
theorem cst_le {m : Nat → Nat → Nat} (hm : ∀ i j, m i j ≤ 2178) : ∀ l x, cst m x l ≤ 2178 * (l.length + 1) := by
  intro l
  induction l with
  | nil => intro x; exact hm x 0
  | cons p l ih =>
    intro x
    have := ih p
    have := hm x p
    show m x p + cst m p l ≤ 2178 * (l.length + 1 + 1)
    omega
/-- the best of the first i -/
def bs (C : List Nat → Nat) (l : List (List Nat)) (st : Nat × List Nat) : Nat → Nat × List Nat
  | 0 => st
  | i + 1 => tstep C (bs C l st i) (l.getD i [])
theorem bs_cons (C : List Nat → Nat) (a : List Nat) (l : List (List Nat)) (st : Nat × List Nat) : ∀ k, bs C (a :: l) st (k + 1) = bs C l (tstep C st a) k := by
  intro k
  induction k with
  | zero => rfl
  | succ k ih =>
    show tstep C (bs C (a :: l) st (k + 1)) ((a :: l).getD (k + 1) []) = tstep C (bs C l (tstep C st a) k) (l.getD k [])
    rw [ih]
    rfl
theorem bs_fold (C : List Nat → Nat) : ∀ (l : List (List Nat)) (st : Nat × List Nat), l.foldl (tstep C) st = bs C l st l.length := by
  intro l
  induction l with
  | nil => intro st; rfl
  | cons a l ih =>
    intro st
    rw [List.foldl_cons, ih, List.length_cons, bs_cons]
theorem bs_in {C : List Nat → Nat} {n : Nat} (hn : n < 6) (hC : ∀ l : List Nat, l.length = n → C l < 2147483647) : ∀ i, i < (comps n n []).length → (bs C (comps n n []) (2147483647, []) (i + 1)).2.length = n ∧ (bs C (comps n n []) (2147483647, []) (i + 1)).1 < 2147483647 := by
  intro i
  induction i with
  | zero =>
    intro hi
    have a := (toy_len n hn 0 hi).1
    show (tstep C (2147483647, []) ((comps n n []).getD 0 [])).2.length = n ∧ (tstep C (2147483647, []) ((comps n n []).getD 0 [])).1 < 2147483647
    unfold tstep
    rw [if_pos (hC _ a)]
    exact ⟨a, hC _ a⟩
  | succ i ih =>
    intro hi
    have a := (toy_len n hn (i + 1) hi).1
    have b := ih (by omega)
    show (tstep C (bs C (comps n n []) (2147483647, []) (i + 1)) ((comps n n []).getD (i + 1) [])).2.length = n ∧ (tstep C (bs C (comps n n []) (2147483647, []) (i + 1)) ((comps n n []).getD (i + 1) [])).1 < 2147483647
    unfold tstep
    split
    · exact ⟨a, hC _ a⟩
    · exact b
section
variable {I : Nat → Nat → Int32} {L : lw_T} {h pc pt : Nat → Nat} {he lo sh we : Int32} {rl : Nat}
/-- the class's measures -/
theorem px_tour (hrl : rl = 16 ∨ rl = 21) (hB : lw_B L) {I0 : Nat → Nat → Int32} (q : wX I0 rl L h pc pt) (f0 : az_fr scX I0 I) (p : pq I L h he lo sh we) {s c0 np : Nat} (hnp : np ≤ 8) (c1 : I0 4 3 = nI np) (hs : s < 2 ^ np) (h0 : c0 < 144) (h5 : gd_n (rb s) 8 ≤ 5) :
    ∃ I', rs_X_measureTour I (nI c0) (nI s) = some I' ∧ az_fr scX I0 I' ∧ tr_in I' (gd_n (rb s) 8) (fun i => ps s (i - 1)) (fun i j => am h (tt L he lo sh we) (tc c0 pc s i) (tc c0 pc s j)) := by
  have hs8 : s < 256 := Nat.lt_of_lt_of_le hs (Nat.pow_le_pow_right (by omega) hnp)
  obtain ⟨npn, _⟩ := ps_np np (by omega) s hs
  have ok := q.ok hB he lo sh we
  generalize hn : gd_n (rb s) 8 = n at *
  have hce : ∀ i, tc c0 pc s i < 144 := tc_lt h0 (fun k hk => (q.2.2 k hk).2.1)
  generalize ht : tt L he lo sh we = t at *
  -- the inner row
  have l84 : ∀ (A : Nat → Nat → Int32) (i : Nat), i ≤ n → az_fr scX I0 A → A 39 1 = nI n → (∀ i, i < n → A 40 (i + 1) = nI (ps s i)) → (∀ c, c < 144 → A 33 c = nI (ds_d (dk_W h t true) (tc c0 pc s i) c)) →
      ∃ A', rs_X_measureTour_84 A (nI c0) (nI i) (nI 0) = some (.inl (nI (i + 1), A')) ∧ az_fr (fun r k => r = 41 ∧ 6 * i ≤ k ∧ k < 6 * i + 6) A A' ∧ ∀ j, j ≤ n → A' 41 (6 * i + j) = nI (am h t (tc c0 pc s i) (tc c0 pc s j)) := by
    intro A i hi fA e1 e2 e3
    unfold rs_X_measureTour_84
    have main : ∃ x, az_lp (fun s : (Int32 × (Nat → Nat → Int32)) => rs_X_measureTour_84_b (nI c0) (nI i) s.1 s.2) 100000 (nI 0, A) = some x ∧ ∃ A', x = .inl (nI (i + 1), A') ∧ az_fr (fun r k => r = 41 ∧ 6 * i ≤ k ∧ k < 6 * i + 6) A A' ∧ ∀ j, j < n + 1 → A' 41 (6 * i + j) = nI (am h t (tc c0 pc s i) (tc c0 pc s j)) := by
      refine az_for0 (fun j (z : Int32 × (Nat → Nat → Int32)) => z.1 = nI j ∧ az_fr (fun r k => r = 41 ∧ 6 * i ≤ k ∧ k < 6 * i + 6) A z.2 ∧ ∀ j', j' < j → z.2 41 (6 * i + j') = nI (am h t (tc c0 pc s i) (tc c0 pc s j'))) (n + 1) (by omega) ⟨rfl, az_fr.refl, fun _ q => absurd q (by omega)⟩ ?_ ?_
      · intro j z hj hz
        obtain ⟨v, B⟩ := z
        obtain ⟨z1, z2, z3⟩ := hz
        (try dsimp only at z1 z2 z3)
        subst z1
        have a1 : B 39 1 = nI n := by rw [z2 39 1 (by omega)]; exact e1
        have lst : ∀ c, c < 144 → B 33 c = nI (ds_d (dk_W h t true) (tc c0 pc s i) c) := fun c hc => by rw [z2 33 c (by omega)]; exact e3 c hc
        refine az_nxt (nI (j + 1), az_u B 41 (6 * i + j) (nI (am h t (tc c0 pc s i) (tc c0 pc s j)))) ?_ ⟨rfl, z2.u (by omega), fun j' hj' => ?_⟩
        · (try dsimp only)
          unfold rs_X_measureTour_84_b rs_To_measure
          have b1 := lst _ (hce j)
          rw [show 6 * i = i * 6 from Nat.mul_comm 6 i]
          unfold am
          cases j with
          | zero =>
            have b2 : B 33 c0 = nI (ds_d (dk_W h t true) (tc c0 pc s i) (tc c0 pc s 0)) := b1
            simp (disch := omega) only [bl_lit, lgl, lgg, lgl0, lgg0, lglm, lggm, az_us, az_un, az_ue, az_urn, az_ure, bz_lit, nI_leI, nI_ltI, nI_eq, nI_clamp, nI_add, pk_sub, pk_mul, bz_nlt, bz_nle, bz_ltn, bz_len, bz_neq, bz_eqn, bz_nn, ↓reduceIte, Bool.false_eq_true, if_pos, if_neg, a1, b2]
          | succ j =>
            have b2 : B 33 (pc (ps s j)) = nI (ds_d (dk_W h t true) (tc c0 pc s i) (tc c0 pc s (j + 1))) := b1
            have b3 : B 40 (j + 1) = nI (ps s j) := by rw [z2 40 (j + 1) (by omega)]; exact e2 j (by omega)
            have b4 := ps_8 s j
            have b5 := (q.fr hrl (scX_sc fA)).2.2 _ b4
            have b6 : B 6 (ps s j) = nI (pc (ps s j)) := by rw [z2 6 _ (by omega)]; exact b5.1
            have b7 := b5.2.1
            simp (disch := omega) only [bl_lit, lgl, lgg, lgl0, lgg0, lglm, lggm, az_us, az_un, az_ue, az_urn, az_ure, bz_lit, nI_leI, nI_ltI, nI_eq, nI_clamp, nI_add, pk_sub, pk_mul, bz_nlt, bz_nle, bz_ltn, bz_len, bz_neq, bz_eqn, bz_nn, ↓reduceIte, Bool.false_eq_true, if_pos, if_neg, a1, b2, b3, b6]
        · (try dsimp only)
          rcases Nat.lt_or_ge j' j with w | w
          · rw [az_un (by omega)]; exact z3 j' w
          · rw [show j' = j by omega, az_us]
      · intro z hz
        obtain ⟨v, B⟩ := z
        obtain ⟨z1, z2, z3⟩ := hz
        (try dsimp only at z1 z2 z3)
        subst z1
        have a1 : B 39 1 = nI n := by rw [z2 39 1 (by omega)]; exact e1
        refine ⟨_, ?_, B, rfl, z2, z3⟩
        (try dsimp only)
        unfold rs_X_measureTour_84_b
        simp (disch := omega) only [bl_lit, lgl, lgg, lgl0, lgg0, lglm, lggm, az_us, az_un, az_ue, az_urn, az_ure, bz_lit, nI_leI, nI_ltI, nI_eq, nI_clamp, nI_add, pk_sub, pk_mul, bz_nlt, bz_nle, bz_ltn, bz_len, bz_neq, bz_eqn, bz_nn, ↓reduceIte, Bool.false_eq_true, if_pos, if_neg, a1]
    obtain ⟨x, hx, A', rfl, f', k'⟩ := main
    exact ⟨A', hx, f', fun j hj => k' j (by omega)⟩
  -- the rows
  have l44 : ∀ (A : Nat → Nat → Int32), az_fr scX I0 A → pq A L h he lo sh we → A 39 1 = nI n → (∀ i, i < n → A 40 (i + 1) = nI (ps s i)) →
      ∃ A', rs_X_measureTour_44 A (nI c0) (nI 0) = some A' ∧ az_fr scX I0 A' ∧ tr_in A' n (fun i => ps s (i - 1)) (fun i j => am h t (tc c0 pc s i) (tc c0 pc s j)) := by
    intro A fA pA e1 e2
    unfold rs_X_measureTour_44
    refine az_for0 (fun i (z : Int32 × (Nat → Nat → Int32)) => z.1 = nI i ∧ az_fr scX I0 z.2 ∧ pq z.2 L h he lo sh we ∧ z.2 39 1 = nI n ∧ (∀ i, i < n → z.2 40 (i + 1) = nI (ps s i)) ∧ ∀ i', i' < i → ∀ j, j ≤ n → z.2 41 (6 * i' + j) = nI (am h t (tc c0 pc s i') (tc c0 pc s j))) (n + 1) (by omega) ⟨rfl, fA, pA, e1, e2, fun _ q => absurd q (by omega)⟩ ?_ ?_
    · intro i z hi hz
      obtain ⟨v, B⟩ := z
      obtain ⟨z1, z2, z3, z4, z5, z6⟩ := hz
      (try dsimp only at z1 z2 z3 z4 z5 z6)
      subst z1
      have sp := z3.2.2.2.2.2
      rw [ht] at sp
      obtain ⟨B1, r1, f1, v1⟩ := sp_far ok true (Or.inl rfl) (Or.inl rfl) sp (hce i)
      replace r1 : rs_Fi_spread 26 33 B (nI (tc c0 pc s i)) (nI 0) (-nI 1) = some B1 := r1
      have f1' := z2.trans (f1.mono (fun r k z => by unfold sp_F at z; unfold scX; omega))
      have n1 : B1 39 1 = nI n := by rw [f1 39 1 (by unfold sp_F; omega)]; exact z4
      have n2 : ∀ i, i < n → B1 40 (i + 1) = nI (ps s i) := fun i hi => by rw [f1 40 _ (by unfold sp_F; omega)]; exact z5 i hi
      obtain ⟨B2, r2, f2, v2⟩ := l84 B1 i (by omega) f1' n1 n2 v1
      refine az_nxt (nI (i + 1), B2) ?_ ⟨rfl, f1'.trans (f2.mono (fun r k z => by unfold scX; omega)), ?_, ?_, ?_, ?_⟩
      · (try dsimp only)
        unfold rs_X_measureTour_44_b
        cases i with
        | zero =>
          have r1' : rs_Fi_spread 26 33 B (nI c0) (nI 0) (-nI 1) = some B1 := r1
          simp (disch := omega) only [bl_lit, lgl, lgg, lgl0, lgg0, lglm, lggm, az_us, az_un, az_ue, az_urn, az_ure, bz_lit, nI_leI, nI_ltI, nI_eq, nI_clamp, nI_add, pk_sub, pk_mul, bz_nlt, bz_nle, bz_ltn, bz_len, bz_neq, bz_eqn, bz_nn, ↓reduceIte, Bool.false_eq_true, if_pos, if_neg, z4, r1', r2]
        | succ i =>
          have r1' : rs_Fi_spread 26 33 B (nI (pc (ps s i))) (nI 0) (-nI 1) = some B1 := r1
          have b3 : B 40 (i + 1) = nI (ps s i) := z5 i (by omega)
          have b4 := ps_8 s i
          have b5 := (q.fr hrl (scX_sc z2)).2.2 _ b4
          have b6 := b5.1
          simp (disch := omega) only [bl_lit, lgl, lgg, lgl0, lgg0, lglm, lggm, az_us, az_un, az_ue, az_urn, az_ure, bz_lit, nI_leI, nI_ltI, nI_eq, nI_clamp, nI_add, pk_sub, pk_mul, bz_nlt, bz_nle, bz_ltn, bz_len, bz_neq, bz_eqn, bz_nn, ↓reduceIte, Bool.false_eq_true, if_pos, if_neg, z4, b3, b6, r1', r2]
      · exact (z3.fr (f1.mono (fun r k z => by unfold sp_F at z; (try dsimp only); omega))).fr (f2.mono (fun r k z => by (try dsimp only at z ⊢); omega))
      · (try dsimp only); rw [f2 39 1 (by omega)]; exact n1
      · intro i hi; (try dsimp only); rw [f2 40 _ (by omega)]; exact n2 i hi
      · intro i' hi' j hj
        (try dsimp only)
        rcases Nat.lt_or_ge i' i with w | w
        · rw [f2 41 _ (by omega), f1 41 _ (by unfold sp_F; omega)]
          exact z6 i' w j hj
        · rw [show i' = i by omega]
          exact v2 j hj
    · intro z hz
      obtain ⟨v, B⟩ := z
      obtain ⟨z1, z2, z3, z4, z5, z6⟩ := hz
      (try dsimp only at z1 z2 z3 z4 z5 z6)
      subst z1
      refine ⟨B, ?_, z2, h5, z4, ?_, ?_⟩
      · (try dsimp only)
        unfold rs_X_measureTour_44_b
        simp (disch := omega) only [bl_lit, lgl, lgg, lgl0, lgg0, lglm, lggm, az_us, az_un, az_ue, az_urn, az_ure, bz_lit, nI_leI, nI_ltI, nI_eq, nI_clamp, nI_add, pk_sub, pk_mul, bz_nlt, bz_nle, bz_ltn, bz_len, bz_neq, bz_eqn, bz_nn, ↓reduceIte, Bool.false_eq_true, if_pos, if_neg, z4]
      · intro i a b
        obtain ⟨i, rfl⟩ : ∃ i', i = i' + 1 := ⟨i - 1, by omega⟩
        exact z5 i (by omega)
      · intro i j a b
        exact ⟨z6 i (by omega) j b, gd_d_le ok true (hce i) (hce j)⟩
  unfold rs_X_measureTour rs_To_begin
  (try dsimp only)
  unfold rs_X_measureTour_9
  refine az_for0 (fun k (z : Int32 × (Nat → Nat → Int32)) => z.1 = nI k ∧ az_fr scX I0 z.2 ∧ pq z.2 L h he lo sh we ∧ z.2 39 1 = nI (gd_n (rb s) k) ∧ ∀ i, i < gd_n (rb s) k → z.2 40 (i + 1) = nI (ps s i)) np (by omega) ⟨rfl, f0.u (by unfold scX; omega), p.fr (by intro r k z; exact az_un (by (try dsimp only at z); omega)), (show az_u I 39 1 0 39 1 = 0 from az_us), fun _ q => absurd q (by show ¬ _ < 0; omega)⟩ ?_ ?_
  · intro k z hk hz
    obtain ⟨v, B⟩ := z
    obtain ⟨z1, z2, z3, z4, z5⟩ := hz
    (try dsimp only at z1 z2 z3 z4 z5)
    subst z1
    have a1 : B 4 3 = nI np := by rw [z2 4 3 (by unfold scX; omega)]; exact c1
    have sh := rb_sh s hs8 k (by omega)
    have mo := gd_n_mo (rb s) (k + 1) 8 (by omega)
    cases hb : rb s k with
    | false =>
      rw [hb, if_neg (by decide)] at sh
      have e : gd_n (rb s) (k + 1) = gd_n (rb s) k := by show gd_n (rb s) k + _ = _; rw [hb, if_neg (by decide)]; rfl
      refine az_nxt (nI (k + 1), B) ?_ ⟨rfl, z2, z3, by rw [e]; exact z4, by rw [e]; exact z5⟩
      (try dsimp only)
      unfold rs_X_measureTour_9_b
      simp (disch := omega) only [bl_lit, lgl, lgg, lgl0, lgg0, lglm, lggm, az_us, az_un, az_ue, az_urn, az_ure, bz_lit, nI_leI, nI_ltI, nI_eq, nI_clamp, nI_add, pk_sub, pk_mul, bz_nlt, bz_nle, bz_ltn, bz_len, bz_neq, bz_eqn, bz_nn, ↓reduceIte, Bool.false_eq_true, if_pos, if_neg, a1, sh]
    | true =>
      rw [hb, if_pos rfl] at sh
      have e : gd_n (rb s) (k + 1) = gd_n (rb s) k + 1 := by show gd_n (rb s) k + _ = _; rw [hb, if_pos rfl]
      have pa := (ps_at s hs8 k (by omega) hb).1
      generalize hg : gd_n (rb s) k = g at *
      rw [e, hn] at mo
      refine az_nxt (nI (k + 1), az_u (az_u B 39 1 (nI (g + 1))) 40 (g + 1) (nI k)) ?_ ⟨rfl, (z2.u (by unfold scX; omega)).u (by unfold scX; omega), ?_, ?_, ?_⟩
      · (try dsimp only)
        unfold rs_X_measureTour_9_b rs_To_addStop
        simp (disch := omega) only [bl_lit, lgl, lgg, lgl0, lgg0, lglm, lggm, az_us, az_un, az_ue, az_urn, az_ure, bz_lit, nI_leI, nI_ltI, nI_eq, nI_clamp, nI_add, pk_sub, pk_mul, bz_nlt, bz_nle, bz_ltn, bz_len, bz_neq, bz_eqn, bz_nn, ↓reduceIte, Bool.false_eq_true, if_pos, if_neg, a1, sh, z4]
      · exact z3.fr (by intro r k z; (try dsimp only at z ⊢); rw [az_un (by (try dsimp only at z); omega), az_un (by (try dsimp only at z); omega)])
      · (try dsimp only); rw [e, az_un (by omega), az_us]
      · (try dsimp only)
        rw [e]
        intro i hi
        rcases Nat.lt_or_ge i g with w | w
        · rw [az_un (by omega), az_un (by omega)]; exact z5 i w
        · rw [show i = g by omega, az_us, pa]
  · intro z hz
    obtain ⟨v, B⟩ := z
    obtain ⟨z1, z2, z3, z4, z5⟩ := hz
    (try dsimp only at z1 z2 z3 z4 z5)
    subst z1
    rw [npn] at z4 z5
    have a1 : B 4 3 = nI np := by rw [z2 4 3 (by unfold scX; omega)]; exact c1
    obtain ⟨B1, r1, f1, v1⟩ := l44 B z2 z3 z4 z5
    refine ⟨B1, ?_, f1, v1⟩
    (try dsimp only)
    unfold rs_X_measureTour_9_b
    simp (disch := omega) only [bl_lit, lgl, lgg, lgl0, lgg0, lglm, lggm, az_us, az_un, az_ue, az_urn, az_ure, bz_lit, nI_leI, nI_ltI, nI_eq, nI_clamp, nI_add, pk_sub, pk_mul, bz_nlt, bz_nle, bz_ltn, bz_len, bz_neq, bz_eqn, bz_nn, ↓reduceIte, Bool.false_eq_true, if_pos, if_neg, a1, r1, Option.map_some]
end

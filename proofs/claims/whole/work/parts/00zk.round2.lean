/-! ROUNDS: the reference's -/
def tp (s : Nat) : Nat → Nat
  | 0 => 8
  | i + 1 => ps s i
def ton (s p : Nat) : Prop := p = 8 ∨ rb s p = true
def tcl (c0 : Nat) (pc : Nat → Nat) (p : Nat) : Nat := if p = 8 then c0 else pc p
section
variable {I : Nat → Nat → Int32} {L : lw_T} {h pc pt : Nat → Nat} {he lo sh we : Int32}
theorem pm_apart {I0 : Nat → Nat → Int32} {t : Nat → Nat} (ok : th_ok h t) (q : wM I0 L h pc pt) (f0 : az_fr scM I0 I) (p : dk_in I h t) {s c0 : Nat} (hs : s < 256) (h0 : c0 < 144) :
    ∃ I', rs_M_asksApart I (nI s) (nI c0) = some I' ∧ az_fr scM I0 I' ∧ az_fr (fun r _ => r = 84 ∨ r = 85 ∨ r = 89) I I' ∧ ∀ x, x < 9 → ton s x → ∀ y, y < 9 → ton s y → I' 89 (9 * x + y) = nI (am h t (tcl c0 pc x) (tcl c0 pc y)) := by
  have hce : ∀ x, x < 9 → tcl c0 pc x < 144 := by
    intro x hx
    unfold tcl
    split
    · exact h0
    · exact (q.2.2 x (by omega)).2.1
  have l50 : ∀ (A : Nat → Nat → Int32) (i : Nat), i < 9 → az_fr scM I0 A → (∀ c, c < 144 → A 84 c = nI (ds_d (dk_W h t true) (tcl c0 pc i) c)) →
      ∃ A', rs_M_asksApart_50 A (nI s) (nI c0) (nI i) (nI 0) = some (.inl (nI (i + 1), A')) ∧ az_fr (fun r k => r = 89 ∧ 9 * i ≤ k ∧ k < 9 * i + 9) A A' ∧ ∀ j, j < 9 → ton s j → A' 89 (9 * i + j) = nI (am h t (tcl c0 pc i) (tcl c0 pc j)) := by
    intro A i hi fA e3
    unfold rs_M_asksApart_50
    have main : ∃ x, az_lp (fun z : (Int32 × (Nat → Nat → Int32)) => rs_M_asksApart_50_b (nI s) (nI c0) (nI i) z.1 z.2) 100000 (nI 0, A) = some x ∧ ∃ A', x = .inl (nI (i + 1), A') ∧ az_fr (fun r k => r = 89 ∧ 9 * i ≤ k ∧ k < 9 * i + 9) A A' ∧ ∀ j, j < 9 → ton s j → A' 89 (9 * i + j) = nI (am h t (tcl c0 pc i) (tcl c0 pc j)) := by
      refine az_for0 (fun j (z : Int32 × (Nat → Nat → Int32)) => z.1 = nI j ∧ az_fr (fun r k => r = 89 ∧ 9 * i ≤ k ∧ k < 9 * i + 9) A z.2 ∧ ∀ j', j' < j → ton s j' → z.2 89 (9 * i + j') = nI (am h t (tcl c0 pc i) (tcl c0 pc j'))) 9 (by omega) ⟨rfl, az_fr.refl, fun _ q => absurd q (by omega)⟩ ?_ ?_
      · intro j z hj hz
        obtain ⟨v, B⟩ := z
        obtain ⟨z1, z2, z3⟩ := hz
        (try dsimp only at z1 z2 z3)
        subst z1
        have lst : ∀ c, c < 144 → B 84 c = nI (ds_d (dk_W h t true) (tcl c0 pc i) c) := fun c hc => by rw [z2 84 c (by omega)]; exact e3 c hc
        have sh := rb_sh s hs j (by omega)
        have b1 := lst _ (hce j hj)
        by_cases on : ton s j
        · refine az_nxt (nI (j + 1), az_u B 89 (9 * i + j) (nI (am h t (tcl c0 pc i) (tcl c0 pc j)))) ?_ ⟨rfl, z2.u (by omega), fun j' hj' on' => ?_⟩
          · (try dsimp only)
            unfold rs_M_asksApart_50_b rs_M_asksApart_88 rs_M_asksApart_114 rs_M_asksApart_115
            unfold am
            by_cases j8 : j = 8
            · subst j8
              have b2 : B 84 c0 = nI (ds_d (dk_W h t true) (tcl c0 pc i) (tcl c0 pc 8)) := b1
              simp (disch := omega) only [bl_lit, lgl, lgg, lgl0, lgg0, lglm, lggm, az_us, az_un, az_ue, az_urn, az_ure, bz_lit, nI_leI, nI_ltI, nI_eq, nI_clamp, nI_add, pk_sub, pk_mul, bz_nlt, bz_nle, bz_ltn, bz_len, bz_neq, bz_eqn, bz_nn, ↓reduceIte, Bool.false_eq_true, if_pos, if_neg, b2]
            · have b0 : tcl c0 pc j = pc j := if_neg j8
              rw [b0] at b1 ⊢
              have b5 := (q.fr (scM_sc fA)).2.2 j (by omega)
              have b6 : B 74 (144 + j) = nI (pc j) := by rw [z2 74 _ (by omega)]; exact b5.1
              have b7 := b5.2.1
              have rj : rb s j = true := by rcases on with w | w; exact absurd w j8; exact w
              rw [rj, if_pos rfl] at sh
              simp (disch := omega) only [bl_lit, lgl, lgg, lgl0, lgg0, lglm, lggm, az_us, az_un, az_ue, az_urn, az_ure, bz_lit, nI_leI, nI_ltI, nI_eq, nI_clamp, nI_add, pk_sub, pk_mul, bz_nlt, bz_nle, bz_ltn, bz_len, bz_neq, bz_eqn, bz_nn, ↓reduceIte, Bool.false_eq_true, if_pos, if_neg, sh, b1, b6]
          · (try dsimp only)
            rcases Nat.lt_or_ge j' j with w | w
            · rw [az_un (by omega)]; exact z3 j' w on'
            · rw [show j' = j by omega, az_us]
        · have j8 : j ≠ 8 := fun e => on (Or.inl e)
          have rj : rb s j = false := by
            cases e : rb s j with
            | true => exact absurd (Or.inr e) on
            | false => rfl
          rw [rj, if_neg (by decide)] at sh
          refine az_nxt (nI (j + 1), az_u B 89 (9 * i + j) (nI 0)) ?_ ⟨rfl, z2.u (by omega), fun j' hj' on' => ?_⟩
          · (try dsimp only)
            unfold rs_M_asksApart_50_b rs_M_asksApart_115
            simp (disch := omega) only [bl_lit, lgl, lgg, lgl0, lgg0, lglm, lggm, az_us, az_un, az_ue, az_urn, az_ure, bz_lit, nI_leI, nI_ltI, nI_eq, nI_clamp, nI_add, pk_sub, pk_mul, bz_nlt, bz_nle, bz_ltn, bz_len, bz_neq, bz_eqn, bz_nn, ↓reduceIte, Bool.false_eq_true, if_pos, if_neg, sh]
          · (try dsimp only)
            rcases Nat.lt_or_ge j' j with w | w
            · rw [az_un (by omega)]; exact z3 j' w on'
            · rw [show j' = j by omega] at on'
              exact absurd on' on
      · intro z hz
        obtain ⟨v, B⟩ := z
        obtain ⟨z1, z2, z3⟩ := hz
        (try dsimp only at z1 z2 z3)
        subst z1
        refine ⟨_, ?_, B, rfl, z2, z3⟩
        (try dsimp only)
        unfold rs_M_asksApart_50_b
        simp (disch := omega) only [bl_lit, lgl, lgg, lgl0, lgg0, lglm, lggm, az_us, az_un, az_ue, az_urn, az_ure, bz_lit, nI_leI, nI_ltI, nI_eq, nI_clamp, nI_add, pk_sub, pk_mul, bz_nlt, bz_nle, bz_ltn, bz_len, bz_neq, bz_eqn, bz_nn, ↓reduceIte, Bool.false_eq_true, if_pos, if_neg]
    obtain ⟨x, hx, A', rfl, f', k'⟩ := main
    exact ⟨A', hx, f', k'⟩
  unfold rs_M_asksApart rs_M_asksApart_2
  refine az_for0 (fun i (z : Int32 × (Nat → Nat → Int32)) => z.1 = nI i ∧ az_fr scM I0 z.2 ∧ az_fr (fun r _ => r = 84 ∨ r = 85 ∨ r = 89) I z.2 ∧ dk_in z.2 h t ∧ ∀ x, x < i → ton s x → ∀ y, y < 9 → ton s y → z.2 89 (9 * x + y) = nI (am h t (tcl c0 pc x) (tcl c0 pc y))) 9 (by omega) ⟨rfl, f0, az_fr.refl, p, fun _ q => absurd q (by omega)⟩ ?_ ?_
  · intro i z hi hz
    obtain ⟨v, B⟩ := z
    obtain ⟨z1, z2, z2', z3, z4⟩ := hz
    (try dsimp only at z1 z2 z2' z3 z4)
    subst z1
    have sh := rb_sh s hs i (by omega)
    by_cases on : ton s i
    · obtain ⟨B1, r1, f1, v1⟩ := dk_far ok true z3 (hce i hi)
      replace r1 : rs_M_asksMinutes B (nI (tcl c0 pc i)) (nI 1) = some B1 := r1
      have f1' := z2.trans (f1.mono (fun r k z => by unfold dk_F at z; unfold scM; omega))
      obtain ⟨B2, r2, f2, v2⟩ := l50 B1 i hi f1' v1
      refine az_nxt (nI (i + 1), B2) ?_ ⟨rfl, f1'.trans (f2.mono (fun r k z => by unfold scM; omega)), (z2'.trans (f1.mono (fun r k z => by unfold dk_F at z; (try dsimp only); omega))).trans (f2.mono (fun r k z => by (try dsimp only); omega)), ?_, ?_⟩
      · (try dsimp only)
        unfold rs_M_asksApart_2_b rs_M_asksApart_22 rs_M_asksApart_43
        by_cases j8 : i = 8
        · subst j8
          have r1' : rs_M_asksMinutes B (nI c0) (nI 1) = some B1 := r1
          simp (disch := omega) only [bl_lit, lgl, lgg, lgl0, lgg0, lglm, lggm, az_us, az_un, az_ue, az_urn, az_ure, bz_lit, nI_leI, nI_ltI, nI_eq, nI_clamp, nI_add, pk_sub, pk_mul, bz_nlt, bz_nle, bz_ltn, bz_len, bz_neq, bz_eqn, bz_nn, ↓reduceIte, Bool.false_eq_true, if_pos, if_neg, r1', r2]
        · have b0 : tcl c0 pc i = pc i := if_neg j8
          rw [b0] at r1
          have b5 := (q.fr (scM_sc z2)).2.2 i (by omega)
          have b6 := b5.1
          have rj : rb s i = true := by rcases on with w | w; exact absurd w j8; exact w
          rw [rj, if_pos rfl] at sh
          simp (disch := omega) only [bl_lit, lgl, lgg, lgl0, lgg0, lglm, lggm, az_us, az_un, az_ue, az_urn, az_ure, bz_lit, nI_leI, nI_ltI, nI_eq, nI_clamp, nI_add, pk_sub, pk_mul, bz_nlt, bz_nle, bz_ltn, bz_len, bz_neq, bz_eqn, bz_nn, ↓reduceIte, Bool.false_eq_true, if_pos, if_neg, sh, b6, r1, r2]
      · have z3' := z3.fr f1
        exact ⟨fun c hc => by (try dsimp only); rw [f2 74 c (by omega)]; exact z3'.1 c hc, fun c hc => by (try dsimp only); rw [f2 83 c (by omega)]; exact z3'.2 c hc⟩
      · intro x hx onx y hy ony
        (try dsimp only)
        rcases Nat.lt_or_ge x i with w | w
        · rw [f2 89 _ (by omega), f1 89 _ (by unfold dk_F; omega)]
          exact z4 x w onx y hy ony
        · rw [show x = i by omega]
          exact v2 y hy ony
    · have j8 : i ≠ 8 := fun e => on (Or.inl e)
      have rj : rb s i = false := by
        cases e : rb s i with
        | true => exact absurd (Or.inr e) on
        | false => rfl
      rw [rj, if_neg (by decide)] at sh
      refine az_nxt (nI (i + 1), B) ?_ ⟨rfl, z2, z2', z3, ?_⟩
      · (try dsimp only)
        unfold rs_M_asksApart_2_b
        simp (disch := omega) only [bl_lit, lgl, lgg, lgl0, lgg0, lglm, lggm, az_us, az_un, az_ue, az_urn, az_ure, bz_lit, nI_leI, nI_ltI, nI_eq, nI_clamp, nI_add, pk_sub, pk_mul, bz_nlt, bz_nle, bz_ltn, bz_len, bz_neq, bz_eqn, bz_nn, ↓reduceIte, Bool.false_eq_true, if_pos, if_neg, sh]
      · intro x hx onx
        (try dsimp only)
        rcases Nat.lt_or_ge x i with w | w
        · exact z4 x w onx
        · rw [show x = i by omega] at onx
          exact absurd onx on
  · intro z hz
    obtain ⟨v, B⟩ := z
    obtain ⟨z1, z2, z2', z3, z4⟩ := hz
    (try dsimp only at z1 z2 z2' z3 z4)
    subst z1
    refine ⟨B, ?_, z2, z2', z4⟩
    (try dsimp only)
    unfold rs_M_asksApart_2_b
    simp (disch := omega) only [bl_lit, lgl, lgg, lgl0, lgg0, lglm, lggm, az_us, az_un, az_ue, az_urn, az_ure, bz_lit, nI_leI, nI_ltI, nI_eq, nI_clamp, nI_add, pk_sub, pk_mul, bz_nlt, bz_nle, bz_ltn, bz_len, bz_neq, bz_eqn, bz_nn, ↓reduceIte, Bool.false_eq_true, if_pos, if_neg]
/-- an order's minutes -/
theorem pm_of {m : Nat → Nat → Nat} {s n : Nat} {l : List Nat} (hn : n ≤ 5) (hl : l.length = n) (hin : ∀ k, k < n → 1 ≤ l.getD k 0 ∧ l.getD k 0 ≤ n) (hm : ∀ i j, m i j ≤ 2178) (m0 : m 0 0 = 0)
    (e8 : ∀ k, k < n → I 88 k = nI (tp s (l.getD k 0))) (e9 : ∀ x y, x ≤ n → y ≤ n → I 89 (9 * tp s x + tp s y) = nI (m x y)) : rs_M_roundOf I (nI n) = some (nI (cst m 0 l)) := by
  have tp9 : ∀ x, tp s x < 9 := by
    intro x
    cases x with
    | zero => exact (by decide : 8 < 9)
    | succ x => have := ps_8 s x; show ps s x < 9; omega
  unfold rs_M_roundOf rs_M_roundOf_8
  have xk : ∀ k, k ≤ n → (0 :: l).getD k 0 ≤ n := by
    intro k hk
    cases k with
    | zero => exact Nat.zero_le n
    | succ k => exact (hin k (by omega)).2
  have main : ∃ x, az_lp (fun z : (Int32 × Int32 × Int32) => rs_M_roundOf_8_b I (nI n) z.1 z.2.1 z.2.2) 100000 (0, 8, 0) = some x ∧ x = nI (cst m 0 l) := by
    refine az_for0 (fun k (z : Int32 × Int32 × Int32) => ∃ S, z = (nI S, nI (tp s ((0 :: l).getD k 0)), nI k) ∧ S ≤ 2178 * k ∧ S + cst m ((0 :: l).getD k 0) (l.drop k) = cst m 0 l) n (by omega) ⟨0, rfl, by omega, by show 0 + cst m 0 l = _; omega⟩ ?_ ?_
    · intro k z hk hz
      obtain ⟨S, rfl, hS, hC⟩ := hz
      have d : l.drop k = l.getD k 0 :: l.drop (k + 1) := by
        rw [List.drop_eq_getElem_cons (by omega), List.getD_eq_getElem?_getD, List.getElem?_eq_getElem (by omega)]
        rfl
      rw [d] at hC
      replace hC : S + (m ((0 :: l).getD k 0) (l.getD k 0) + cst m (l.getD k 0) (l.drop (k + 1))) = cst m 0 l := hC
      have b0 := e8 k hk
      have b1 := e9 _ _ (xk k (by omega)) (hin k hk).2
      have b2 := tp9 ((0 :: l).getD k 0)
      have b3 := tp9 (l.getD k 0)
      have b4 := hm ((0 :: l).getD k 0) (l.getD k 0)
      have g : (0 :: l).getD (k + 1) 0 = l.getD k 0 := rfl
      rw [g]
      generalize (0 :: l).getD k 0 = x at *
      generalize l.getD k 0 = y at *
      refine az_nxt (nI (S + m x y), nI (tp s y), nI (k + 1)) ?_ ⟨S + m x y, rfl, by omega, by omega⟩
      (try dsimp only)
      unfold rs_M_roundOf_8_b
      simp (disch := omega) only [bl_lit, lgl, lgg, lgl0, lgg0, lglm, lggm, az_us, az_un, az_ue, az_urn, az_ure, bz_lit, nI_leI, nI_ltI, nI_eq, nI_clamp, nI_add, pk_sub, pk_mul, bz_nlt, bz_nle, bz_ltn, bz_len, bz_neq, bz_eqn, bz_nn, ↓reduceIte, Bool.false_eq_true, if_pos, if_neg, b0, b1]
    · intro z hz
      obtain ⟨S, rfl, hS, hC⟩ := hz
      rw [List.drop_eq_nil_of_le (by omega)] at hC
      replace hC : S + m ((0 :: l).getD n 0) 0 = cst m 0 l := hC
      have b1 := e9 _ 0 (xk n (by omega)) (Nat.zero_le n)
      have b2 := tp9 ((0 :: l).getD n 0)
      have b4 := hm ((0 :: l).getD n 0) 0
      refine ⟨_, ?_, rfl⟩
      (try dsimp only)
      unfold rs_M_roundOf_8_b rs_M_roundOf_48
      rw [← hC]
      by_cases n0 : n = 0
      · subst n0
        have e : (0 :: l).getD 0 0 = 0 := rfl
        rw [e, m0]
        simp (disch := omega) only [bl_lit, lgl, lgg, lgl0, lgg0, lglm, lggm, az_us, az_un, az_ue, az_urn, az_ure, bz_lit, nI_leI, nI_ltI, nI_eq, nI_clamp, nI_add, pk_sub, pk_mul, bz_nlt, bz_nle, bz_ltn, bz_len, bz_neq, bz_eqn, bz_nn, ↓reduceIte, Bool.false_eq_true, if_pos, if_neg, Option.map_some]
      · generalize (0 :: l).getD n 0 = x at *
        replace b1 : I 89 (9 * tp s x + 8) = nI (m x 0) := b1
        simp (disch := omega) only [bl_lit, lgl, lgg, lgl0, lgg0, lglm, lggm, az_us, az_un, az_ue, az_urn, az_ure, bz_lit, nI_leI, nI_ltI, nI_eq, nI_clamp, nI_add, pk_sub, pk_mul, bz_nlt, bz_nle, bz_ltn, bz_len, bz_neq, bz_eqn, bz_nn, ↓reduceIte, Bool.false_eq_true, if_pos, if_neg, b1, Option.map_some]
  obtain ⟨x, hx, rfl⟩ := main
  exact hx
end

/-! THE LAW: the class works -/
theorem wk_text : ∀ (ls : List ln_T) (t : Nat) (I : Nat → Nat → Int32) (z Z N : Nat), (∀ l, l ∈ ls → lg l) → I t 4 = nI Z → Z ≤ 121 → z + (lcs z ls).length = Z → cc I t z (lcs z ls) → (lcs z ls).length < N →
    ∃ I', az_lp (wk t) N (nI 0, nI z, I) = some (lvals ls (f6 (I (t + 3))), I') ∧ az_fr (fun r _ => r = t + 4) I I' := by
  intro ls
  induction ls with
  | nil =>
    intro t I z Z N _ h1 h2 h3 _ hN
    obtain ⟨N, rfl⟩ : ∃ N', N = N' + 1 := ⟨N - 1, by omega⟩
    refine ⟨I, az_lp_r ?_, az_fr.refl⟩
    show rs_La_work_4_b t (nI 0) (nI z) I = _
    replace h3 : z + 0 = Z := h3
    unfold rs_La_work_4_b
    rw [h1, if_pos (nI_le (by omega) (by omega))]
    rfl
  | cons l ls ih =>
    intro t I z Z N hg h1 h2 h3 h4 hN
    obtain ⟨c, v, o⟩ := l
    obtain ⟨g1, g2⟩ := hg (c, v, o) (List.mem_cons_self ..)
    replace g1 : rn 36 c v := g1
    have hg' : ∀ l, l ∈ ls → lg l := fun l hl => hg l (List.mem_cons_of_mem _ hl)
    cases o with
    | none =>
      replace h4 : cc I t z (c ++ [(59, 0)] ++ lcs (z + (c ++ [((59 : Int32), (0 : Int32))]).length) ls) := h4
      replace h3 : z + (c ++ [((59 : Int32), (0 : Int32))] ++ lcs (z + (c ++ [((59 : Int32), (0 : Int32))]).length) ls).length = Z := h3
      replace hN : (c ++ [((59 : Int32), (0 : Int32))] ++ lcs (z + (c ++ [((59 : Int32), (0 : Int32))]).length) ls).length < N := hN
      have ll : (c ++ [((59 : Int32), (0 : Int32))]).length = c.length + 1 := by rw [List.length_append]; rfl
      rw [List.length_append, ll] at h3 hN
      obtain ⟨N, rfl⟩ : ∃ N', N = N' + 1 + c.length := ⟨N - 1 - c.length, by omega⟩
      obtain ⟨I1, r1, f1, v1⟩ := g1 t I Z z 0 (N + 1) h1 h2 (by omega) (cc_l (cc_l h4)) (by omega)
      have b := (cc_r (cc_l h4) 0 _ rfl).1
      replace b : I (t + 1) (z + c.length) = nI 59 := b
      have b' : I1 (t + 1) (z + c.length) = nI 59 := by rw [f1 _ _ (by omega)]; exact b
      have a' : I1 t 4 = nI Z := by rw [f1 _ _ (by omega)]; exact h1
      refine ⟨I1, ?_, f1.mono (fun r k q => q.1)⟩
      rw [r1]
      refine az_lp_r ?_
      show rs_La_work_4_b t (nI (0 + 1)) (nI (z + c.length)) I1 = some (.inr (v (f6 (I (t + 3))), I1))
      unfold rs_La_work_4_b
      rw [← v1]
      simp (disch := omega) only [bl_lit, lgl, lgg, lgl0, lgg0, lglm, lggm, az_us, az_un, az_ue, az_urn, az_ure, bz_lit, nI_leI, nI_ltI, nI_eq, nI_clamp, nI_add, pk_sub, pk_mul, bz_nlt, bz_nle, bz_ltn, bz_len, bz_neq, bz_eqn, bz_nn, ↓reduceIte, Bool.false_eq_true, if_pos, if_neg, a', b', Nat.add_sub_cancel]
    | some o =>
      obtain ⟨c', v'⟩ := o
      have g2 : rn 36 c' v' := g2 c' v' rfl
      generalize hy : nI (z + c.length + 1 + c'.length) = y at *
      replace h4 : cc I t z (c ++ [(63, nI (z + c.length + 1 + c'.length))] ++ c' ++ [(59, 0)] ++ lcs (z + (c ++ [((63 : Int32), nI (z + c.length + 1 + c'.length))] ++ c' ++ [((59 : Int32), (0 : Int32))]).length) ls) := h4
      replace h3 : z + (c ++ [((63 : Int32), nI (z + c.length + 1 + c'.length))] ++ c' ++ [((59 : Int32), (0 : Int32))] ++ lcs (z + (c ++ [((63 : Int32), nI (z + c.length + 1 + c'.length))] ++ c' ++ [((59 : Int32), (0 : Int32))]).length) ls).length = Z := h3
      replace hN : (c ++ [((63 : Int32), nI (z + c.length + 1 + c'.length))] ++ c' ++ [((59 : Int32), (0 : Int32))] ++ lcs (z + (c ++ [((63 : Int32), nI (z + c.length + 1 + c'.length))] ++ c' ++ [((59 : Int32), (0 : Int32))]).length) ls).length < N := hN
      rw [hy] at h3 h4 hN
      have l1 : (c ++ [((63 : Int32), y)]).length = c.length + 1 := by rw [List.length_append]; rfl
      have l2 : (c ++ [((63 : Int32), y)] ++ c').length = c.length + 1 + c'.length := by rw [List.length_append, l1]
      have l3 : (c ++ [((63 : Int32), y)] ++ c' ++ [((59 : Int32), (0 : Int32))]).length = c.length + 1 + c'.length + 1 := by rw [List.length_append, l2]; rfl
      have t1 := cc_l (cc_l (cc_l (cc_l h4)))
      have t2 := cc_r (cc_l (cc_l (cc_l h4))) 0 _ rfl
      have t3 := cc_r (cc_l (cc_l h4))
      have t4 := cc_r (cc_l h4) 0 _ rfl
      have t5 := cc_r h4
      rw [l1] at t3
      rw [l2] at t4
      rw [l3] at t5 h3 hN
      rw [List.length_append, l3] at h3 hN
      obtain ⟨N, rfl⟩ : ∃ N', N = N' + 1 + 1 + c'.length + c.length := ⟨N - 1 - 1 - c'.length - c.length, by omega⟩
      obtain ⟨I1, r1, f1, v1⟩ := g1 t I Z z 0 (N + 1 + 1 + c'.length) h1 h2 (by omega) t1 (by omega)
      have b1 : I1 (t + 1) (z + c.length) = nI 63 := by rw [f1 _ _ (by omega)]; exact t2.1
      have b2 : I1 (t + 2) (z + c.length) = nI (z + c.length + 1 + c'.length) := by rw [f1 _ _ (by omega), hy]; exact t2.2
      have a' : I1 t 4 = nI Z := by rw [f1 _ _ (by omega)]; exact h1
      have I3 : I1 (t + 3) = I (t + 3) := funext (fun j => f1 _ _ (by omega))
      have f1' : az_fr (fun r _ => r = t + 4) I I1 := f1.mono (fun r k q => q.1)
      have m1 : nI (0 + 1) + -nI 1 = nI 0 := by decide
      rw [r1]
      by_cases zz : v (f6 (I (t + 3))) = nI 0
      · rw [zz] at v1
        obtain ⟨I2, r2, f2⟩ := ih t I1 (z + (c.length + 1 + c'.length + 1)) Z (N + 1 + c'.length) hg' a' h2 (by omega) (t5.fr (fun j => ⟨f1 _ _ (by omega), f1 _ _ (by omega)⟩)) (by omega)
        rw [I3] at r2
        refine ⟨I2, ?_, f1'.trans f2⟩
        have st : rs_La_work_4_b t (nI (0 + 1)) (nI (z + c.length)) I1 = some (.inl (nI 0, nI (z + (c.length + 1 + c'.length + 1)), I1)) := by
          unfold rs_La_work_4_b
          rw [show z + (c.length + 1 + c'.length + 1) = z + c.length + 1 + c'.length + 1 by omega]
          simp (disch := omega) only [bl_lit, lgl, lgg, lgl0, lgg0, lglm, lggm, az_us, az_un, az_ue, az_urn, az_ure, bz_lit, nI_leI, nI_ltI, nI_eq, nI_clamp, nI_add, pk_sub, pk_mul, bz_nlt, bz_nle, bz_ltn, bz_len, bz_neq, bz_eqn, bz_nn, ↓reduceIte, Bool.false_eq_true, if_pos, if_neg, a', b1, b2, v1, m1, Nat.add_sub_cancel]
        rw [show N + 1 + 1 + c'.length = N + 1 + c'.length + 1 by omega, az_lp_l (b := wk t) (s := (nI (0 + 1), nI (z + c.length), I1)) (s' := (nI 0, nI (z + (c.length + 1 + c'.length + 1)), I1)) st, r2]
        have lv : lvals ((c, v, some (c', v')) :: ls) (f6 (I (t + 3))) = lvals ls (f6 (I (t + 3))) := by
          show (match (if v (f6 (I (t + 3))) = 0 then none else some (v' (f6 (I (t + 3))))) with | some x => x | none => lvals ls (f6 (I (t + 3)))) = _
          rw [if_pos (show v (f6 (I (t + 3))) = 0 from zz)]
        rw [lv]
      · obtain ⟨I2, r2, f2, v2⟩ := g2 t I1 Z (z + (c.length + 1)) 0 (N + 1) a' h2 (by omega) (t3.fr (fun j => ⟨f1 _ _ (by omega), f1 _ _ (by omega)⟩)) (by omega)
        have st : rs_La_work_4_b t (nI (0 + 1)) (nI (z + c.length)) I1 = some (.inl (nI 0, nI (z + (c.length + 1)), I1)) := by
          have nz : ¬ I1 (t + 4) 0 = nI 0 := by rw [v1]; exact zz
          unfold rs_La_work_4_b
          rw [show z + (c.length + 1) = z + c.length + 1 by omega]
          simp (disch := omega) only [bl_lit, lgl, lgg, lgl0, lgg0, lglm, lggm, az_us, az_un, az_ue, az_urn, az_ure, bz_lit, nI_leI, nI_ltI, nI_eq, nI_clamp, nI_add, pk_sub, pk_mul, bz_nlt, bz_nle, bz_ltn, bz_len, bz_neq, bz_eqn, bz_nn, ↓reduceIte, Bool.false_eq_true, if_pos, if_neg, a', b1, b2, nz, m1, Nat.add_sub_cancel]
        have b3 : I2 (t + 1) (z + (c.length + 1) + c'.length) = nI 59 := by
          rw [f2 _ _ (by omega), f1 _ _ (by omega), show z + (c.length + 1) + c'.length = z + (c.length + 1 + c'.length) by omega]
          exact t4.1
        have a2 : I2 t 4 = nI Z := by rw [f2 _ _ (by omega)]; exact a'
        refine ⟨I2, ?_, f1'.trans (f2.mono (fun r k q => q.1))⟩
        rw [show N + 1 + 1 + c'.length = N + 1 + c'.length + 1 by omega, az_lp_l (b := wk t) (s := (nI (0 + 1), nI (z + c.length), I1)) (s' := (nI 0, nI (z + (c.length + 1)), I1)) st, r2]
        have lv : lvals ((c, v, some (c', v')) :: ls) (f6 (I (t + 3))) = v' (f6 (I (t + 3))) := by
          show (match (if v (f6 (I (t + 3))) = 0 then none else some (v' (f6 (I (t + 3))))) with | some x => x | none => lvals ls (f6 (I (t + 3)))) = _
          rw [if_neg (show ¬ v (f6 (I (t + 3))) = 0 from zz)]
        rw [lv, ← I3, ← v2]
        refine az_lp_r ?_
        show rs_La_work_4_b t (nI (0 + 1)) (nI (z + (c.length + 1) + c'.length)) I2 = some (.inr (I2 (t + 4) 0, I2))
        unfold rs_La_work_4_b
        simp (disch := omega) only [bl_lit, lgl, lgg, lgl0, lgg0, lglm, lggm, az_us, az_un, az_ue, az_urn, az_ure, bz_lit, nI_leI, nI_ltI, nI_eq, nI_clamp, nI_add, pk_sub, pk_mul, bz_nlt, bz_nle, bz_ltn, bz_len, bz_neq, bz_eqn, bz_nn, ↓reduceIte, Bool.false_eq_true, if_pos, if_neg, a2, b3, Nat.add_sub_cancel]
/-- minutes between 1 and 99 -/
def clI (x : Int32) : Int32 := if 1 < (if x < 99 then x else 99) then (if x < 99 then x else 99) else 1
theorem cl_ok (x : Int32) : ∃ k, 1 ≤ k ∧ k ≤ 99 ∧ clI x = nI k := by
  have key : 1 ≤ (clI x).toInt ∧ (clI x).toInt ≤ 99 := by
    unfold clI
    have e1 : (1 : Int32).toInt = 1 := by decide
    have e99 : (99 : Int32).toInt = 99 := by decide
    by_cases h2 : x < 99
    · rw [if_pos h2]
      rw [Int32.lt_iff_toInt_lt] at h2
      by_cases h1 : 1 < x
      · rw [if_pos h1]
        rw [Int32.lt_iff_toInt_lt] at h1
        omega
      · rw [if_neg h1]
        omega
    · rw [if_neg h2, if_pos (show (1 : Int32) < 99 by decide)]
      omega
  obtain ⟨k, hk, e⟩ := nI_of (x := clI x) (by
    rw [Int32.lt_iff_toInt_lt]
    have e0 : (0 : Int32).toInt = 0 := by decide
    omega)
  have e3 : (nI k).toInt = (k : Int) := nI_toInt hk
  rw [e, e3] at key
  exact ⟨k, by omega, by omega, e⟩
def cl_n (x : Int32) : Nat := (clI x).toNatClampNeg
theorem cl_I (x : Int32) : clI x = nI (cl_n x) ∧ 1 ≤ cl_n x ∧ cl_n x ≤ 99 := by
  obtain ⟨k, k1, k2, e⟩ := cl_ok x
  have : cl_n x = k := by unfold cl_n; rw [e, nI_clamp (by omega)]
  rw [this]
  exact ⟨e, k1, k2⟩
def g6 (u k l s w h : Int32) : Nat → Int32 := fun j => if j = 0 then u else if j = 1 then k else if j = 2 then l else if j = 3 then s else if j = 4 then w else if j = 5 then h else 0
def lwL (ls : List ln_T) : lw_T := fun u k l s w h => cl_n (lvals ls (g6 u k l s w h))
theorem lwL_B (ls : List ln_T) : lw_B (lwL ls) := fun _ _ _ _ _ _ => (cl_I _).2
theorem lwL_X {ls : List ln_T} {t : Nat} {I : Nat → Nat → Int32} (hg : ∀ l, l ∈ ls → lg l) (h5 : I t 5 = nI 1) (h4 : I t 4 = nI (lcs 0 ls).length) (hl : (lcs 0 ls).length ≤ 121) (hc : cc I t 0 (lcs 0 ls)) : lw_X I t (lwL ls) := by
  intro I' hI u k l s w h
  unfold rs_La_minutes rs_La_minutes_83
  have e5 : I' t 5 = nI 1 := by rw [hI t 5 (Or.inl rfl)]; exact h5
  have e4 : I' t 4 = nI (lcs 0 ls).length := by rw [hI t 4 (Or.inl rfl)]; exact h4
  have hA : ∀ r j, r = t ∨ r = t + 1 ∨ r = t + 2 → (az_u (az_u (az_u (az_u (az_u (az_u I' (t + 3) 0 u) (t + 3) 1 k) (t + 3) 2 l) (t + 3) 3 s) (t + 3) 4 w) (t + 3) 5 h) r j = I' r j := by
    intro r j hr
    rw [az_un (by omega), az_un (by omega), az_un (by omega), az_un (by omega), az_un (by omega), az_un (by omega)]
  have hF : az_fr (fun r _ => r = t + 3 ∨ r = t + 4) I' (az_u (az_u (az_u (az_u (az_u (az_u I' (t + 3) 0 u) (t + 3) 1 k) (t + 3) 2 l) (t + 3) 3 s) (t + 3) 4 w) (t + 3) 5 h) := by
    refine ((((((az_fr.refl (S := fun r _ => r = t + 3 ∨ r = t + 4)).u ?_).u ?_).u ?_).u ?_).u ?_).u ?_ <;> exact Or.inl rfl
  have h6 : f6 ((az_u (az_u (az_u (az_u (az_u (az_u I' (t + 3) 0 u) (t + 3) 1 k) (t + 3) 2 l) (t + 3) 3 s) (t + 3) 4 w) (t + 3) 5 h) (t + 3)) = g6 u k l s w h := by
    funext j
    unfold f6 g6
    by_cases j6 : j < 6
    · rw [if_pos j6]
      have : j = 0 ∨ j = 1 ∨ j = 2 ∨ j = 3 ∨ j = 4 ∨ j = 5 := by omega
      rcases this with rfl | rfl | rfl | rfl | rfl | rfl
      · rw [az_un (by omega), az_un (by omega), az_un (by omega), az_un (by omega), az_un (by omega), az_us]; rfl
      · rw [az_un (by omega), az_un (by omega), az_un (by omega), az_un (by omega), az_us]; rfl
      · rw [az_un (by omega), az_un (by omega), az_un (by omega), az_us]; rfl
      · rw [az_un (by omega), az_un (by omega), az_us]; rfl
      · rw [az_un (by omega), az_us]; rfl
      · rw [az_us]; rfl
    · rw [if_neg j6, if_neg (by omega), if_neg (by omega), if_neg (by omega), if_neg (by omega), if_neg (by omega), if_neg (by omega)]
  generalize az_u (az_u (az_u (az_u (az_u (az_u I' (t + 3) 0 u) (t + 3) 1 k) (t + 3) 2 l) (t + 3) 3 s) (t + 3) 4 w) (t + 3) 5 h = A at *
  obtain ⟨A', r, f⟩ := wk_text ls t A 0 _ 100000 hg (by rw [hA t 4 (Or.inl rfl)]; exact e4) hl (by omega) (hc.fr (fun j => ⟨by rw [hA _ _ (by omega), hI _ _ (by omega)], by rw [hA _ _ (by omega), hI _ _ (by omega)]⟩)) (by omega)
  rw [h6] at r
  have r' : rs_La_work t A = some (lvals ls (g6 u k l s w h), A') := r
  refine ⟨A', ?_, hF.trans (f.mono (fun r _ q => Or.inr q))⟩
  rw [e5, if_neg (show ¬ nI 1 = 0 by decide), r']
  show some (clI (lvals ls (g6 u k l s w h)), A') = some (nI (cl_n (lvals ls (g6 u k l s w h))), A')
  rw [(cl_I _).1]

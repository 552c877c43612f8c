/-! ROUNDS: sets, orders, what they cost -/
def rb (s p : Nat) : Bool := s / 2 ^ p % 2 == 1
theorem rb_sh : ∀ s, s < 256 → ∀ p, p < 9 → ((nI s >>> (nI p &&& nI 31)) &&& nI 1) = nI (if rb s p then 1 else 0) := by decide +kernel
def ps (s i : Nat) : Nat := ((List.range 8).find? (fun p => rb s p && gd_n (rb s) p == i)).getD 0
theorem ps_ok : ∀ s, s < 256 → ∀ i, i < gd_n (rb s) 8 → ps s i < 8 ∧ rb s (ps s i) = true ∧ gd_n (rb s) (ps s i) = i := by decide +kernel
theorem ps_at : ∀ s, s < 256 → ∀ p, p < 8 → rb s p = true → ps s (gd_n (rb s) p) = p ∧ gd_n (rb s) p < gd_n (rb s) 8 := by decide +kernel
theorem ps_lt : ∀ s, s < 256 → ∀ i, i < 8 → ∀ j, j < gd_n (rb s) 8 → i < j → ps s i < ps s j := by decide +kernel
theorem ps_np : ∀ n, n < 9 → ∀ s, s < 2 ^ n → gd_n (rb s) n = gd_n (rb s) 8 ∧ ∀ p, p < 8 → rb s p = true → p < n := by decide +kernel
theorem ps_bc : ∀ s, s < 256 → rs_JI_bitCount (nI s) = some (nI (gd_n (rb s) 8)) := by decide +kernel
theorem sh_np : ∀ n, n < 9 → nI 1 <<< (nI n &&& nI 31) = nI (2 ^ n) := by decide +kernel
theorem ps_or : ∀ s, s < 64 → ∀ p, p < 6 → rb s p = false → (nI s ||| (nI 1 <<< (nI p &&& nI 31))) = nI (s + 2 ^ p) ∧ s + 2 ^ p < 64 ∧ ∀ q, q < 6 → rb (s + 2 ^ p) q = (decide (q = p) || rb s q) := by decide +kernel
/-- all ways to go on, the first by numbers first -/
def comps (n : Nat) : Nat → List Nat → List (List Nat)
  | 0, _ => [[]]
  | f + 1, used => (List.range n).flatMap (fun q => if used.contains (q + 1) then [] else (comps n f ((q + 1) :: used)).map (fun l => (q + 1) :: l))
def cst (m : Nat → Nat → Nat) : Nat → List Nat → Nat
  | x, [] => m x 0
  | x, p :: l => m x p + cst m p l
def tstep (C : List Nat → Nat) (st : Nat × List Nat) (l : List Nat) : Nat × List Nat := if C l < st.1 then (C l, l) else st
/-! the class's tour -/
/-- its cells: how many, which posts, minutes -/
def tr_in (I : Nat → Nat → Int32) (n : Nat) (P : Nat → Nat) (m : Nat → Nat → Nat) : Prop := n ≤ 5 ∧ I 39 1 = nI n ∧ (∀ i, 1 ≤ i → i ≤ n → I 40 i = nI (P i)) ∧ ∀ i j, i ≤ n → j ≤ n → I 41 (6 * i + j) = nI (m i j) ∧ m i j ≤ 2178
def tr_F : Nat → Nat → Prop := fun r k => r = 42 ∨ r = 43 ∨ (r = 39 ∧ k = 5)
theorem tr_in.fr {I I' : Nat → Nat → Int32} {n : Nat} {P : Nat → Nat} {m : Nat → Nat → Nat} (h : tr_in I n P m) (f : az_fr tr_F I I') : tr_in I' n P m :=
  ⟨h.1, by rw [f 39 1 (by unfold tr_F; omega)]; exact h.2.1, fun i a b => by rw [f 40 i (by unfold tr_F; omega)]; exact h.2.2.1 i a b, fun i j a b => by rw [f 41 _ (by unfold tr_F; omega)]; exact h.2.2.2 i j a b⟩
/-- the best so far -/
def tr_st (I : Nat → Nat → Int32) (P : Nat → Nat) (st : Nat × List Nat) : Prop := I 39 5 = nI st.1 ∧ st.1 ≤ 2147483647 ∧ ∀ k, k < st.2.length → I 43 k = nI (P (st.2.getD k 0))
theorem tr_fin {I : Nat → Nat → Int32} {n : Nat} {P : Nat → Nat} {m : Nat → Nat → Nat} {st : Nat × List Nat} {l : List Nat} {C : List Nat → Nat} (h : tr_in I n P m) (hs : tr_st I P st) (hl : l.length ≤ 6) (ho : ∀ k, k < l.length → I 42 k = nI (P (l.getD k 0))) (hC : C l < 2147483647) :
    ∃ I', rs_To_finish I (nI (C l)) = some I' ∧ az_fr tr_F I I' ∧ tr_st I' P (tstep C st l) ∧ ∀ k, I' 42 k = I 42 k := by
  unfold rs_To_finish tstep
  obtain ⟨h1, h2, h3⟩ := hs
  by_cases z : C l < st.1
  · rw [if_pos z, h1, if_neg (show ¬ nI st.1 ≤ nI (C l) from by rw [nI_leI (by omega) (by omega)]; omega)]
    refine ⟨_, rfl, (az_fr.refl.u (Or.inr (Or.inr ⟨rfl, rfl⟩))).ur (fun k => Or.inl (Or.inr (Or.inl rfl))), ⟨?_, by (try dsimp only); omega, fun k hk => ?_⟩, fun k => ?_⟩
    · simp (disch := omega) only [bl_lit, lgl, lgg, lgl0, lgg0, lglm, lggm, az_us, az_un, az_ue, az_urn, az_ure, bz_lit, nI_leI, nI_ltI, nI_eq, nI_clamp, nI_add, pk_sub, pk_mul, bz_nlt, bz_nle, bz_ltn, bz_len, bz_neq, bz_eqn, bz_nn, ↓reduceIte, Bool.false_eq_true, if_pos, if_neg]
    · (try dsimp only at hk ⊢)
      simp (disch := omega) only [bl_lit, lgl, lgg, lgl0, lgg0, lglm, lggm, az_us, az_un, az_ue, az_urn, az_ure, bz_lit, nI_leI, nI_ltI, nI_eq, nI_clamp, nI_add, pk_sub, pk_mul, bz_nlt, bz_nle, bz_ltn, bz_len, bz_neq, bz_eqn, bz_nn, ↓reduceIte, Bool.false_eq_true, if_pos, if_neg]
      rw [pk_cpy_in (by omega) (by omega), Nat.sub_zero, Nat.zero_add]
      simp (disch := omega) only [bl_lit, lgl, lgg, lgl0, lgg0, lglm, lggm, az_us, az_un, az_ue, az_urn, az_ure, bz_lit, nI_leI, nI_ltI, nI_eq, nI_clamp, nI_add, pk_sub, pk_mul, bz_nlt, bz_nle, bz_ltn, bz_len, bz_neq, bz_eqn, bz_nn, ↓reduceIte, Bool.false_eq_true, if_pos, if_neg]
      exact ho k hk
    · simp (disch := omega) only [bl_lit, lgl, lgg, lgl0, lgg0, lglm, lggm, az_us, az_un, az_ue, az_urn, az_ure, bz_lit, nI_leI, nI_ltI, nI_eq, nI_clamp, nI_add, pk_sub, pk_mul, bz_nlt, bz_nle, bz_ltn, bz_len, bz_neq, bz_eqn, bz_nn, ↓reduceIte, Bool.false_eq_true, if_pos, if_neg]
  · rw [if_neg z, h1, if_pos (show nI st.1 ≤ nI (C l) from nI_le (by omega) (by omega))]
    exact ⟨I, rfl, az_fr.refl, ⟨h1, h2, h3⟩, fun _ => rfl⟩
theorem tr_go {n : Nat} {P : Nat → Nat} {m : Nat → Nat → Nat} : ∀ (f : Nat) (I : Nat → Nat → Int32) (st : Nat × List Nat) (pre : List Nat) (x M S : Nat) (g : Nat), tr_in I n P m → tr_st I P st → pre.length + f = n → x ≤ n → M < 64 → S ≤ 2178 * pre.length → (∀ q, 1 ≤ q → q ≤ n → rb M q = pre.contains q) →
    (∀ k, k < pre.length → I 42 k = nI (P (pre.getD k 0))) → (∀ l, cst m 0 (pre ++ l) = S + cst m x l) →
    ∃ I', rs_G2 (g + f + 1) 81 (nI pre.length) (nI x) (nI M) (nI S) I = some (0, I') ∧ az_fr tr_F I I' ∧ tr_st I' P (((comps n f pre).map (fun l => pre ++ l)).foldl (tstep (cst m 0)) st) ∧ ∀ k, k < pre.length → I' 42 k = I 42 k := by
  intro f
  induction f with
  | zero =>
    intro I st pre x M S g h hs hf hx hM hS hb ho hC
    have hn := h.1
    have e1 := h.2.1
    obtain ⟨e2, e3⟩ := h.2.2.2 x 0 hx (Nat.zero_le n)
    have c0 := hC []
    rw [List.append_nil] at c0
    have c1 : cst m 0 pre = S + m x 0 := c0
    obtain ⟨I', r, ff, s', k'⟩ := tr_fin (C := cst m 0) h hs (l := pre) (by omega) ho (by omega)
    refine ⟨I', ?_, ff, ?_, fun k _ => k' k⟩
    · show (rs_To_goOn (rs_G2 g) I (nI pre.length) (nI x) (nI M) (nI S)).map _ = _
      unfold rs_To_goOn rs_To_goOn_13
      rw [c1] at r
      have e2' : I 41 (x * 6) = nI (m x 0) := by rw [Nat.mul_comm x 6]; exact e2
      simp (disch := omega) only [bl_lit, lgl, lgg, lgl0, lgg0, lglm, lggm, az_us, az_un, az_ue, az_urn, az_ure, bz_lit, nI_leI, nI_ltI, nI_eq, nI_clamp, nI_add, pk_sub, pk_mul, bz_nlt, bz_nle, bz_ltn, bz_len, bz_neq, bz_eqn, bz_nn, ↓reduceIte, Bool.false_eq_true, if_pos, if_neg, e1, e2', r, Option.map_some]
    · show tr_st I' P ([pre ++ []].foldl (tstep (cst m 0)) st)
      rw [List.append_nil]
      exact s'
  | succ f ih =>
    intro I st pre x M S g h hs hf hx hM hS hb ho hC
    have hn := h.1
    have e1 := h.2.1
    have loop : ∃ I', rs_To_goOn_33 (rs_G2 (g + f + 1)) I (nI pre.length) (nI x) (nI M) (nI S) (nI 1) = some I' ∧ az_fr tr_F I I' ∧ tr_st I' P (((comps n (f + 1) pre).map (fun l => pre ++ l)).foldl (tstep (cst m 0)) st) ∧ ∀ k, k < pre.length → I' 42 k = I 42 k := by
      unfold rs_To_goOn_33
      refine az_for0 (fun i (z : Int32 × (Nat → Nat → Int32)) => z.1 = nI (i + 1) ∧ az_fr tr_F I z.2 ∧ tr_st z.2 P ((((List.range i).flatMap (fun q => if pre.contains (q + 1) then [] else (comps n f ((q + 1) :: pre)).map (fun l => (q + 1) :: l))).map (fun l => pre ++ l)).foldl (tstep (cst m 0)) st) ∧ ∀ k, k < pre.length → z.2 42 k = I 42 k) n (by omega) ⟨rfl, az_fr.refl, hs, fun _ _ => rfl⟩ ?_ ?_
      · intro i z hi hz
        obtain ⟨v5, I1⟩ := z
        obtain ⟨e, ff, s1, k1⟩ := hz
        (try dsimp only at e ff s1 k1)
        subst e
        have h1 := h.fr ff
        have hbi := hb (i + 1) (by omega) (by omega)
        have sh := rb_sh M (by omega) (i + 1) (by omega)
        rw [List.range_succ, List.flatMap_append, List.map_append, List.foldl_append]
        generalize hst1 : List.foldl (tstep (cst m 0)) st (List.map (fun l => pre ++ l) (List.flatMap (fun q => if pre.contains (q + 1) then [] else (comps n f ((q + 1) :: pre)).map (fun l => (q + 1) :: l)) (List.range i))) = st1 at s1
        rw [List.flatMap_singleton]
        by_cases z : pre.contains (i + 1) = true
        · rw [z] at hbi
          rw [hbi, if_pos rfl] at sh
          rw [if_pos z]
          refine az_nxt (nI (i + 1 + 1), I1) ?_ ⟨rfl, ff, s1, k1⟩
          (try dsimp only)
          unfold rs_To_goOn_33_b
          simp (disch := omega) only [bl_lit, lgl, lgg, lgl0, lgg0, lglm, lggm, az_us, az_un, az_ue, az_urn, az_ure, bz_lit, nI_leI, nI_ltI, nI_eq, nI_clamp, nI_add, pk_sub, pk_mul, bz_nlt, bz_nle, bz_ltn, bz_len, bz_neq, bz_eqn, bz_nn, ↓reduceIte, Bool.false_eq_true, if_pos, if_neg, h1.2.1, sh]
        · have z' : pre.contains (i + 1) = false := by
            cases q : pre.contains (i + 1) with
            | true => exact absurd q z
            | false => rfl
          rw [z'] at hbi
          rw [hbi, if_neg (by decide)] at sh
          rw [if_neg z]
          obtain ⟨o1, o2, o3⟩ := ps_or M hM (i + 1) (by omega) hbi
          obtain ⟨e2, e3⟩ := h1.2.2.2 x (i + 1) hx (by omega)
          have e40 := h1.2.2.1 (i + 1) (by omega) (by omega)
          have hlen : (pre ++ [i + 1]).length = pre.length + 1 := by rw [List.length_append]; rfl
          have fI : az_fr tr_F I1 (az_u I1 42 pre.length (nI (P (i + 1)))) := az_fr.refl.u (Or.inl rfl)
          have s1' : tr_st (az_u I1 42 pre.length (nI (P (i + 1)))) P st1 := ⟨by rw [az_un (by omega)]; exact s1.1, s1.2.1, fun k hk => by rw [az_un (by omega)]; exact s1.2.2 k hk⟩
          -- the comps of (q+1) :: pre and of pre ++ [q+1] are those of the same set
          have cs : ∀ (f : Nat) (u v : List Nat), (∀ q, u.contains q = v.contains q) → comps n f u = comps n f v := by
            intro f
            induction f with
            | zero => intro u v _; rfl
            | succ f ihf =>
              intro u v huv
              unfold comps
              congr 1
              funext q
              rw [huv (q + 1), ihf ((q + 1) :: u) ((q + 1) :: v) (fun r => by rw [List.contains_cons, List.contains_cons, huv r])]
          have cs1 : comps n f ((i + 1) :: pre) = comps n f (pre ++ [i + 1]) := cs f _ _ (fun q => by
            rw [List.contains_cons, List.contains_append, Bool.or_comm]
            congr 1
            rw [List.contains_cons]
            simp)
          obtain ⟨I2, r2, f2, s2, k2⟩ := ih (az_u I1 42 pre.length (nI (P (i + 1)))) st1 (pre ++ [i + 1]) (i + 1) (M + 2 ^ (i + 1)) (S + m x (i + 1)) g (h1.fr fI) s1' (by rw [hlen]; omega) (by omega) o2 (by rw [hlen]; omega)
            (fun q h1 h2 => by
              rw [o3 q (by omega), hb q h1 h2, List.contains_append, Bool.or_comm]
              congr 1
              rw [List.contains_cons]
              by_cases y : q = i + 1
              · rw [decide_eq_true y, y]; simp
              · rw [decide_eq_false y]
                simp [y])
            (fun k hk => by
              rw [hlen] at hk
              by_cases y : k = pre.length
              · subst y
                rw [az_us]
                congr 2
                rw [List.getD_eq_getElem?_getD, List.getElem?_append_right (Nat.le_refl _), Nat.sub_self]
                rfl
              · rw [az_un (by omega), k1 k (by omega), ho k (by omega)]
                congr 2
                rw [List.getD_eq_getElem?_getD, List.getD_eq_getElem?_getD, List.getElem?_append_left (by omega)])
            (fun l => by
              rw [List.append_assoc]
              have := hC ([i + 1] ++ l)
              rw [this]
              show S + (m x (i + 1) + cst m (i + 1) l) = _
              omega)
          refine az_nxt (nI (i + 1 + 1), I2) ?_ ⟨rfl, ff.trans (fI.trans f2), ?_, fun k hk => ?_⟩
          · (try dsimp only)
            unfold rs_To_goOn_33_b
            rw [hlen] at r2
            have e2' : I1 41 (x * 6 + (i + 1)) = nI (m x (i + 1)) := by rw [Nat.mul_comm x 6]; exact e2
            simp (disch := omega) only [bl_lit, lgl, lgg, lgl0, lgg0, lglm, lggm, az_us, az_un, az_ue, az_urn, az_ure, bz_lit, nI_leI, nI_ltI, nI_eq, nI_clamp, nI_add, pk_sub, pk_mul, bz_nlt, bz_nle, bz_ltn, bz_len, bz_neq, bz_eqn, bz_nn, ↓reduceIte, Bool.false_eq_true, if_pos, if_neg, h1.2.1, sh, e40, o1, e2', r2]
          · (try dsimp only)
            rw [cs1, List.map_map]
            rw [show ((fun l => pre ++ l) ∘ fun l => (i + 1) :: l) = (fun l => pre ++ [i + 1] ++ l) from by
              funext l
              show pre ++ (i + 1) :: l = pre ++ [i + 1] ++ l
              rw [List.append_assoc]; rfl]
            exact s2
          · (try dsimp only)
            rw [k2 k (by rw [hlen]; omega), az_un (by omega)]
            exact k1 k hk
      · intro z hz
        obtain ⟨v5, I1⟩ := z
        obtain ⟨e, ff, s1, k1⟩ := hz
        (try dsimp only at e ff s1 k1)
        subst e
        refine ⟨I1, ?_, ff, s1, k1⟩
        (try dsimp only)
        unfold rs_To_goOn_33_b
        simp (disch := omega) only [bl_lit, lgl, lgg, lgl0, lgg0, lglm, lggm, az_us, az_un, az_ue, az_urn, az_ure, bz_lit, nI_leI, nI_ltI, nI_eq, nI_clamp, nI_add, pk_sub, pk_mul, bz_nlt, bz_nle, bz_ltn, bz_len, bz_neq, bz_eqn, bz_nn, ↓reduceIte, Bool.false_eq_true, if_pos, if_neg, (h.fr ff).2.1]
    obtain ⟨I', r, ff, s', k'⟩ := loop
    refine ⟨I', ?_, ff, s', k'⟩
    show (rs_To_goOn (rs_G2 (g + f + 1)) I (nI pre.length) (nI x) (nI M) (nI S)).map _ = _
    unfold rs_To_goOn
    simp (disch := omega) only [bl_lit, lgl, lgg, lgl0, lgg0, lglm, lggm, az_us, az_un, az_ue, az_urn, az_ure, bz_lit, nI_leI, nI_ltI, nI_eq, nI_clamp, nI_add, pk_sub, pk_mul, bz_nlt, bz_nle, bz_ltn, bz_len, bz_neq, bz_eqn, bz_nn, ↓reduceIte, Bool.false_eq_true, if_pos, if_neg, e1]
    rw [r]
    rfl

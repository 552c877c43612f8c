/-! THE REFERENCE'S SHORTEST MINUTES -/
/-- the heights, the step minutes: what the reference's search reads -/
def dk_in (I : Nat → Nat → Int32) (h t : Nat → Nat) : Prop :=
  (∀ c, c < 144 → I 74 c = nI (h c) ∧ h c < 10) ∧ (∀ k, k < 100 → I 83 k = nI (t k) ∧ 1 ≤ t k ∧ t k ≤ 99)
def dk_W (h t : Nat → Nat) (fw : Bool) (c o : Nat) : Nat := if fw then t (10 * h c + h o) else t (10 * h o + h c)
def dk_m (I : Nat → Nat → Int32) (m : Nat → Nat) (st : Nat → Bool) : Prop :=
  ∀ c, c < 144 → I 84 c = nI (m c) ∧ m c ≤ 1000000 ∧ I 85 c = nI (if st c then 1 else 0)
/-- the nearest of the first k -/
def dk_best (m : Nat → Nat) (st : Nat → Bool) (k : Nat) (x : Int32) : Prop :=
  (x = -nI 1 ∧ ∀ c, c < k → st c = true ∨ 1000000 ≤ m c) ∨
      ∃ b, b < k ∧ x = nI b ∧ st b = false ∧ m b < 1000000 ∧ ∀ c, c < k → st c = false → m b ≤ m c
theorem dk_near {I : Nat → Nat → Int32} {m : Nat → Nat} {st : Nat → Bool} (h : dk_m I m st) :
    ∃ x, rs_M_nearestOpen I = some x ∧ dk_best m st 144 x := by
  unfold rs_M_nearestOpen rs_M_nearestOpen_4
  refine az_for0 (fun k (s : Int32 × Int32) => s.2 = nI k ∧ dk_best m st k s.1) 144 (by omega) ⟨rfl, Or.inl ⟨rfl, fun c hc => absurd hc (Nat.not_lt_zero c)⟩⟩ ?_ ?_
  · intro k s hk hi
    obtain ⟨v1, v2⟩ := s
    obtain ⟨rfl, hi⟩ := hi
    obtain ⟨h1, h2, h3⟩ := h k hk
    show ∃ o, rs_M_nearestOpen_4_b I v1 (nI k) = some o ∧ _
    unfold rs_M_nearestOpen_4_b
    cases hst : st k with
    | true =>
      rw [hst] at h3
      refine az_nxt (v1, nI (k + 1)) (by simp (disch := omega) only [bz_lit, nI_leI, nI_ltI, nI_eq, nI_clamp, nI_add, pk_sub, pk_mul, bz_nlt, bz_nle, bz_ltn, bz_len, bz_neq, bz_eqn, bz_nn, ↓reduceIte, Bool.false_eq_true, if_pos, if_neg, h1, h3]) ⟨rfl, ?_⟩
      rcases hi with ⟨e, hi⟩ | ⟨b, hb, e, hb1, hb2, hi⟩
      · refine Or.inl ⟨e, fun c hc => ?_⟩
        rcases Nat.lt_or_ge c k with q | q
        · exact hi c q
        · have : c = k := by omega
          subst this
          exact Or.inl hst
      · refine Or.inr ⟨b, by omega, e, hb1, hb2, fun c hc hcs => ?_⟩
        rcases Nat.lt_or_ge c k with q | q
        · exact hi c q hcs
        · have : c = k := by omega
          subst this
          rw [hst] at hcs
          cases hcs
    | false =>
      rw [hst] at h3
      by_cases hm : 1000000 ≤ m k
      · refine az_nxt (v1, nI (k + 1)) (by simp (disch := omega) only [bz_lit, nI_leI, nI_ltI, nI_eq, nI_clamp, nI_add, pk_sub, pk_mul, bz_nlt, bz_nle, bz_ltn, bz_len, bz_neq, bz_eqn, bz_nn, ↓reduceIte, Bool.false_eq_true, if_pos, if_neg, h1, h3]) ⟨rfl, ?_⟩
        rcases hi with ⟨e, hi⟩ | ⟨b, hb, e, hb1, hb2, hi⟩
        · refine Or.inl ⟨e, fun c hc => ?_⟩
          rcases Nat.lt_or_ge c k with q | q
          · exact hi c q
          · have : c = k := by omega
            subst this
            exact Or.inr hm
        · refine Or.inr ⟨b, by omega, e, hb1, hb2, fun c hc hcs => ?_⟩
          rcases Nat.lt_or_ge c k with q | q
          · exact hi c q hcs
          · have : c = k := by omega
            subst this
            omega
      · rcases hi with ⟨e, hi⟩ | ⟨b, hb, e, hb1, hb2, hi⟩
        · (try dsimp only at e)
          subst e
          refine az_nxt (nI k, nI (k + 1)) (by simp (disch := omega) only [bz_lit, nI_leI, nI_ltI, nI_eq, nI_clamp, nI_add, pk_sub, pk_mul, bz_nlt, bz_nle, bz_ltn, bz_len, bz_neq, bz_eqn, bz_nn, ↓reduceIte, Bool.false_eq_true, if_pos, if_neg, h1, h3]) ⟨rfl, Or.inr ⟨k, by omega, rfl, hst, by omega, fun c hc hcs => ?_⟩⟩
          rcases Nat.lt_or_ge c k with q | q
          · rcases hi c q with z | z
            · rw [z] at hcs; cases hcs
            · omega
          · have : c = k := by omega
            subst this
            omega
        · obtain ⟨g1, g2, g3⟩ := h b (by omega)
          (try dsimp only at e)
          subst e
          by_cases hl : m b ≤ m k
          · refine az_nxt (nI b, nI (k + 1)) (by simp (disch := omega) only [bz_lit, nI_leI, nI_ltI, nI_eq, nI_clamp, nI_add, pk_sub, pk_mul, bz_nlt, bz_nle, bz_ltn, bz_len, bz_neq, bz_eqn, bz_nn, ↓reduceIte, Bool.false_eq_true, if_pos, if_neg, h1, h3, g1]) ⟨rfl, Or.inr ⟨b, by omega, rfl, hb1, hb2, fun c hc hcs => ?_⟩⟩
            rcases Nat.lt_or_ge c k with q | q
            · exact hi c q hcs
            · have : c = k := by omega
              subst this
              exact hl
          · refine az_nxt (nI k, nI (k + 1)) (by simp (disch := omega) only [bz_lit, nI_leI, nI_ltI, nI_eq, nI_clamp, nI_add, pk_sub, pk_mul, bz_nlt, bz_nle, bz_ltn, bz_len, bz_neq, bz_eqn, bz_nn, ↓reduceIte, Bool.false_eq_true, if_pos, if_neg, h1, h3, g1]) ⟨rfl, Or.inr ⟨k, by omega, rfl, hst, by omega, fun c hc hcs => ?_⟩⟩
            rcases Nat.lt_or_ge c k with q | q
            · have := hi c q hcs
              omega
            · have : c = k := by omega
              subst this
              omega
  · intro s hi
    obtain ⟨v1, v2⟩ := s
    obtain ⟨rfl, hi⟩ := hi
    exact ⟨v1, by show rs_M_nearestOpen_4_b I v1 (nI 144) = _; unfold rs_M_nearestOpen_4_b; simp (disch := omega) only [bz_lit, nI_leI, nI_ltI, nI_eq, nI_clamp, nI_add, pk_sub, pk_mul, bz_nlt, bz_nle, bz_ltn, bz_len, bz_neq, bz_eqn, bz_nn, ↓reduceIte, Bool.false_eq_true, if_pos, if_neg], hi⟩
theorem dk_Wb {I : Nat → Nat → Int32} {h t : Nat → Nat} (hin : dk_in I h t) (fw : Bool) : gd_W (dk_W h t fw) := fun c o hc he => by
  have a := (hin.1 c hc).2
  have b := (hin.1 o (gd_elt hc he)).2
  unfold dk_W
  split
  · exact (hin.2 _ (by omega)).2
  · exact (hin.2 _ (by omega)).2
def dk_F : Nat → Nat → Prop := fun r _ => r = 84 ∨ r = 85
theorem dk_in.fr {I I' : Nat → Nat → Int32} {h t : Nat → Nat} (hin : dk_in I h t) (f : az_fr dk_F I I') : dk_in I' h t :=
  ⟨fun c hc => by rw [f 74 c (by unfold dk_F; omega)]; exact hin.1 c hc, fun c hc => by rw [f 83 c (by unfold dk_F; omega)]; exact hin.2 c hc⟩
theorem dk_relax {I : Nat → Nat → Int32} {h t m : Nat → Nat} {st : Nat → Bool} {c : Nat} {fw : Bool} (hin : dk_in I h t) (hm : dk_m I m st) (hc : c < 144) (hmc : m c + 99 < 1000000) :
    ∃ y, rs_M_asksMinutes_58 I (nI (if fw then 1 else 0)) (nI c) (nI 0) = some y ∧ ∃ x I', y = .inl (x, I') ∧ az_fr dk_F I I' ∧
      ∃ m', dk_m I' m' st ∧ dk_best m' st 144 x ∧ (∀ o, o < 144 → m' o = m o ∨ (m' o < m o ∧ gd_e c o ∧ m' o = m c + dk_W h t fw c o)) ∧ (∀ o, gd_e c o → m' o ≤ m c + dk_W h t fw c o) := by
  unfold rs_M_asksMinutes_58
  refine az_for0 (fun k (s : Int32 × (Nat → Nat → Int32)) => s.1 = nI k ∧ az_fr dk_F I s.2 ∧ ∃ m', dk_m s.2 m' st ∧ (∀ o, o < 144 → m' o = m o ∨ (m' o < m o ∧ gd_e c o ∧ m' o = m c + dk_W h t fw c o)) ∧ (∀ w, w < k → ∀ o, gd_s c w = some o → m' o ≤ m c + dk_W h t fw c o))
    4 (by omega) ⟨rfl, az_fr.refl, m, hm, fun o _ => Or.inl rfl, fun w hw => absurd hw (Nat.not_lt_zero w)⟩ ?_ ?_
  · intro k s hk hi
    obtain ⟨v4, I1⟩ := s
    obtain ⟨e, hf, m1, hm1, hA, hB⟩ := hi
    (try dsimp only at e hf hm1)
    subst e
    show ∃ o, rs_M_asksMinutes_58_b (nI (if fw then 1 else 0)) (nI c) (nI k) I1 = some o ∧ _
    have hmc1 : m1 c = m c := by
      rcases hA c hc with q | ⟨_, ⟨w, _, q⟩, _⟩
      · exact q
      · exact absurd rfl (gd_ne q)
    unfold rs_M_asksMinutes_58_b
    rw [gd_M c hc k hk]
    (try dsimp only)
    cases hs : gd_s c k with
    | none =>
      refine az_nxt (nI (k + 1), I1) (by simp (disch := omega) only [bz_lit, nI_leI, nI_ltI, nI_eq, nI_clamp, nI_add, pk_sub, pk_mul, bz_nlt, bz_nle, bz_ltn, bz_len, bz_neq, bz_eqn, bz_nn, ↓reduceIte, Bool.false_eq_true, if_pos, if_neg, gd_o]) ⟨rfl, hf, m1, hm1, hA, fun w hw o ho => ?_⟩
      rcases Nat.lt_or_ge w k with q | q
      · exact hB w q o ho
      · have : w = k := by omega
        subst this
        rw [hs] at ho
        cases ho
    | some o =>
      have ho := gd_lt hc hs
      have hco : gd_e c o := ⟨k, hk, hs⟩
      obtain ⟨a1, a2⟩ := (hin.fr hf).1 c hc
      obtain ⟨b1, b2⟩ := (hin.fr hf).1 o ho
      obtain ⟨d1, d2, d3⟩ := hm1 c hc
      obtain ⟨e1, e2, e3⟩ := hm1 o ho
      have w := dk_Wb hin fw c o hc hco
      have key : ∃ s0, s0 = nI (dk_W h t fw c o) ∧ (if 4 ≤ nI k then Option.map (fun x => Sum.inr x) (rs_M_asksMinutes_144 I1 (nI (if fw then 1 else 0))) else
          (if (gd_o (some o)) < 0 then (some (.inl ((nI k + (1 : Int32)), I1))) else (if nI c < 0 ∨ 144 ≤ (nI c).toNatClampNeg then none else (if (nI (if fw then 1 else 0)) = 0 then (if gd_o (some o) < 0 ∨ 179 ≤ (gd_o (some o)).toNatClampNeg then none else (if nI c < 0 ∨ 179 ≤ (nI c).toNatClampNeg then none else (if (((10 : Int32) * (I1 74 (gd_o (some o)).toNatClampNeg)) + (I1 74 (nI c).toNatClampNeg)) < 0 ∨ 100 ≤ (((10 : Int32) * (I1 74 (gd_o (some o)).toNatClampNeg)) + (I1 74 (nI c).toNatClampNeg)).toNatClampNeg then none else (rs_M_asksMinutes_104 I1 (nI (if fw then 1 else 0)) (nI c) (nI k) (gd_o (some o)) (I1 83 (((10 : Int32) * (I1 74 (gd_o (some o)).toNatClampNeg)) + (I1 74 (nI c).toNatClampNeg)).toNatClampNeg) (I1 84 (nI c).toNatClampNeg))))) else (if nI c < 0 ∨ 179 ≤ (nI c).toNatClampNeg then none else (if gd_o (some o) < 0 ∨ 179 ≤ (gd_o (some o)).toNatClampNeg then none else (if (((10 : Int32) * (I1 74 (nI c).toNatClampNeg)) + (I1 74 (gd_o (some o)).toNatClampNeg)) < 0 ∨ 100 ≤ (((10 : Int32) * (I1 74 (nI c).toNatClampNeg)) + (I1 74 (gd_o (some o)).toNatClampNeg)).toNatClampNeg then none else (rs_M_asksMinutes_104 I1 (nI (if fw then 1 else 0)) (nI c) (nI k) (gd_o (some o)) (I1 83 (((10 : Int32) * (I1 74 (nI c).toNatClampNeg)) + (I1 74 (gd_o (some o)).toNatClampNeg)).toNatClampNeg) (I1 84 (nI c).toNatClampNeg)))))))) : Option (((Int32 × (Nat → Nat → Int32)) ⊕ (((Int32 × (Nat → Nat → Int32)) ⊕ ((Nat → Nat → Int32))))))) = rs_M_asksMinutes_104 I1 (nI (if fw then 1 else 0)) (nI c) (nI k) (nI o) s0 (nI (m1 c)) := by
        cases fw with
        | true =>
          refine ⟨I1 83 (10 * h c + h o), by rw [((hin.fr hf).2 _ (by omega)).1]; rfl, ?_⟩
          simp (disch := omega) only [bz_lit, nI_leI, nI_ltI, nI_eq, nI_clamp, nI_add, pk_sub, pk_mul, bz_nlt, bz_nle, bz_ltn, bz_len, bz_neq, bz_eqn, bz_nn, ↓reduceIte, Bool.false_eq_true, if_pos, if_neg, gd_o, a1, b1, d1]
        | false =>
          refine ⟨I1 83 (10 * h o + h c), by rw [((hin.fr hf).2 _ (by omega)).1]; rfl, ?_⟩
          simp (disch := omega) only [bz_lit, nI_leI, nI_ltI, nI_eq, nI_clamp, nI_add, pk_sub, pk_mul, bz_nlt, bz_nle, bz_ltn, bz_len, bz_neq, bz_eqn, bz_nn, ↓reduceIte, Bool.false_eq_true, if_pos, if_neg, gd_o, a1, b1, d1]
      obtain ⟨s0, rfl, key⟩ := key
      rw [key, hmc1]
      unfold rs_M_asksMinutes_104 rs_M_asksMinutes_137
      by_cases hl : m1 o ≤ m c + dk_W h t fw c o
      · refine az_nxt (nI (k + 1), az_u I1 84 o (nI (m1 o))) (by simp (disch := omega) only [bz_lit, nI_leI, nI_ltI, nI_eq, nI_clamp, nI_add, pk_sub, pk_mul, bz_nlt, bz_nle, bz_ltn, bz_len, bz_neq, bz_eqn, bz_nn, ↓reduceIte, Bool.false_eq_true, if_pos, if_neg, e1]) ⟨rfl, hf.u (Or.inl rfl), m1, ?_, hA, fun w hw o' ho' => ?_⟩
        · intro x hx
          obtain ⟨g1, g2, g3⟩ := hm1 x hx
          (try dsimp only)
          refine ⟨?_, g2, by rw [az_un (by omega)]; exact g3⟩
          by_cases q : x = o
          · subst q; exact az_us
          · rw [az_un (by omega)]; exact g1
        · rcases Nat.lt_or_ge w k with q | q
          · exact hB w q o' ho'
          · have : w = k := by omega
            subst this
            rw [hs] at ho'
            injection ho' with ho'
            subst ho'
            exact hl
      · refine az_nxt (nI (k + 1), az_u I1 84 o (nI (m c + dk_W h t fw c o))) (by simp (disch := omega) only [bz_lit, nI_leI, nI_ltI, nI_eq, nI_clamp, nI_add, pk_sub, pk_mul, bz_nlt, bz_nle, bz_ltn, bz_len, bz_neq, bz_eqn, bz_nn, ↓reduceIte, Bool.false_eq_true, if_pos, if_neg, e1]) ⟨rfl, hf.u (Or.inl rfl), fun x => if x = o then m c + dk_W h t fw c o else m1 x, ?_, ?_, fun w hw o' ho' => ?_⟩
        · intro x hx
          obtain ⟨g1, g2, g3⟩ := hm1 x hx
          (try dsimp only)
          by_cases q : x = o
          · subst q
            rw [if_pos rfl]
            exact ⟨az_us, by omega, by rw [az_un (by omega)]; exact g3⟩
          · rw [if_neg q]
            exact ⟨by rw [az_un (by omega)]; exact g1, g2, by rw [az_un (by omega)]; exact g3⟩
        · intro x hx
          (try dsimp only)
          by_cases q : x = o
          · subst q
            rw [if_pos rfl]
            refine Or.inr ⟨?_, hco, rfl⟩
            rcases hA x hx with z | z <;> omega
          · rw [if_neg q]
            exact hA x hx
        · (try dsimp only)
          by_cases q : o' = o
          · subst q
            rw [if_pos rfl]
            exact Nat.le_refl _
          · rw [if_neg q]
            rcases Nat.lt_or_ge w k with z | z
            · exact hB w z o' ho'
            · have : w = k := by omega
              subst this
              rw [hs] at ho'
              injection ho' with ho'
              exact absurd ho'.symm q
  · intro s hi
    obtain ⟨v4, I1⟩ := s
    obtain ⟨e, hf, m1, hm1, hA, hB⟩ := hi
    (try dsimp only at e hf hm1)
    subst e
    obtain ⟨x, hx, hb⟩ := dk_near hm1
    refine ⟨.inl (x, I1), ?_, x, I1, rfl, hf, m1, hm1, hb, hA, fun o ⟨w, hw, ho⟩ => hB w hw o ho⟩
    show rs_M_asksMinutes_58_b (nI (if fw then 1 else 0)) (nI c) (nI 4) I1 = _
    unfold rs_M_asksMinutes_58_b rs_M_asksMinutes_144
    rw [hx, if_pos (by decide)]
    rfl

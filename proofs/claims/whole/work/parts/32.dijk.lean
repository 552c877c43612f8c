/-! THE REFERENCE'S SHORTEST MINUTES -/
/-- the heights, the step minutes: what the reference's search reads -/
def dk_in (I : Nat → Nat → Int32) (h t : Nat → Nat) : Prop :=
  (∀ c, c < 144 → I 74 c = nI (h c) ∧ h c < 10) ∧ (∀ k, k < 100 → I 83 k = nI (t k) ∧ 1 ≤ t k ∧ t k ≤ 99)
def dk_W (h t : Nat → Nat) (fw : Bool) (c o : Nat) : Nat := if fw then t (10 * h c + h o) else t (10 * h o + h c)
def dk_m (I : Nat → Nat → Int32) (m : Nat → Nat) (st : Nat → Bool) : Prop :=
  ∀ c, c < 144 → I 84 c = nI (m c) ∧ m c ≤ 1000000 ∧ I 85 c = (if st c then 1 else 0)
theorem dk_near {I : Nat → Nat → Int32} {m : Nat → Nat} {st : Nat → Bool} (h : dk_m I m st) :
    ∃ x, rs_M_nearestOpen I = some x ∧ ((x = -1 ∧ ∀ c, c < 144 → st c = true ∨ 1000000 ≤ m c) ∨
      ∃ b, b < 144 ∧ x = nI b ∧ st b = false ∧ m b < 1000000 ∧ ∀ c, c < 144 → st c = false → m b ≤ m c) := by
  unfold rs_M_nearestOpen rs_M_nearestOpen_4
  refine az_for0 (fun k (s : Int32 × Int32) => s.2 = nI k ∧ ((s.1 = -1 ∧ ∀ c, c < k → st c = true ∨ 1000000 ≤ m c) ∨
      ∃ b, b < k ∧ s.1 = nI b ∧ st b = false ∧ m b < 1000000 ∧ ∀ c, c < k → st c = false → m b ≤ m c)) 144 (by omega) ⟨rfl, Or.inl ⟨rfl, fun c hc => absurd hc (Nat.not_lt_zero c)⟩⟩ ?_ ?_
  · intro k s hk hi
    obtain ⟨v1, v2⟩ := s
    obtain ⟨rfl, hi⟩ := hi
    obtain ⟨h1, h2, h3⟩ := h k hk
    show ∃ o, rs_M_nearestOpen_4_b I v1 (nI k) = some o ∧ _
    unfold rs_M_nearestOpen_4_b
    rw [if_neg (nI_ge hk (by omega)), if_neg (nI_in hk (by omega)), nI_clamp (by omega), h1, h3, nI_1]
    cases hst : st k with
    | true =>
      rw [if_pos rfl, if_neg (by decide)]
      refine ⟨_, rfl, rfl, ?_⟩
      rcases hi with ⟨rfl, hi⟩ | ⟨b, hb, rfl, hb1, hb2, hi⟩
      · refine Or.inl ⟨rfl, fun c hc => ?_⟩
        rcases Nat.lt_or_ge c k with q | q
        · exact hi c q
        · have : c = k := by omega
          subst this
          exact Or.inl hst
      · refine Or.inr ⟨b, by omega, rfl, hb1, hb2, fun c hc hcs => ?_⟩
        rcases Nat.lt_or_ge c k with q | q
        · exact hi c q hcs
        · have : c = k := by omega
          subst this
          rw [hst] at hcs
          cases hcs
    | false =>
      rw [if_neg (by decide), if_pos rfl, if_neg (nI_in hk (by omega))]
      by_cases hm : 1000000 ≤ m k
      · rw [if_pos (show (1000000 : Int32) ≤ nI (m k) from nI_le hm (by omega))]
        refine ⟨_, rfl, rfl, ?_⟩
        rcases hi with ⟨rfl, hi⟩ | ⟨b, hb, rfl, hb1, hb2, hi⟩
        · refine Or.inl ⟨rfl, fun c hc => ?_⟩
          rcases Nat.lt_or_ge c k with q | q
          · exact hi c q
          · have : c = k := by omega
            subst this
            exact Or.inr hm
        · refine Or.inr ⟨b, by omega, rfl, hb1, hb2, fun c hc hcs => ?_⟩
          rcases Nat.lt_or_ge c k with q | q
          · exact hi c q hcs
          · have : c = k := by omega
            subst this
            omega
      · rw [if_neg (show ¬ (1000000 : Int32) ≤ nI (m k) from nI_ge (by omega) (by omega))]
        rcases hi with ⟨rfl, hi⟩ | ⟨b, hb, rfl, hb1, hb2, hi⟩
        · rw [if_pos (by decide)]
          refine ⟨_, rfl, rfl, Or.inr ⟨k, by omega, rfl, hst, by omega, fun c hc hcs => ?_⟩⟩
          rcases Nat.lt_or_ge c k with q | q
          · rcases hi c q with z | z
            · rw [z] at hcs; cases hcs
            · omega
          · have : c = k := by omega
            subst this
            omega
        · obtain ⟨g1, g2, g3⟩ := h b (by omega)
          rw [if_neg (nI_pos (by omega)), if_neg (nI_in (by omega : b < 144) (by omega)), nI_clamp (by omega), g1]
          by_cases hl : m b ≤ m k
          · rw [if_pos (nI_le hl (by omega))]
            refine ⟨_, rfl, rfl, Or.inr ⟨b, by omega, rfl, hb1, hb2, fun c hc hcs => ?_⟩⟩
            rcases Nat.lt_or_ge c k with q | q
            · exact hi c q hcs
            · have : c = k := by omega
              subst this
              exact hl
          · rw [if_neg (nI_ge (by omega) (by omega))]
            refine ⟨_, rfl, rfl, Or.inr ⟨k, by omega, rfl, hst, by omega, fun c hc hcs => ?_⟩⟩
            rcases Nat.lt_or_ge c k with q | q
            · have := hi c q hcs
              omega
            · have : c = k := by omega
              subst this
              omega
  · intro s hi
    obtain ⟨v1, v2⟩ := s
    obtain ⟨rfl, hi⟩ := hi
    exact ⟨v1, by show rs_M_nearestOpen_4_b I v1 (nI 144) = _; unfold rs_M_nearestOpen_4_b; rw [if_pos (by decide)], hi⟩

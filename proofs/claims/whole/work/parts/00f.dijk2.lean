/-! THE REFERENCE'S SEARCH, WHOLE -/
def dk_I (W : Nat → Nat → Nat) (s : Nat) (m : Nat → Nat) (st : Nat → Bool) : Prop :=
  m s = 0 ∧ (∀ c, c < 144 → st c = true → m c < 1000000 ∧ ∀ o, gd_e c o → m o ≤ m c + W c o) ∧
  (∀ o, o < 144 → o ≠ s → m o < 1000000 → ∃ c, c < 144 ∧ st c = true ∧ gd_e c o ∧ m o = m c + W c o) ∧
  (∀ c o, c < 144 → o < 144 → st c = true → st o = false → m c ≤ m o) ∧ (∀ o, o < 144 → m o < 1000000 → m o ≤ 99 * gd_n st 144)
theorem dk_step {W : Nat → Nat → Nat} {s c : Nat} {m m' : Nat → Nat} {st : Nat → Bool} (hW : gd_W W) (hs : s < 144) (h : dk_I W s m st) (hc : c < 144) (hst : st c = false) (hmc : m c < 1000000)
    (hmin : ∀ o, o < 144 → st o = false → m c ≤ m o)
    (hA : ∀ o, o < 144 → m' o = m o ∨ (m' o < m o ∧ gd_e c o ∧ m' o = m c + W c o)) (hB : ∀ o, gd_e c o → m' o ≤ m c + W c o) :
    dk_I W s m' (fun x => if x = c then true else st x) := by
  obtain ⟨h1, h2, h3, h4, h5⟩ := h
  have hn := gd_n_set hst 144 hc
  have hmc' : m' c = m c := by
    rcases hA c hc with q | ⟨_, ⟨w, _, q⟩, _⟩
    · exact q
    · exact absurd rfl (gd_ne q)
  have hset : ∀ o, o < 144 → st o = true → m' o = m o := by
    intro o ho hso
    rcases hA o ho with q | ⟨q1, q2, q3⟩
    · exact q
    · have := h4 o c ho hc hso hst
      omega
  have hle : ∀ o, o < 144 → m' o ≤ m o := by
    intro o ho
    rcases hA o ho with q | ⟨q1, q2, q3⟩ <;> omega
  refine ⟨?_, ?_, ?_, ?_, ?_⟩
  · have := hle s hs
    omega
  · intro x hx hsx
    (try dsimp only at hsx)
    by_cases e : x = c
    · subst e
      rw [hmc']
      exact ⟨hmc, hB⟩
    · rw [if_neg e] at hsx
      obtain ⟨g1, g2⟩ := h2 x hx hsx
      rw [hset x hx hsx]
      refine ⟨g1, fun o ho => ?_⟩
      have := g2 o ho
      have := hle o (gd_elt hx ho)
      omega
  · intro o ho hne hlt
    rcases hA o ho with q | ⟨q1, q2, q3⟩
    · rw [q] at hlt
      obtain ⟨d, hd, hd1, hd2, hd3⟩ := h3 o ho hne hlt
      have hdc : d ≠ c := by
        intro e
        rw [e, hst] at hd1
        cases hd1
      refine ⟨d, hd, ?_, hd2, ?_⟩
      · (try dsimp only)
        rw [if_neg hdc]
        exact hd1
      · rw [q, hset d hd hd1]
        exact hd3
    · exact ⟨c, hc, if_pos rfl, q2, by rw [hmc']; exact q3⟩
  · intro x o hx ho hsx hso
    (try dsimp only at hsx hso)
    by_cases e : o = c
    · rw [if_pos e] at hso
      cases hso
    · rw [if_neg e] at hso
      have ho1 := hmin o ho hso
      have hmx : m' x ≤ m c := by
        by_cases f : x = c
        · subst f; omega
        · rw [if_neg f] at hsx
          rw [hset x hx hsx]
          exact h4 x c hx hc hsx hst
      rcases hA o ho with q | ⟨q1, q2, q3⟩
      · omega
      · omega
  · intro o ho hlt
    rw [hn]
    have hcb := h5 c hc hmc
    rcases hA o ho with q | ⟨q1, q2, q3⟩
    · rw [q] at hlt ⊢
      have := h5 o ho hlt
      omega
    · have := hW c o hc q2
      omega
theorem dk_end {W : Nat → Nat → Nat} {s : Nat} {m : Nat → Nat} {st : Nat → Bool} (hW : gd_W W) (hs : s < 144) (h : dk_I W s m st) (he : ∀ c, c < 144 → st c = true ∨ 1000000 ≤ m c) : gd_D W s m := by
  obtain ⟨h1, h2, h3, h4, h5⟩ := h
  have hn := gd_n_le st 144
  have all : ∀ c, c < 144 → st c = true := by
    refine gd_all hs ?_ ?_
    · rcases he s hs with q | q
      · exact q
      · omega
    · intro c o hc hco hst
      obtain ⟨a, b⟩ := h2 c hc hst
      have := b o hco
      have w := hW c o hc hco
      have := h5 c hc a
      rcases he o (gd_elt hc hco) with q | q
      · exact q
      · omega
  refine ⟨h1, fun c o hc hco => (h2 c hc (all c hc)).2 o hco, fun o ho hne => ?_⟩
  obtain ⟨c, a, _, b, d⟩ := h3 o ho hne (h2 o ho (all o ho)).1
  exact ⟨c, a, b, d⟩
/-- the loop -/
theorem dk_loop {I : Nat → Nat → Int32} {h t m : Nat → Nat} {st : Nat → Bool} {s : Nat} {fw : Bool} {x : Int32} (hin : dk_in I h t) (hs : s < 144) (hm : dk_m I m st) (hI : dk_I (dk_W h t fw) s m st) (hx : dk_best m st 144 x) (h0 : gd_n st 144 = 0) :
    ∃ I', rs_M_asksMinutes_44 I (nI (if fw then 1 else 0)) x = some I' ∧ az_fr dk_F I I' ∧ ∃ D, gd_D (dk_W h t fw) s D ∧ ∀ c, c < 144 → I' 84 c = nI (D c) := by
  unfold rs_M_asksMinutes_44
  have hW := dk_Wb hin fw
  refine az_for0 (fun k (p : Int32 × (Nat → Nat → Int32)) => az_fr dk_F I p.2 ∧ ∃ m st, dk_m p.2 m st ∧ dk_I (dk_W h t fw) s m st ∧ dk_best m st 144 p.1 ∧ gd_n st 144 = k) 144 (by omega) ⟨az_fr.refl, m, st, hm, hI, hx, h0⟩ ?_ ?_
  · intro k p hk hi
    obtain ⟨v, I1⟩ := p
    obtain ⟨hf, m1, st1, hm1, hI1, hb, hn⟩ := hi
    (try dsimp only at hf hm1 hb)
    show ∃ o, rs_M_asksMinutes_44_b (nI (if fw then 1 else 0)) v I1 = some o ∧ _
    unfold rs_M_asksMinutes_44_b
    rcases hb with ⟨e, hb⟩ | ⟨b, hb0, e, hb1, hb2, hb3⟩
    · subst e
      refine az_out I1 (by simp (disch := omega) only [bz_lit, nI_leI, nI_ltI, nI_eq, nI_clamp, nI_add, pk_sub, pk_mul, bz_nlt, bz_nle, bz_ltn, bz_len, bz_neq, bz_eqn, bz_nn, ↓reduceIte, Bool.false_eq_true, if_pos, if_neg]) ⟨hf, m1, dk_end hW hs hI1 hb, fun c hc => (hm1 c hc).1⟩
    · subst e
      have hb5 := hI1.2.2.2.2 b hb0 hb2
      have hm2 : dk_m (az_u I1 85 b 1) m1 (fun x => if x = b then true else st1 x) := by
        intro c hc
        obtain ⟨g1, g2, g3⟩ := hm1 c hc
        refine ⟨by rw [az_un (by omega)]; exact g1, g2, ?_⟩
        by_cases q : c = b
        · subst q
          rw [az_us]
          simp only [↓reduceIte]
          rfl
        · rw [az_un (by omega)]
          simp only [q, ↓reduceIte]
          exact g3
      have hf2 : az_fr dk_F I (az_u I1 85 b 1) := hf.u (Or.inr rfl)
      obtain ⟨y, hy, x', I', rfl, hf3, m', hm3, hbest, hA, hB⟩ := dk_relax (fw := fw) (hin.fr hf2) hm2 hb0 (by omega)
      refine az_nxt (x', I') ?_ ⟨hf2.trans hf3, m', _, hm3, dk_step hW hs hI1 hb0 hb1 hb2 hb3 hA hB, hbest, by rw [gd_n_set hb1 144 hb0, hn]⟩
      rw [if_neg (nI_pos (by omega)), if_neg (nI_in hb0 (by decide)), nI_clamp (by omega)]
      exact hy
  · intro p hi
    obtain ⟨v, I1⟩ := p
    obtain ⟨hf, m1, st1, hm1, hI1, hb, hn⟩ := hi
    (try dsimp only at hf hm1 hb)
    have all := gd_n_all 144 hn
    rcases hb with ⟨e, hb⟩ | ⟨b, hb0, e, hb1, hb2, hb3⟩
    · subst e
      refine ⟨I1, ?_, hf, m1, dk_end hW hs hI1 hb, fun c hc => (hm1 c hc).1⟩
      show rs_M_asksMinutes_44_b (nI (if fw then 1 else 0)) (-nI 1) I1 = _
      unfold rs_M_asksMinutes_44_b
      simp (disch := omega) only [bz_lit, nI_leI, nI_ltI, nI_eq, nI_clamp, nI_add, pk_sub, pk_mul, bz_nlt, bz_nle, bz_ltn, bz_len, bz_neq, bz_eqn, bz_nn, ↓reduceIte, Bool.false_eq_true, if_pos, if_neg]
    · rw [all b hb0] at hb1
      cases hb1
/-- MINUTES FROM ALL CELLS TO ONE, OR FROM IT -/
theorem dk_asks {I : Nat → Nat → Int32} {h t : Nat → Nat} {s : Nat} (fw : Bool) (hin : dk_in I h t) (hs : s < 144) :
    ∃ I', rs_M_asksMinutes I (nI s) (nI (if fw then 1 else 0)) = some I' ∧ az_fr dk_F I I' ∧ ∃ D, gd_D (dk_W h t fw) s D ∧ ∀ c, c < 144 → I' 84 c = nI (D c) := by
  unfold rs_M_asksMinutes rs_M_asksMinutes_2
  refine az_for0 (fun k (p : Int32 × (Nat → Nat → Int32)) => p.1 = nI k ∧ az_fr dk_F I p.2 ∧ ∀ c, c < k → p.2 84 c = nI (if c = s then 0 else 1000000) ∧ p.2 85 c = nI 0) 144 (by omega) ⟨rfl, az_fr.refl, fun c hc => absurd hc (Nat.not_lt_zero c)⟩ ?_ ?_
  · intro k p hk hi
    obtain ⟨v, I1⟩ := p
    obtain ⟨e, hf, hi⟩ := hi
    (try dsimp only at e hf hi)
    subst e
    show ∃ o, rs_M_asksMinutes_2_b (nI s) (nI (if fw then 1 else 0)) (nI k) I1 = some o ∧ _
    unfold rs_M_asksMinutes_2_b rs_M_asksMinutes_25
    refine az_nxt (nI (k + 1), az_u (az_u I1 84 k (nI (if k = s then 0 else 1000000))) 85 k (nI 0)) ?_ ⟨rfl, (hf.u (Or.inl rfl)).u (Or.inr rfl), ?_⟩
    · by_cases q : k = s
      · subst q
        simp (disch := omega) only [bz_lit, nI_leI, nI_ltI, nI_eq, nI_clamp, nI_add, pk_sub, pk_mul, bz_nlt, bz_nle, bz_ltn, bz_len, bz_neq, bz_eqn, bz_nn, ↓reduceIte, Bool.false_eq_true, if_pos, if_neg]
      · simp (disch := omega) only [bz_lit, nI_leI, nI_ltI, nI_eq, nI_clamp, nI_add, pk_sub, pk_mul, bz_nlt, bz_nle, bz_ltn, bz_len, bz_neq, bz_eqn, bz_nn, ↓reduceIte, Bool.false_eq_true, if_pos, if_neg, q]
    · intro c hc
      (try dsimp only)
      by_cases q : c = k
      · subst q
        refine ⟨?_, az_us⟩
        rw [az_un (by omega), az_us]
      · rw [az_un (by omega), az_un (by omega), az_un (by omega), az_un (by omega)]
        exact hi c (by omega)
  · intro p hi
    obtain ⟨v, I1⟩ := p
    obtain ⟨e, hf, hi⟩ := hi
    (try dsimp only at e hf hi)
    subst e
    show ∃ o, rs_M_asksMinutes_2_b (nI s) (nI (if fw then 1 else 0)) (nI 144) I1 = some (.inr o) ∧ _
    unfold rs_M_asksMinutes_2_b rs_M_asksMinutes_39
    have hm : dk_m I1 (fun c => if c = s then 0 else 1000000) (fun _ => false) := by
      intro c hc
      obtain ⟨g1, g2⟩ := hi c hc
      refine ⟨g1, ?_, g2⟩
      (try dsimp only)
      split <;> omega
    obtain ⟨x, hx, hb⟩ := dk_near hm
    have hI : dk_I (dk_W h t fw) s (fun c => if c = s then 0 else 1000000) (fun _ => false) := by
      refine ⟨if_pos rfl, fun c _ q => (by cases q), fun o ho hne hlt => ?_, fun c o _ _ q => (by cases q), fun o ho hlt => ?_⟩
      · (try dsimp only at hlt)
        rw [if_neg hne] at hlt
        omega
      · (try dsimp only at hlt ⊢)
        by_cases q : o = s
        · rw [if_pos q]; omega
        · rw [if_neg q] at hlt; omega
    obtain ⟨I', hI', hf', D, hD, hDe⟩ := dk_loop (hin.fr hf) hs hm hI hb (gd_n_false 144)
    refine ⟨I', ?_, hf.trans hf', D, hD, hDe⟩
    rw [if_pos (by decide), hx]
    (try dsimp only)
    rw [hI']
    rfl

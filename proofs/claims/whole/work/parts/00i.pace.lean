/-! SHORTEST MINUTES AS A FUNCTION; PACES, STEP MINUTES -/
noncomputable def ds_d (W : Nat → Nat → Nat) (s : Nat) : Nat → Nat := Classical.epsilon (gd_D W s)
def th_ok (h t : Nat → Nat) : Prop := (∀ c, c < 144 → h c < 10) ∧ (∀ k, k < 100 → 1 ≤ t k ∧ t k ≤ 99)
theorem th_W {h t : Nat → Nat} (o : th_ok h t) (fw : Bool) : gd_W (dk_W h t fw) := fun c x hc he => by
  have a := o.1 c hc
  have b := o.1 x (gd_elt hc he)
  unfold dk_W
  split
  · exact o.2 _ (by omega)
  · exact o.2 _ (by omega)
theorem gd_ex {h t : Nat → Nat} (o : th_ok h t) (fw : Bool) {s : Nat} (hs : s < 144) : ∃ D, gd_D (dk_W h t fw) s D := by
  have hin : dk_in (fun r k => if r = 74 then nI (h k) else nI (t k)) h t :=
    ⟨fun c hc => ⟨if_pos rfl, o.1 c hc⟩, fun k hk => ⟨if_neg (by omega), o.2 k hk⟩⟩
  obtain ⟨_, _, _, D, hD, _⟩ := dk_asks fw hin hs
  exact ⟨D, hD⟩
theorem gd_is {h t : Nat → Nat} (o : th_ok h t) (fw : Bool) {s : Nat} (hs : s < 144) : gd_D (dk_W h t fw) s (ds_d (dk_W h t fw) s) := Classical.epsilon_spec (gd_ex o fw hs)
theorem gd_d_eq {h t : Nat → Nat} (o : th_ok h t) (fw : Bool) {s : Nat} (hs : s < 144) {D : Nat → Nat} (hD : gd_D (dk_W h t fw) s D) {c : Nat} (hc : c < 144) : D c = ds_d (dk_W h t fw) s c := gd_D.eq (th_W o fw) hD (gd_is o fw hs) hc
theorem gd_d_turn {h t : Nat → Nat} (o : th_ok h t) {a b : Nat} (ha : a < 144) (hb : b < 144) : ds_d (dk_W h t true) a b = ds_d (dk_W h t false) b a :=
  gd_D.turn (th_W o true) (gd_is o true ha) (gd_is o false hb) ha hb
theorem gd_d_le {h t : Nat → Nat} (o : th_ok h t) (fw : Bool) {s c : Nat} (hs : s < 144) (hc : c < 144) : ds_d (dk_W h t fw) s c ≤ 2178 := gd_D.lt (th_W o fw) (gd_is o fw hs) hs c hc
theorem sp_far {I : Nat → Nat → Int32} {p q s : Nat} {h t : Nat → Nat} (o : th_ok h t) (fw : Bool) (hp : p = 26 ∨ p = 29) (hq : q = 33 ∨ q = 34) (hin : sp_in I p h t) (hs : s < 144) :
    ∃ I', rs_Fi_spread p q I (nI s) (nI (if fw then 0 else 1)) (-1) = some I' ∧ az_fr (sp_F q) I I' ∧ ∀ c, c < 144 → I' q c = nI (ds_d (dk_W h t fw) s c) := by
  obtain ⟨I', r, hf, hor⟩ := sp_spread fw (goal := -1) hp hq hin hs
  refine ⟨I', r, hf, ?_⟩
  rcases hor with ⟨D, hD, hc⟩ | ⟨g, hg, e, _⟩
  · intro c hc'
    rw [hc c hc', gd_d_eq o fw hs hD hc']
  · exfalso
    have := (bz_neq (a := 1) (b := g) (by omega) (by omega)).mp e
    omega
theorem sp_min {I : Nat → Nat → Int32} {p a b : Nat} {h t : Nat → Nat} (o : th_ok h t) (hp : p = 26 ∨ p = 29) (hin : sp_in I p h t) (ha : a < 144) (hb : b < 144) :
    ∃ I', rs_Fi_minutes p I (nI a) (nI b) = some (nI (ds_d (dk_W h t true) a b), I') ∧ az_fr (sp_F 33) I I' := by
  unfold rs_Fi_minutes
  by_cases e : a = b
  · subst e
    refine ⟨I, ?_, az_fr.refl⟩
    rw [if_pos rfl, (gd_is o true ha).1]
    rfl
  · obtain ⟨I', r, hf, hor⟩ := sp_spread true (goal := nI b) hp (Or.inl rfl) hin ha
    refine ⟨I', ?_, hf⟩
    rw [if_neg (fun q => e ((nI_eq (by omega) (by omega)).mp q))]
    rw [show nI (if true then 0 else 1) = (0 : Int32) from rfl] at r
    rw [r]
    (try dsimp only)
    rw [if_neg (nI_in hb (by decide)), nI_clamp (by omega)]
    rcases hor with ⟨D, hD, hc⟩ | ⟨g, hg, e, hc⟩
    · rw [hc b hb, gd_d_eq o true ha hD hb]
    · have := (nI_eq (by omega) (by omega)).mp e
      subst this
      rw [hc _ (gd_is o true ha)]
theorem dk_far {I : Nat → Nat → Int32} {s : Nat} {h t : Nat → Nat} (o : th_ok h t) (fw : Bool) (hin : dk_in I h t) (hs : s < 144) :
    ∃ I', rs_M_asksMinutes I (nI s) (nI (if fw then 1 else 0)) = some I' ∧ az_fr dk_F I I' ∧ ∀ c, c < 144 → I' 84 c = nI (ds_d (dk_W h t fw) s c) := by
  obtain ⟨I', r, hf, D, hD, hc⟩ := dk_asks fw hin hs
  exact ⟨I', r, hf, fun c hc' => by rw [hc c hc', gd_d_eq o fw hs hD hc']⟩
theorem dk_min {I : Nat → Nat → Int32} {a b : Nat} {h t : Nat → Nat} (o : th_ok h t) (hin : dk_in I h t) (ha : a < 144) (hb : b < 144) :
    ∃ I', rs_M_between I (nI a) (nI b) = some (nI (ds_d (dk_W h t true) a b), I') ∧ az_fr dk_F I I' := by
  obtain ⟨I', r, hf, hc⟩ := dk_far o false hin hb
  refine ⟨I', ?_, hf⟩
  unfold rs_M_between
  rw [show nI (if false then 1 else 0) = (0 : Int32) from rfl] at r
  rw [r]
  (try dsimp only)
  rw [if_neg (nI_in ha (by decide)), nI_clamp (by omega), hc a ha, gd_d_turn o ha hb]
/-! the law as a function -/
abbrev lw_T : Type := Int32 → Int32 → Int32 → Int32 → Int32 → Int32 → Nat
def lw_B (L : lw_T) : Prop := ∀ u k l s w h, 1 ≤ L u k l s w h ∧ L u k l s w h ≤ 99
def lw_X (I : Nat → Nat → Int32) (rl : Nat) (L : lw_T) : Prop := ∀ I', (∀ r k, r = rl ∨ r = rl + 1 ∨ r = rl + 2 → I' r k = I r k) →
  ∀ u k l s w h, ∃ I'', rs_La_minutes rl I' u k l s w h = some (nI (L u k l s w h), I'') ∧ az_fr (fun r _ => r = rl + 3 ∨ r = rl + 4) I' I''
def lw_M (I : Nat → Nat → Int32) (L : lw_T) : Prop := ∀ I', I' 73 13 = I 73 13 → (∀ k, I' 81 k = I 81 k) →
  ∀ a b he lo sh we, ∃ I'', rs_M_stepBy I' a b he lo sh we = some (nI (L (b - a) he lo sh we b), I'') ∧ az_fr (fun r k => r = 82 ∨ (r = 73 ∧ 14 ≤ k ∧ k ≤ 18)) I' I''
/-- step minutes by heights -/
def tt (L : lw_T) (he lo sh we : Int32) (k : Nat) : Nat := L (nI (k % 10) - nI (k / 10)) he lo sh we (nI (k % 10))
def pc_F (p : Nat) : Nat → Nat → Prop := fun r _ => r = 19 ∨ r = 20 ∨ r = 24 ∨ r = 25 ∨ r = p + 1
def pc_B (p : Nat) : Nat → Nat → Prop := fun r _ => r = 19 ∨ r = 20 ∨ r = 24 ∨ r = 25 ∨ r = p + 1 ∨ r = p ∨ r = p + 2
def pc_ok (I : Nat → Nat → Int32) (p : Nat) (h : Nat → Nat) : Prop := (∀ c, c < 144 → I 5 c = nI (h c) ∧ h c < 10) ∧ (∀ c o, c < 144 → gd_e c o → I (p + 2) (10 * h c + h o) ≠ 0)
theorem pc_fill {I : Nat → Nat → Int32} {p rl : Nat} {h : Nat → Nat} {L : lw_T} (hp : p = 26 ∨ p = 29) (hrl : rl = 16 ∨ rl = 21) (hL : lw_X I rl L) (hB : lw_B L) (hok : pc_ok I p h) :
    ∃ I', rs_Pa_fill p rl I = some I' ∧ az_fr (pc_F p) I I' ∧ sp_in I' p h (tt L (I p 4) (I p 5) (I p 6) (I p 7)) := by
  have main : ∃ I', rs_Pa_fill p rl I = some I' ∧ az_fr (pc_F p) I I' ∧ ∀ j, j < 100 → I (p + 2) j ≠ 0 → I' (p + 1) j = nI (tt L (I p 4) (I p 5) (I p 6) (I p 7) j) := by
    unfold rs_Pa_fill rs_Pa_fill_2
    refine az_for0 (fun k (z : Int32 × (Nat → Nat → Int32)) => z.1 = nI k ∧ az_fr (pc_F p) I z.2 ∧ ∀ j, j < k → I (p + 2) j ≠ 0 → z.2 (p + 1) j = nI (tt L (I p 4) (I p 5) (I p 6) (I p 7) j)) 100 (by omega) ⟨rfl, az_fr.refl, fun j hj => absurd hj (Nat.not_lt_zero j)⟩ ?_ ?_
    · intro k z hk hi
      obtain ⟨v1, I1⟩ := z
      obtain ⟨e, hf, hi⟩ := hi
      (try dsimp only at e hf hi)
      subst e
      show ∃ o, rs_Pa_fill_2_b p rl (nI k) I1 = some o ∧ _
      unfold rs_Pa_fill_2_b
      have e1 : nI k - nI k / 10 * 10 = nI (k % 10) := pk_rem (a := k) (d := 10) (by omega) (by omega) (by omega)
      have e2 : nI k / 10 = nI (k / 10) := pk_div (a := k) (d := 10) (by omega) (by omega) (by omega)
      rw [e1, e2, hf p 4 (by unfold pc_F; omega), hf p 5 (by unfold pc_F; omega), hf p 6 (by unfold pc_F; omega), hf p 7 (by unfold pc_F; omega)]
      have hw2 := hf (p + 2) k (by unfold pc_F; omega)
      by_cases w : I (p + 2) k = nI 0
      · refine az_nxt (nI (k + 1), I1) (by simp (disch := omega) only [bz_lit, nI_leI, nI_ltI, nI_eq, nI_clamp, nI_add, pk_sub, pk_mul, bz_nlt, bz_nle, bz_ltn, bz_len, bz_neq, bz_eqn, bz_nn, ↓reduceIte, Bool.false_eq_true, if_pos, if_neg, hw2, w]) ⟨rfl, hf, fun j hj hw => ?_⟩
        rcases Nat.lt_or_ge j k with q | q
        · exact hi j q hw
        · have : j = k := by omega
          subst this
          exact absurd w hw
      · obtain ⟨I2, r, hf2⟩ := hL I1 (fun r k' hr => hf r k' (by unfold pc_F; omega)) (nI (k % 10) - nI (k / 10)) (I p 4) (I p 5) (I p 6) (I p 7) (nI (k % 10))
        refine az_nxt (nI (k + 1), az_u I2 (p + 1) k (nI (tt L (I p 4) (I p 5) (I p 6) (I p 7) k))) (by rw [r]; simp (disch := omega) only [bz_lit, nI_leI, nI_ltI, nI_eq, nI_clamp, nI_add, pk_sub, pk_mul, bz_nlt, bz_nle, bz_ltn, bz_len, bz_neq, bz_eqn, bz_nn, ↓reduceIte, Bool.false_eq_true, if_pos, if_neg, hw2, w]; rfl) ⟨rfl, (hf.trans (hf2.mono (fun r k' hr => by unfold pc_F; omega))).u (Or.inr (Or.inr (Or.inr (Or.inr rfl)))), fun j hj hw => ?_⟩
        (try dsimp only)
        rcases Nat.lt_or_ge j k with q | q
        · rw [az_un (by omega), hf2 (p + 1) j (by omega)]
          exact hi j q hw
        · have : j = k := by omega
          subst this
          exact az_us
    · intro z hi
      obtain ⟨v1, I1⟩ := z
      obtain ⟨e, hf, hi⟩ := hi
      (try dsimp only at e hf hi)
      subst e
      refine ⟨I1, ?_, hf, hi⟩
      show rs_Pa_fill_2_b p rl (nI 100) I1 = _
      unfold rs_Pa_fill_2_b
      rw [if_pos (by decide)]
  obtain ⟨I', r, hf, hj⟩ := main
  refine ⟨I', r, hf, fun c hc => by rw [hf 5 c (by unfold pc_F; omega)]; exact hok.1 c hc, fun c o hc he => ⟨hj _ ?_ (hok.2 c o hc he), hB _ _ _ _ _ _⟩⟩
  have := (hok.1 c hc).2
  have := (hok.1 o (gd_elt hc he)).2
  omega
theorem pc_want {I : Nat → Nat → Int32} {p a b : Nat} (ha : a < 10) (hb : b < 10) : rs_Pa_want p I (nI a) (nI b) = some (az_u (az_u I (p + 2) (10 * a + b) 1) (p + 2) (10 * b + a) 1) := by
  unfold rs_Pa_want
  have e1 : nI a * 10 + nI b = nI (10 * a + b) := by
    rw [show (10 : Int32) = nI 10 from rfl, pk_mul, nI_add, Nat.mul_comm]
  have e2 : nI b * 10 + nI a = nI (10 * b + a) := by
    rw [show (10 : Int32) = nI 10 from rfl, pk_mul, nI_add, Nat.mul_comm]
  rw [e1, e2, if_neg (nI_in (by omega) (by decide)), if_neg (nI_in (by omega) (by decide)), nI_clamp (by omega), nI_clamp (by omega)]
theorem pc_look {I : Nat → Nat → Int32} {p : Nat} {h : Nat → Nat} (hp : p = 26 ∨ p = 29) (hh : ∀ c, c < 144 → I 5 c = nI (h c) ∧ h c < 10) :
    ∃ I', rs_Pa_lookForPairs p I = some I' ∧ az_fr (fun r _ => r = p + 2) I I' ∧ ∀ c o, c < 144 → gd_e c o → I' (p + 2) (10 * h c + h o) = 1 := by
  have main : ∃ I', rs_Pa_lookForPairs p I = some I' ∧ az_fr (fun r _ => r = p + 2) I I' ∧ ∀ c, c < 144 → (c % 12 < 11 → I' (p + 2) (10 * h c + h (c + 1)) = 1 ∧ I' (p + 2) (10 * h (c + 1) + h c) = 1) ∧ (c < 132 → I' (p + 2) (10 * h c + h (c + 12)) = 1 ∧ I' (p + 2) (10 * h (c + 12) + h c) = 1) := by
    unfold rs_Pa_lookForPairs rs_Pa_lookForPairs_10
    refine az_for0 (fun k (z : Int32 × (Nat → Nat → Int32)) => z.1 = nI k ∧ az_fr (fun r _ => r = p + 2) I z.2 ∧ ∀ c, c < k → (c % 12 < 11 → z.2 (p + 2) (10 * h c + h (c + 1)) = 1 ∧ z.2 (p + 2) (10 * h (c + 1) + h c) = 1) ∧ (c < 132 → z.2 (p + 2) (10 * h c + h (c + 12)) = 1 ∧ z.2 (p + 2) (10 * h (c + 12) + h c) = 1)) 144 (by omega)
      ⟨rfl, az_fr.refl.ur (fun _ => Or.inl rfl), fun j hj => absurd hj (Nat.not_lt_zero j)⟩ ?_ ?_
    · intro k z hk hi
      obtain ⟨v, I1⟩ := z
      obtain ⟨e, hf, hi⟩ := hi
      (try dsimp only at e hf hi)
      subst e
      show ∃ o, rs_Pa_lookForPairs_10_b p (nI k) I1 = some o ∧ _
      have e1 : nI k - nI k / 12 * 12 = nI (k % 12) := pk_rem (a := k) (d := 12) (by omega) (by omega) (by omega)
      obtain ⟨hk1, hk2⟩ := hh k hk
      have step38 : ∀ I2 : Nat → Nat → Int32, az_fr (fun r _ => r = p + 2) I I2 → ∃ I3, rs_Pa_lookForPairs_38 p I2 (nI k) = some (.inl (nI (k + 1), I3)) ∧ az_fr (fun r _ => r = p + 2) I I3 ∧ (∀ j, I2 (p + 2) j = 1 → I3 (p + 2) j = 1) ∧ (k < 132 → I3 (p + 2) (10 * h k + h (k + 12)) = 1 ∧ I3 (p + 2) (10 * h (k + 12) + h k) = 1) := by
        intro I2 hf2
        unfold rs_Pa_lookForPairs_38
        by_cases hl : k < 132
        · obtain ⟨hl1, hl2⟩ := hh (k + 12) (by omega)
          refine ⟨az_u (az_u I2 (p + 2) (10 * h k + h (k + 12)) 1) (p + 2) (10 * h (k + 12) + h k) 1, ?_, (hf2.u rfl).u rfl, fun j hj => ?_, fun _ => ⟨?_, az_us⟩⟩
          · have a1 := (hf2 5 k (by omega)).trans hk1
            have a2 := (hf2 5 (k + 12) (by omega)).trans hl1
            simp (disch := omega) only [bz_lit, nI_leI, nI_ltI, nI_eq, nI_clamp, nI_add, pk_sub, pk_mul, bz_nlt, bz_nle, bz_ltn, bz_len, bz_neq, bz_eqn, bz_nn, ↓reduceIte, Bool.false_eq_true, if_pos, if_neg, a1, a2, pc_want hk2 hl2]
          · by_cases q : j = 10 * h (k + 12) + h k
            · subst q; exact az_us
            · rw [az_un (by omega)]
              by_cases q2 : j = 10 * h k + h (k + 12)
              · subst q2; exact az_us
              · rw [az_un (by omega)]; exact hj
          · by_cases q : 10 * h k + h (k + 12) = 10 * h (k + 12) + h k
            · rw [q]; exact az_us
            · rw [az_un (by omega)]; exact az_us
        · refine ⟨I2, ?_, hf2, fun j hj => hj, fun q => absurd q hl⟩
          simp (disch := omega) only [bz_lit, nI_leI, nI_ltI, nI_eq, nI_clamp, nI_add, pk_sub, pk_mul, bz_nlt, bz_nle, bz_ltn, bz_len, bz_neq, bz_eqn, bz_nn, ↓reduceIte, Bool.false_eq_true, if_pos, if_neg]
      unfold rs_Pa_lookForPairs_10_b
      rw [e1]
      by_cases hx : k % 12 < 11
      · obtain ⟨hl1, hl2⟩ := hh (k + 1) (by omega)
        obtain ⟨I3, r3, hf3, hm3, hd3⟩ := step38 (az_u (az_u I1 (p + 2) (10 * h k + h (k + 1)) 1) (p + 2) (10 * h (k + 1) + h k) 1) ((hf.u rfl).u rfl)
        have hm1 : ∀ j, I1 (p + 2) j = 1 → I3 (p + 2) j = 1 := by
          intro j hj
          refine hm3 j ?_
          by_cases q : j = 10 * h (k + 1) + h k
          · subst q; exact az_us
          · rw [az_un (by omega)]
            by_cases q2 : j = 10 * h k + h (k + 1)
            · subst q2; exact az_us
            · rw [az_un (by omega)]; exact hj
        refine az_nxt (nI (k + 1), I3) ?_ ⟨rfl, hf3, fun c hc => ?_⟩
        · have a1 := (hf 5 k (by omega)).trans hk1
          have a2 := (hf 5 (k + 1) (by omega)).trans hl1
          simp (disch := omega) only [bz_lit, nI_leI, nI_ltI, nI_eq, nI_clamp, nI_add, pk_sub, pk_mul, bz_nlt, bz_nle, bz_ltn, bz_len, bz_neq, bz_eqn, bz_nn, ↓reduceIte, Bool.false_eq_true, if_pos, if_neg, a1, a2, pc_want hk2 hl2]
          exact r3
        · rcases Nat.lt_or_ge c k with q | q
          · obtain ⟨a, b⟩ := hi c q
            exact ⟨fun z => ⟨hm1 _ (a z).1, hm1 _ (a z).2⟩, fun z => ⟨hm1 _ (b z).1, hm1 _ (b z).2⟩⟩
          · have : c = k := by omega
            subst this
            refine ⟨fun _ => ⟨hm3 _ ?_, hm3 _ az_us⟩, hd3⟩
            by_cases q : 10 * h c + h (c + 1) = 10 * h (c + 1) + h c
            · rw [q]; exact az_us
            · rw [az_un (by omega)]; exact az_us
      · obtain ⟨I3, r3, hf3, hm3, hd3⟩ := step38 I1 hf
        refine az_nxt (nI (k + 1), I3) ?_ ⟨rfl, hf3, fun c hc => ?_⟩
        · simp (disch := omega) only [bz_lit, nI_leI, nI_ltI, nI_eq, nI_clamp, nI_add, pk_sub, pk_mul, bz_nlt, bz_nle, bz_ltn, bz_len, bz_neq, bz_eqn, bz_nn, ↓reduceIte, Bool.false_eq_true, if_pos, if_neg]
          exact r3
        · rcases Nat.lt_or_ge c k with q | q
          · obtain ⟨a, b⟩ := hi c q
            exact ⟨fun z => ⟨hm3 _ (a z).1, hm3 _ (a z).2⟩, fun z => ⟨hm3 _ (b z).1, hm3 _ (b z).2⟩⟩
          · have : c = k := by omega
            subst this
            exact ⟨fun q => absurd q hx, hd3⟩
    · intro z hi
      obtain ⟨v1, I1⟩ := z
      obtain ⟨e, hf, hi⟩ := hi
      (try dsimp only at e hf hi)
      subst e
      refine ⟨I1, ?_, hf, hi⟩
      show rs_Pa_lookForPairs_10_b p (nI 144) I1 = _
      unfold rs_Pa_lookForPairs_10_b
      rw [if_pos (by decide)]
  obtain ⟨I', r, hf, hi⟩ := main
  refine ⟨I', r, hf, fun c o hc he => ?_⟩
  have ho := gd_elt hc he
  obtain ⟨w, hw, he⟩ := he
  unfold gd_s at he
  split at he
  · split at he
    · injection he with he
      have := ((hi o ho).2 (by omega)).2
      rw [show o + 12 = c from by omega] at this
      exact this
    · cases he
  · split at he
    · split at he
      · injection he with he
        have := ((hi c hc).1 (by omega)).1
        rw [show c + 1 = o from by omega] at this
        exact this
      · cases he
    · split at he
      · split at he
        · injection he with he
          have := ((hi c hc).2 (by omega)).1
          rw [show c + 12 = o from by omega] at this
          exact this
        · cases he
      · split at he
        · injection he with he
          have := ((hi o ho).1 (by omega)).2
          rw [show o + 1 = c from by omega] at this
          exact this
        · cases he
theorem pc_become {I : Nat → Nat → Int32} {p rl : Nat} {h : Nat → Nat} {L : lw_T} {he lo sh : Int32} (hp : p = 26 ∨ p = 29) (hrl : rl = 16 ∨ rl = 21) (hL : lw_X I rl L) (hB : lw_B L) (hh : ∀ c, c < 144 → I 5 c = nI (h c) ∧ h c < 10) :
    ∃ I', rs_Pa_become p rl I he lo sh = some I' ∧ az_fr (pc_B p) I I' ∧ pc_ok I' p h ∧ sp_in I' p h (tt L he lo sh (I 4 10)) ∧ I' p 4 = he ∧ I' p 5 = lo ∧ I' p 6 = sh ∧ I' p 7 = I 4 10 := by
  unfold rs_Pa_become
  have hf0 : az_fr (fun r _ => r = p) I (az_u (az_u (az_u (az_u I p 7 (I 4 10)) p 4 he) p 5 lo) p 6 sh) := by
    intro r k q
    have q : r ≠ p := q
    rw [az_un (by omega), az_un (by omega), az_un (by omega), az_un (by omega)]
  have v4 : az_u (az_u (az_u (az_u I p 7 (I 4 10)) p 4 he) p 5 lo) p 6 sh p 4 = he := by
    rw [az_un (by omega), az_un (by omega), az_us]
  have v5 : az_u (az_u (az_u (az_u I p 7 (I 4 10)) p 4 he) p 5 lo) p 6 sh p 5 = lo := by
    rw [az_un (by omega), az_us]
  have v6 : az_u (az_u (az_u (az_u I p 7 (I 4 10)) p 4 he) p 5 lo) p 6 sh p 6 = sh := az_us
  have v7 : az_u (az_u (az_u (az_u I p 7 (I 4 10)) p 4 he) p 5 lo) p 6 sh p 7 = I 4 10 := by
    rw [az_un (by omega), az_un (by omega), az_un (by omega), az_us]
  generalize az_u (az_u (az_u (az_u I p 7 (I 4 10)) p 4 he) p 5 lo) p 6 sh = I0 at hf0 v4 v5 v6 v7 ⊢
  obtain ⟨I1, r1, hf1, hw⟩ := pc_look hp (I := I0) (h := h) (fun c hc => by rw [hf0 5 c (by omega)]; exact hh c hc)
  rw [r1]
  (try dsimp only)
  have hf01 : az_fr (pc_B p) I I1 := (hf0.mono (fun r k q => by unfold pc_B; omega)).trans (hf1.mono (fun r k q => by unfold pc_B; omega))
  have hok1 : pc_ok I1 p h := ⟨fun c hc => by rw [hf01 5 c (by unfold pc_B; omega)]; exact hh c hc, fun c o hc he => by rw [hw c o hc he]; decide⟩
  obtain ⟨I2, r2, hf2, hin⟩ := pc_fill (L := L) hp hrl (I := I1) (rl := rl) (fun I' q => hL I' (fun r k hr => by rw [q r k hr, hf01 r k (by unfold pc_B; omega)])) hB hok1
  rw [r2]
  (try dsimp only)
  rw [hf1 p 4 (by omega), hf1 p 5 (by omega), hf1 p 6 (by omega), hf1 p 7 (by omega), v4, v5, v6, v7] at hin
  refine ⟨I2, rfl, hf01.trans (hf2.mono (fun r k q => by unfold pc_F at q; unfold pc_B; omega)), ⟨fun c hc => by rw [hf2 5 c (by unfold pc_F; omega)]; exact hok1.1 c hc, fun c o hc he => by rw [hf2 (p + 2) _ (by unfold pc_F; omega)]; exact hok1.2 c o hc he⟩, hin, ?_, ?_, ?_, ?_⟩
  · rw [hf2 p 4 (by unfold pc_F; omega), hf1 p 4 (by omega), v4]
  · rw [hf2 p 5 (by unfold pc_F; omega), hf1 p 5 (by omega), v5]
  · rw [hf2 p 6 (by unfold pc_F; omega), hf1 p 6 (by omega), v6]
  · rw [hf2 p 7 (by unfold pc_F; omega), hf1 p 7 (by omega), v7]
/-- the reference's step minutes -/
def dk_S : Nat → Nat → Prop := fun r k => r = 82 ∨ r = 83 ∨ (r = 73 ∧ 14 ≤ k ∧ k ≤ 18)
theorem dk_steps {I : Nat → Nat → Int32} {L : lw_T} {he lo sh we : Int32} (hL : lw_M I L) : ∃ I', rs_M_asksSteps I he lo sh we = some I' ∧ az_fr dk_S I I' ∧ ∀ k, k < 100 → I' 83 k = nI (tt L he lo sh we k) := by
  unfold rs_M_asksSteps rs_M_asksSteps_3
  refine az_for0 (fun k (z : Int32 × (Nat → Nat → Int32)) => z.1 = nI k ∧ az_fr dk_S I z.2 ∧ ∀ j, j < k → z.2 83 j = nI (tt L he lo sh we j)) 100 (by omega) ⟨rfl, az_fr.refl, fun j hj => absurd hj (Nat.not_lt_zero j)⟩ ?_ ?_
  · intro k z hk hi
    obtain ⟨v, I1⟩ := z
    obtain ⟨e, hf, hi⟩ := hi
    (try dsimp only at e hf hi)
    subst e
    show ∃ o, rs_M_asksSteps_3_b he lo sh we (nI k) I1 = some o ∧ _
    unfold rs_M_asksSteps_3_b
    have e1 : nI k - nI k / 10 * 10 = nI (k % 10) := pk_rem (a := k) (d := 10) (by omega) (by omega) (by omega)
    have e2 : nI k / 10 = nI (k / 10) := pk_div (a := k) (d := 10) (by omega) (by omega) (by omega)
    obtain ⟨I2, r, hf2⟩ := hL I1 (hf 73 13 (by unfold dk_S; omega)) (fun k' => hf 81 k' (by unfold dk_S; omega)) (nI (k / 10)) (nI (k % 10)) he lo sh we
    refine az_nxt (nI (k + 1), az_u I2 83 k (nI (tt L he lo sh we k))) (by rw [e1, e2, r]; simp (disch := omega) only [bz_lit, nI_leI, nI_ltI, nI_eq, nI_clamp, nI_add, pk_sub, pk_mul, bz_nlt, bz_nle, bz_ltn, bz_len, bz_neq, bz_eqn, bz_nn, ↓reduceIte, Bool.false_eq_true, if_pos, if_neg]; rfl) ⟨rfl, (hf.trans (hf2.mono (fun r k' hr => by unfold dk_S; omega))).u (Or.inr (Or.inl rfl)), fun j hj => ?_⟩
    (try dsimp only)
    rcases Nat.lt_or_ge j k with q | q
    · rw [az_un (by omega), hf2 83 j (by omega)]
      exact hi j q
    · have : j = k := by omega
      subst this
      exact az_us
  · intro z hi
    obtain ⟨v1, I1⟩ := z
    obtain ⟨e, hf, hi⟩ := hi
    (try dsimp only at e hf hi)
    subst e
    refine ⟨I1, ?_, hf, hi⟩
    show rs_M_asksSteps_3_b he lo sh we (nI 100) I1 = _
    unfold rs_M_asksSteps_3_b
    rw [if_pos (by decide)]
theorem tt_ok {L : lw_T} (hB : lw_B L) (he lo sh we : Int32) {h : Nat → Nat} (hh : ∀ c, c < 144 → h c < 10) : th_ok h (tt L he lo sh we) := ⟨hh, fun _ _ => hB _ _ _ _ _ _⟩

/-! next -/
def mxf (g : Nat → Nat) : Nat → Nat
  | 0 => 0
  | n + 1 => if mxf g n < g n then g n else mxf g n
theorem mxf_le {g : Nat → Nat} {B : Nat} : ∀ n, (∀ i, i < n → g i ≤ B) → mxf g n ≤ B
  | 0, _ => Nat.zero_le B
  | n + 1, h => by
    have a := mxf_le n (fun i hi => h i (by omega))
    have b := h n (by omega)
    show (if mxf g n < g n then g n else mxf g n) ≤ B
    split <;> omega
theorem le_mxf {g : Nat → Nat} : ∀ n i, i < n → g i ≤ mxf g n
  | 0, i, h => absurd h (Nat.not_lt_zero i)
  | n + 1, i, h => by
    show g i ≤ (if mxf g n < g n then g n else mxf g n)
    by_cases e : i = n
    · subst e
      split <;> omega
    · have a := le_mxf (g := g) n i (by omega)
      split <;> omega
theorem nx_last {p : Nat → Bool} : ∀ n i, i < n → p i = true → ∃ k, k < n ∧ p k = true ∧ ∀ j, k < j → j < n → p j = false
  | 0, i, h, _ => absurd h (Nat.not_lt_zero i)
  | n + 1, i, h, hp => by
    cases e : p n with
    | true => exact ⟨n, by omega, e, fun j h1 h2 => by omega⟩
    | false =>
      have hi : i < n := by
        rcases Nat.lt_or_ge i n with q | q
        · exact q
        · have : i = n := by omega
          subst this
          rw [e] at hp
          cases hp
      obtain ⟨k, k1, k2, k3⟩ := nx_last n i hi hp
      refine ⟨k, by omega, k2, fun j h1 h2 => ?_⟩
      by_cases q : j = n
      · subst q; exact e
      · exact k3 j h1 (by omega)
theorem gd_n_tail {u : Nat → Bool} {k : Nat} : ∀ n, k ≤ n → (∀ j, k ≤ j → j < n → u j = false) → gd_n u n = gd_n u k
  | 0, h, _ => by
    have : k = 0 := by omega
    subst this; rfl
  | n + 1, h, hu => by
    by_cases e : k = n + 1
    · rw [e]
    · have a := gd_n_tail (u := u) (k := k) n (by omega) (fun j h1 h2 => hu j h1 (by omega))
      have b := hu n (by omega) (by omega)
      show gd_n u n + (if u n then 1 else 0) = _
      rw [b, if_neg (by decide)]
      omega
/-- the greatest crowd, both ways -/
theorem nx_crowd (A : Nat → Nat) : mxf (fun i => gd_n (fun j => decide (A i = A j)) 19) 19 = mxf (fun k => gd_n (fun j => decide (A j = A k)) (k + 1)) 19 := by
  apply Nat.le_antisymm
  · refine mxf_le 19 (fun i hi => ?_)
    obtain ⟨k, k1, k2, k3⟩ := nx_last (p := fun j => decide (A i = A j)) 19 i hi (decide_eq_true rfl)
    have e := of_decide_eq_true k2
    have t := gd_n_tail (u := fun j => decide (A i = A j)) (k := k + 1) 19 (by omega) (fun j h1 h2 => k3 j (by omega) h2)
    have q := le_mxf (g := fun k => gd_n (fun j => decide (A j = A k)) (k + 1)) 19 k k1
    (try dsimp only at q ⊢)
    rw [t]
    have c := gd_n_cg (u := fun j => decide (A i = A j)) (v := fun j => decide (A j = A k)) (k + 1) (fun j _ => by
      (try dsimp only)
      rw [e]
      by_cases z : A k = A j
      · rw [decide_eq_true z, decide_eq_true z.symm]
      · rw [decide_eq_false z, decide_eq_false (fun y => z y.symm)])
    omega
  · refine mxf_le 19 (fun k hk => ?_)
    have q := le_mxf (g := fun i => gd_n (fun j => decide (A i = A j)) 19) 19 k hk
    (try dsimp only at q ⊢)
    have c := gd_n_cg (u := fun j => decide (A j = A k)) (v := fun j => decide (A k = A j)) (k + 1) (fun j _ => by
      (try dsimp only)
      by_cases z : A k = A j
      · rw [decide_eq_true z, decide_eq_true z.symm]
      · rw [decide_eq_false z, decide_eq_false (fun y => z y.symm)])
    have m : ∀ n, k + 1 ≤ n → gd_n (fun j => decide (A k = A j)) (k + 1) ≤ gd_n (fun j => decide (A k = A j)) n := by
      intro n
      induction n with
      | zero => intro h; omega
      | succ n ih =>
        intro h
        by_cases e : k = n
        · subst e; exact Nat.le_refl _
        · have := ih (by omega)
          show _ ≤ gd_n (fun j => decide (A k = A j)) n + (if (fun j => decide (A k = A j)) n then 1 else 0)
          split <;> omega
    have := m 19 (by omega)
    omega
theorem hk_9 : ∀ k, k < 20 → -nI 9 + nI k = hk k := by decide +kernel
section
variable {I : Nat → Nat → Int32} {J : Nat → Nat → Int64} {rl rd : Nat}
theorem px_crowd {A : Nat → Nat} {p : Nat} (hp : p < 8) (hA : ∀ i, i < 19 → A i ≤ 2178) (h60 : ∀ i, i < 19 → I 60 (19 * p + i) = nI (A i)) : rs_X_greatestCrowd I (nI p) = some (nI (mxf (fun i => gd_n (fun j => decide (A i = A j)) 19) 19)) := by
  have gle : ∀ i n, gd_n (fun j => decide (A i = A j)) n ≤ n := fun i n => gd_n_le _ n
  have mle : ∀ n, mxf (fun i => gd_n (fun j => decide (A i = A j)) 19) n ≤ 19 := fun n => mxf_le n (fun i _ => gle i 19)
  have inner : ∀ (v2 : Int32) (i : Nat), i < 19 → rs_X_greatestCrowd_16 I (nI p) v2 (nI i) (nI 0) (nI 0) = some (.inl ((if v2 < nI (gd_n (fun j => decide (A i = A j)) 19) then nI (gd_n (fun j => decide (A i = A j)) 19) else v2), nI (i + 1))) := by
    intro v2 i hi
    unfold rs_X_greatestCrowd_16
    have main : ∃ x, az_lp (fun s : (Int32 × Int32) => rs_X_greatestCrowd_16_b I (nI p) v2 (nI i) s.1 s.2) 100000 (nI 0, nI 0) = some x ∧ x = .inl ((if v2 < nI (gd_n (fun j => decide (A i = A j)) 19) then nI (gd_n (fun j => decide (A i = A j)) 19) else v2), nI (i + 1)) := by
      refine az_for0 (fun k (z : Int32 × Int32) => z = (nI (gd_n (fun j => decide (A i = A j)) k), nI k)) 19 (by omega) rfl ?_ ?_
      · intro k z hk e
        subst e
        have gk := gle i k
        refine az_nxt (nI (gd_n (fun j => decide (A i = A j)) (k + 1)), nI (k + 1)) ?_ rfl
        show rs_X_greatestCrowd_16_b I (nI p) v2 (nI i) (nI (gd_n (fun j => decide (A i = A j)) k)) (nI k) = some (.inl (nI (gd_n (fun j => decide (A i = A j)) k + (if decide (A i = A k) then 1 else 0)), nI (k + 1)))
        unfold rs_X_greatestCrowd_16_b
        have a1 := h60 i hi
        have a2 := h60 k hk
        have b1 := hA i hi
        have b2 := hA k hk
        rw [Nat.mul_comm 19 p] at a1 a2
        by_cases z : A i = A k
        · rw [decide_eq_true z, if_pos rfl]
          simp (disch := omega) only [bl_lit, lgl, lgg, lgl0, lgg0, lglm, lggm, az_us, az_un, az_ue, az_urn, az_ure, bz_lit, nI_leI, nI_ltI, nI_eq, nI_clamp, nI_add, pk_sub, pk_mul, bz_nlt, bz_nle, bz_ltn, bz_len, bz_neq, bz_eqn, bz_nn, ↓reduceIte, Bool.false_eq_true, if_pos, if_neg, a1, a2, z]
        · rw [decide_eq_false z, if_neg (show ¬ false = true by decide), Nat.add_zero]
          simp (disch := omega) only [bl_lit, lgl, lgg, lgl0, lgg0, lglm, lggm, az_us, az_un, az_ue, az_urn, az_ure, bz_lit, nI_leI, nI_ltI, nI_eq, nI_clamp, nI_add, pk_sub, pk_mul, bz_nlt, bz_nle, bz_ltn, bz_len, bz_neq, bz_eqn, bz_nn, ↓reduceIte, Bool.false_eq_true, if_pos, if_neg, a1, a2, z]
      · intro z e
        subst e
        refine ⟨_, ?_, rfl⟩
        show rs_X_greatestCrowd_16_b I (nI p) v2 (nI i) _ (nI 19) = _
        unfold rs_X_greatestCrowd_16_b rs_X_greatestCrowd_58
        simp (disch := omega) only [bl_lit, lgl, lgg, lgl0, lgg0, lglm, lggm, az_us, az_un, az_ue, az_urn, az_ure, bz_lit, nI_leI, nI_ltI, nI_eq, nI_clamp, nI_add, pk_sub, pk_mul, bz_nlt, bz_nle, bz_ltn, bz_len, bz_neq, bz_eqn, bz_nn, ↓reduceIte, Bool.false_eq_true, if_pos, if_neg, Option.map_some]
    obtain ⟨x, hx, rfl⟩ := main
    exact hx
  unfold rs_X_greatestCrowd rs_X_greatestCrowd_4
  have main : ∃ x, az_lp (fun s : (Int32 × Int32) => rs_X_greatestCrowd_4_b I (nI p) s.1 s.2) 100000 (0, 0) = some x ∧ x = nI (mxf (fun i => gd_n (fun j => decide (A i = A j)) 19) 19) := by
    refine az_for0 (fun k (z : Int32 × Int32) => z = (nI (mxf (fun i => gd_n (fun j => decide (A i = A j)) 19) k), nI k)) 19 (by omega) rfl ?_ ?_
    · intro k z hk e
      subst e
      have mk := mle k
      have gk := gle k 19
      refine az_nxt (nI (mxf (fun i => gd_n (fun j => decide (A i = A j)) 19) (k + 1)), nI (k + 1)) ?_ rfl
      show rs_X_greatestCrowd_4_b I (nI p) (nI (mxf (fun i => gd_n (fun j => decide (A i = A j)) 19) k)) (nI k) = some (.inl (nI (if mxf (fun i => gd_n (fun j => decide (A i = A j)) 19) k < gd_n (fun j => decide (A k = A j)) 19 then gd_n (fun j => decide (A k = A j)) 19 else mxf (fun i => gd_n (fun j => decide (A i = A j)) 19) k), nI (k + 1)))
      unfold rs_X_greatestCrowd_4_b
      rw [show (0 : Int32) = nI 0 from rfl, inner _ k hk]
      by_cases z : mxf (fun i => gd_n (fun j => decide (A i = A j)) 19) k < gd_n (fun j => decide (A k = A j)) 19
      · rw [if_pos z, if_pos (nI_lt z (by omega))]
        simp (disch := omega) only [bl_lit, lgl, lgg, lgl0, lgg0, lglm, lggm, az_us, az_un, az_ue, az_urn, az_ure, bz_lit, nI_leI, nI_ltI, nI_eq, nI_clamp, nI_add, pk_sub, pk_mul, bz_nlt, bz_nle, bz_ltn, bz_len, bz_neq, bz_eqn, bz_nn, ↓reduceIte, Bool.false_eq_true, if_pos, if_neg]
      · rw [if_neg z, if_neg (nI_nlt (by omega) (by omega))]
        simp (disch := omega) only [bl_lit, lgl, lgg, lgl0, lgg0, lglm, lggm, az_us, az_un, az_ue, az_urn, az_ure, bz_lit, nI_leI, nI_ltI, nI_eq, nI_clamp, nI_add, pk_sub, pk_mul, bz_nlt, bz_nle, bz_ltn, bz_len, bz_neq, bz_eqn, bz_nn, ↓reduceIte, Bool.false_eq_true, if_pos, if_neg]
    · intro z e
      subst e
      refine ⟨_, ?_, rfl⟩
      show rs_X_greatestCrowd_4_b I (nI p) _ (nI 19) = _
      unfold rs_X_greatestCrowd_4_b
      simp (disch := omega) only [bl_lit, lgl, lgg, lgl0, lgg0, lglm, lggm, az_us, az_un, az_ue, az_urn, az_ure, bz_lit, nI_leI, nI_ltI, nI_eq, nI_clamp, nI_add, pk_sub, pk_mul, bz_nlt, bz_nle, bz_ltn, bz_len, bz_neq, bz_eqn, bz_nn, ↓reduceIte, Bool.false_eq_true, if_pos, if_neg]
  obtain ⟨x, hx, rfl⟩ := main
  exact hx
theorem px_fillArms {L : lw_T} {h pc pt : Nat → Nat} {lo sh we : Int32} (hrl : rl = 16 ∨ rl = 21) (hB : lw_B L) {I0 : Nat → Nat → Int32} (q : wX I0 rl L h pc pt) {np : Nat} (hnp : np ≤ 8) (c1 : I0 4 3 = nI np) (f0 : az_fr scX I0 I) (p : ∃ he, pq I L h he lo sh we) :
    ∃ I', rs_X_fillArmsByHeart rl I = some I' ∧ az_fr scX I0 I' ∧ ∀ k, k < np → ∀ i, i < 19 → I' 60 (19 * k + i) = nI (am h (tt L (hk i) lo sh we) (pc k) (pt k)) := by
  unfold rs_X_fillArmsByHeart rs_X_fillArmsByHeart_2
  have arm60 : ∀ (I : Nat → Nat → Int32) (he : Int32), az_fr scX I0 I → pq I L h he lo sh we → ∀ k, k < 8 → ∃ I', rs_X_armAt I (nI k) = some (nI (am h (tt L he lo sh we) (pc k) (pt k)), I') ∧ az_fr scX I0 I' ∧ pq I' L h he lo sh we ∧ ∀ j, I' 60 j = I 60 j := by
    intro I he ff pp k hk
    obtain ⟨a1, a2, a3, a4⟩ := (q.fr hrl (scX_sc ff)).2.2 k hk
    obtain ⟨I5, r5, f5⟩ := sp_min (tt_ok hB he lo sh we (fun c hc => (pp.1.1 c hc).2)) (Or.inl rfl) pp.2.2.2.2.2 a2 a4
    refine ⟨I5, ?_, ff.trans (f5.mono (fun r k q => by unfold sp_F at q; unfold scX; omega)), pp.fr (f5.mono (fun r k q => by unfold sp_F at q; (try dsimp only); omega)), fun j => f5 60 j (by unfold sp_F; omega)⟩
    unfold rs_X_armAt
    simp (disch := omega) only [bl_lit, lgl, lgg, lgl0, lgg0, lglm, lggm, az_us, az_un, az_ue, az_urn, az_ure, bz_lit, nI_leI, nI_ltI, nI_eq, nI_clamp, nI_add, pk_sub, pk_mul, bz_nlt, bz_nle, bz_ltn, bz_len, bz_neq, bz_eqn, bz_nn, ↓reduceIte, Bool.false_eq_true, if_pos, if_neg, a1, a3, r5]
    rfl
  have heart60 : ∀ (I : Nat → Nat → Int32) (v : Int32), az_fr scX I0 I → (∃ he, pq I L h he lo sh we) → ∃ I', rs_Pa_withHeart 26 rl I v = some I' ∧ az_fr scX I0 I' ∧ pq I' L h v lo sh we ∧ ∀ j, I' 60 j = I 60 j := by
    intro I v ff pp
    obtain ⟨he, hok, b1, b2, b3, b4, _⟩ := pp
    have f1 : az_fr scX I0 (az_u I 26 4 v) := ff.u (by unfold scX; omega)
    obtain ⟨I', r, f, p'⟩ := px_refill hrl hB q (scX_sc f1) (hok.fr (by intro r k z; exact az_un (by (try dsimp only at z); omega)))
    rw [az_us, az_un (by omega), az_un (by omega), az_un (by omega), b2, b3, b4] at p'
    exact ⟨I', by unfold rs_Pa_withHeart; rw [r], f1.trans (f.mono (fun r k q => by unfold pc_F at q; unfold scX; omega)), p', fun j => by rw [f 60 j (by unfold pc_F; omega), az_un (by omega)]⟩
  refine az_for0 (fun i (z : Int32 × (Nat → Nat → Int32)) => z.1 = nI i ∧ az_fr scX I0 z.2 ∧ (∃ he, pq z.2 L h he lo sh we) ∧ ∀ k, k < np → ∀ i', i' < i → z.2 60 (19 * k + i') = nI (am h (tt L (hk i') lo sh we) (pc k) (pt k))) 19 (by omega) ⟨rfl, f0, p, fun _ _ i hi => absurd hi (Nat.not_lt_zero i)⟩ ?_ ?_
  · intro i z hi hz
    obtain ⟨v1, I1⟩ := z
    obtain ⟨e, ff, pp, hs⟩ := hz
    (try dsimp only at e ff pp hs)
    subst e
    obtain ⟨I2, r2, f2, p2, k2⟩ := heart60 I1 (hk i) ff pp
    have inner : ∃ x, rs_X_fillArmsByHeart_21 rl I2 (nI i) (nI 0) = some x ∧ ∃ I', x = .inl (nI (i + 1), I') ∧ az_fr scX I0 I' ∧ pq I' L h (hk i) lo sh we ∧ ∀ k, k < np → ∀ i', i' < i + 1 → I' 60 (19 * k + i') = nI (am h (tt L (hk i') lo sh we) (pc k) (pt k)) := by
      unfold rs_X_fillArmsByHeart_21
      refine az_for0 (fun k (z : Int32 × (Nat → Nat → Int32)) => z.1 = nI k ∧ az_fr scX I0 z.2 ∧ pq z.2 L h (hk i) lo sh we ∧ (∀ k', k' < np → ∀ i', i' < i → z.2 60 (19 * k' + i') = nI (am h (tt L (hk i') lo sh we) (pc k') (pt k'))) ∧ ∀ k', k' < k → z.2 60 (19 * k' + i) = nI (am h (tt L (hk i) lo sh we) (pc k') (pt k'))) np (by omega)
        ⟨rfl, f2, p2, fun k hk i' hi' => (k2 _).trans (hs k hk i' hi'), fun k hk => absurd hk (Nat.not_lt_zero k)⟩ ?_ ?_
      · intro k z hk' hz
        obtain ⟨v2, I3⟩ := z
        obtain ⟨e, ff3, pp3, hs1, hs2⟩ := hz
        (try dsimp only at e ff3 pp3 hs1 hs2)
        subst e
        obtain ⟨I4, r4, f4, p4, k4⟩ := arm60 I3 (hk i) ff3 pp3 k (by omega)
        have c1' : I3 4 3 = nI np := by rw [ff3 4 3 (by unfold scX; omega)]; exact c1
        refine az_nxt (nI (k + 1), az_u I4 60 (19 * k + i) (nI (am h (tt L (hk i) lo sh we) (pc k) (pt k)))) ?_ ⟨rfl, f4.u (by unfold scX; omega), p4.fr (az_fr.refl.u (by (try dsimp only); omega)), ?_, ?_⟩
        · (try dsimp only)
          unfold rs_X_fillArmsByHeart_21_b
          rw [Nat.mul_comm 19 k]
          simp (disch := omega) only [bl_lit, lgl, lgg, lgl0, lgg0, lglm, lggm, az_us, az_un, az_ue, az_urn, az_ure, bz_lit, nI_leI, nI_ltI, nI_eq, nI_clamp, nI_add, pk_sub, pk_mul, bz_nlt, bz_nle, bz_ltn, bz_len, bz_neq, bz_eqn, bz_nn, ↓reduceIte, Bool.false_eq_true, if_pos, if_neg, c1', r4]
        · intro k' hk1 i' hi'
          (try dsimp only)
          rw [az_un (by omega), k4]
          exact hs1 k' hk1 i' hi'
        · intro k' hk1
          (try dsimp only)
          by_cases z : k' = k
          · subst z; exact az_us
          · rw [az_un (by omega), k4]
            exact hs2 k' (by omega)
      · intro z hz
        obtain ⟨v2, I3⟩ := z
        obtain ⟨e, ff3, pp3, hs1, hs2⟩ := hz
        (try dsimp only at e ff3 pp3 hs1 hs2)
        subst e
        have c1' : I3 4 3 = nI np := by rw [ff3 4 3 (by unfold scX; omega)]; exact c1
        refine ⟨_, ?_, I3, rfl, ff3, pp3, fun k hk1 i' hi' => ?_⟩
        · (try dsimp only)
          unfold rs_X_fillArmsByHeart_21_b
          simp (disch := omega) only [bl_lit, lgl, lgg, lgl0, lgg0, lglm, lggm, az_us, az_un, az_ue, az_urn, az_ure, bz_lit, nI_leI, nI_ltI, nI_eq, nI_clamp, nI_add, pk_sub, pk_mul, bz_nlt, bz_nle, bz_ltn, bz_len, bz_neq, bz_eqn, bz_nn, ↓reduceIte, Bool.false_eq_true, if_pos, if_neg, c1']
        · by_cases z : i' = i
          · subst z; exact hs2 k hk1
          · exact hs1 k hk1 i' (by omega)
    obtain ⟨x, r3, I', rfl, f3, p3, hs3⟩ := inner
    refine az_nxt (nI (i + 1), I') ?_ ⟨rfl, f3, ⟨_, p3⟩, hs3⟩
    (try dsimp only)
    unfold rs_X_fillArmsByHeart_2_b
    simp (disch := omega) only [bl_lit, lgl, lgg, lgl0, lgg0, lglm, lggm, az_us, az_un, az_ue, az_urn, az_ure, bz_lit, nI_leI, nI_ltI, nI_eq, nI_clamp, nI_add, pk_sub, pk_mul, bz_nlt, bz_nle, bz_ltn, bz_len, bz_neq, bz_eqn, bz_nn, ↓reduceIte, Bool.false_eq_true, if_pos, if_neg, hk_9 i (by omega), r2, r3]
  · intro z hz
    obtain ⟨v1, I1⟩ := z
    obtain ⟨e, ff, pp, hs⟩ := hz
    (try dsimp only at e ff pp hs)
    subst e
    refine ⟨I1, ?_, ff, hs⟩
    (try dsimp only)
    unfold rs_X_fillArmsByHeart_2_b
    simp (disch := omega) only [bl_lit, lgl, lgg, lgl0, lgg0, lglm, lggm, az_us, az_un, az_ue, az_urn, az_ure, bz_lit, nI_leI, nI_ltI, nI_eq, nI_clamp, nI_add, pk_sub, pk_mul, bz_nlt, bz_nle, bz_ltn, bz_len, bz_neq, bz_eqn, bz_nn, ↓reduceIte, Bool.false_eq_true, if_pos, if_neg]
theorem pm_crowd {L : lw_T} {h pc pt : Nat → Nat} (hB : lw_B L) {I0 : Nat → Nat → Int32} (q : wM I0 L h pc pt) (f0 : az_fr scM I0 I) {p w : Nat} (hp : p < 8) (hw : w < 6) (v2 v3 v4 : Int32) {A : Nat → Nat} (hA : ∀ i, i < 19 → A i ≤ 2178) (hAe : ∀ i, i < 19 → am h (tt L (hk i) (I0 74 (166 + w)) (I0 74 (172 + w)) (I0 74 178)) (pc p) (pt p) = A i) :
    ∃ I', az_fr scM I0 I' ∧ rs_M_next_46 I (nI w) v2 v3 v4 (nI p) (nI 0) (nI 0) = rs_M_next_140 I' (nI w) v2 v3 v4 (nI p) (nI (mxf (fun k => gd_n (fun j => decide (A j = A k)) (k + 1)) 19)) := by
  have gle : ∀ i n, gd_n (fun j => decide (A j = A i)) n ≤ n := fun i n => gd_n_le _ n
  have mle : ∀ n, n ≤ 19 → mxf (fun k => gd_n (fun j => decide (A j = A k)) (k + 1)) n ≤ 19 := fun n hn => mxf_le n (fun i hi => by have := gle i (i + 1); (try dsimp only); omega)
  have inner : ∀ (I1 : Nat → Nat → Int32) (v6 k : Nat), k < 19 → v6 ≤ 19 → (∀ i, i ≤ k → I1 90 i = nI (A i)) → rs_M_next_78 I1 (nI w) v2 v3 v4 (nI p) (nI v6) (nI k) (nI 0) (nI 0) = some (.inl (nI (if v6 < gd_n (fun j => decide (A j = A k)) (k + 1) then gd_n (fun j => decide (A j = A k)) (k + 1) else v6), nI (k + 1), I1)) := by
    intro I1 v6 k hk' hv h90
    unfold rs_M_next_78
    have main : ∃ x, az_lp (fun s : (Int32 × Int32) => rs_M_next_78_b I1 (nI w) v2 v3 v4 (nI p) (nI v6) (nI k) s.1 s.2) 100000 (nI 0, nI 0) = some x ∧ x = .inl (nI (if v6 < gd_n (fun j => decide (A j = A k)) (k + 1) then gd_n (fun j => decide (A j = A k)) (k + 1) else v6), nI (k + 1), I1) := by
      refine az_for0 (fun j (z : Int32 × Int32) => z = (nI (gd_n (fun j => decide (A j = A k)) j), nI j)) (k + 1) (by omega) rfl ?_ ?_
      · intro j z hj e
        subst e
        have gk := gle k j
        refine az_nxt (nI (gd_n (fun j => decide (A j = A k)) (j + 1)), nI (j + 1)) ?_ rfl
        show rs_M_next_78_b I1 (nI w) v2 v3 v4 (nI p) (nI v6) (nI k) (nI (gd_n (fun j => decide (A j = A k)) j)) (nI j) = some (.inl (nI (gd_n (fun j => decide (A j = A k)) j + (if decide (A j = A k) then 1 else 0)), nI (j + 1)))
        unfold rs_M_next_78_b
        have a1 := h90 j (by omega)
        have a2 := h90 k (by omega)
        have b1 := hA j (by omega)
        have b2 := hA k (by omega)
        by_cases z : A j = A k
        · rw [decide_eq_true z, if_pos rfl]
          simp (disch := omega) only [bl_lit, lgl, lgg, lgl0, lgg0, lglm, lggm, az_us, az_un, az_ue, az_urn, az_ure, bz_lit, nI_leI, nI_ltI, nI_eq, nI_clamp, nI_add, pk_sub, pk_mul, bz_nlt, bz_nle, bz_ltn, bz_len, bz_neq, bz_eqn, bz_nn, ↓reduceIte, Bool.false_eq_true, if_pos, if_neg, a1, a2, z]
        · rw [decide_eq_false z, if_neg (show ¬ false = true by decide)]
          simp (disch := omega) only [bl_lit, lgl, lgg, lgl0, lgg0, lglm, lggm, az_us, az_un, az_ue, az_urn, az_ure, bz_lit, nI_leI, nI_ltI, nI_eq, nI_clamp, nI_add, pk_sub, pk_mul, bz_nlt, bz_nle, bz_ltn, bz_len, bz_neq, bz_eqn, bz_nn, ↓reduceIte, Bool.false_eq_true, if_pos, if_neg, a1, a2, z]
      · intro z e
        subst e
        have gk := gle k (k + 1)
        refine ⟨_, ?_, rfl⟩
        show rs_M_next_78_b I1 (nI w) v2 v3 v4 (nI p) (nI v6) (nI k) _ (nI (k + 1)) = _
        unfold rs_M_next_78_b rs_M_next_118
        by_cases z : v6 < gd_n (fun j => decide (A j = A k)) (k + 1)
        · rw [if_pos z]
          simp (disch := omega) only [bl_lit, lgl, lgg, lgl0, lgg0, lglm, lggm, az_us, az_un, az_ue, az_urn, az_ure, bz_lit, nI_leI, nI_ltI, nI_eq, nI_clamp, nI_add, pk_sub, pk_mul, bz_nlt, bz_nle, bz_ltn, bz_len, bz_neq, bz_eqn, bz_nn, ↓reduceIte, Bool.false_eq_true, if_pos, if_neg, Option.map_some]
        · rw [if_neg z]
          simp (disch := omega) only [bl_lit, lgl, lgg, lgl0, lgg0, lglm, lggm, az_us, az_un, az_ue, az_urn, az_ure, bz_lit, nI_leI, nI_ltI, nI_eq, nI_clamp, nI_add, pk_sub, pk_mul, bz_nlt, bz_nle, bz_ltn, bz_len, bz_neq, bz_eqn, bz_nn, ↓reduceIte, Bool.false_eq_true, if_pos, if_neg, Option.map_some]
    obtain ⟨x, hx, rfl⟩ := main
    exact hx
  unfold rs_M_next_46
  have st : ∀ n, n ≤ 19 → ∃ I', az_fr scM I0 I' ∧ (∀ i, i < n → I' 90 i = nI (A i)) ∧ ∀ m, az_lp (fun s : (Int32 × Int32 × (Nat → Nat → Int32)) => rs_M_next_46_b (nI w) v2 v3 v4 (nI p) s.1 s.2.1 s.2.2) (m + n) (nI 0, nI 0, I) = az_lp (fun s : (Int32 × Int32 × (Nat → Nat → Int32)) => rs_M_next_46_b (nI w) v2 v3 v4 (nI p) s.1 s.2.1 s.2.2) m (nI (mxf (fun k => gd_n (fun j => decide (A j = A k)) (k + 1)) n), nI n, I') := by
    intro n
    induction n with
    | zero => exact fun _ => ⟨I, f0, fun i hi => absurd hi (Nat.not_lt_zero i), fun m => rfl⟩
    | succ n ih =>
      intro hn
      obtain ⟨I1, f1, h1, k1⟩ := ih (by omega)
      obtain ⟨I2, r2, f2, fd⟩ : ∃ I2, rs_M_armBy I1 (nI p) (nI w) (hk n) = some (nI (A n), I2) ∧ az_fr scM I0 I2 ∧ ∀ j, I2 90 j = I1 90 j := by
        have q' := q.fr (scM_sc f1)
        obtain ⟨Ia, ra, fa, ba⟩ := dk_steps (he := hk n) (lo := I1 74 (166 + w)) (sh := I1 74 (172 + w)) (we := I1 74 178) q'.1
        have pa : dk_in Ia h (tt L (hk n) (I1 74 (166 + w)) (I1 74 (172 + w)) (I1 74 178)) := ⟨fun c hc => by rw [fa 74 c (by unfold dk_S; omega)]; exact q'.2.1 c hc, fun k hk => ⟨ba k hk, hB _ _ _ _ _ _⟩⟩
        obtain ⟨a1, a2, a3, a4⟩ := q'.2.2 p hp
        obtain ⟨Ib, rb, fb⟩ := dk_min (tt_ok hB (hk n) (I1 74 (166 + w)) (I1 74 (172 + w)) (I1 74 178) (fun c hc => (q.2.1 c hc).2)) pa a2 a4
        have x1 : Ia 74 (144 + p) = nI (pc p) := by rw [fa 74 _ (by unfold dk_S; omega)]; exact a1
        have x2 : Ia 74 (152 + p) = nI (pt p) := by rw [fa 74 _ (by unfold dk_S; omega)]; exact a3
        have e := hAe n (by omega)
        rw [← f1 74 (166 + w) (by unfold scM; omega), ← f1 74 (172 + w) (by unfold scM; omega), ← f1 74 178 (by unfold scM; omega)] at e
        refine ⟨Ib, ?_, (f1.trans (fa.mono (fun r k q => by unfold dk_S at q; unfold scM; omega))).trans (fb.mono (fun r k q => by unfold dk_F at q; unfold scM; omega)), fun j => by rw [fb 90 j (by unfold dk_F; omega), fa 90 j (by unfold dk_S; omega)]⟩
        unfold rs_M_armBy rs_M_armFor
        rw [← e]
        simp (disch := omega) only [bl_lit, lgl, lgg, lgl0, lgg0, lglm, lggm, az_us, az_un, az_ue, az_urn, az_ure, bz_lit, nI_leI, nI_ltI, nI_eq, nI_clamp, nI_add, pk_sub, pk_mul, bz_nlt, bz_nle, bz_ltn, bz_len, bz_neq, bz_eqn, bz_nn, ↓reduceIte, Bool.false_eq_true, if_pos, if_neg, ra, x1, x2, rb]
        rfl
      have b := mle n (by omega)
      refine ⟨az_u I2 90 n (nI (A n)), f2.u (by unfold scM; omega), fun i hi => ?_, fun m => ?_⟩
      · by_cases z : i = n
        · subst z; exact az_us
        · rw [az_un (by omega), fd]; exact h1 i (by omega)
      · rw [show m + (n + 1) = (m + 1) + n from by omega, k1 (m + 1)]
        have inn := inner (az_u I2 90 n (nI (A n))) (mxf (fun k => gd_n (fun j => decide (A j = A k)) (k + 1)) n) n (by omega) b (fun i hi => by
          by_cases z : i = n
          · subst z; exact az_us
          · rw [az_un (by omega), fd]; exact h1 i (by omega))
        refine az_lp_l ?_
        show rs_M_next_46_b (nI w) v2 v3 v4 (nI p) (nI (mxf (fun k => gd_n (fun j => decide (A j = A k)) (k + 1)) n)) (nI n) I1 = some (.inl (nI (if mxf (fun k => gd_n (fun j => decide (A j = A k)) (k + 1)) n < gd_n (fun j => decide (A j = A n)) (n + 1) then gd_n (fun j => decide (A j = A n)) (n + 1) else mxf (fun k => gd_n (fun j => decide (A j = A k)) (k + 1)) n), nI (n + 1), az_u I2 90 n (nI (A n))))
        unfold rs_M_next_46_b
        rw [show nI n - 9 = hk n from rfl, r2]
        simp (disch := omega) only [bl_lit, lgl, lgg, lgl0, lgg0, lglm, lggm, az_us, az_un, az_ue, az_urn, az_ure, bz_lit, nI_leI, nI_ltI, nI_eq, nI_clamp, nI_add, pk_sub, pk_mul, bz_nlt, bz_nle, bz_ltn, bz_len, bz_neq, bz_eqn, bz_nn, ↓reduceIte, Bool.false_eq_true, if_pos, if_neg, inn]
  obtain ⟨I', f', h', k'⟩ := st 19 (by omega)
  refine ⟨I', f', ?_⟩
  have := k' 99981
  refine this.trans ?_
  have ex : ∃ z, rs_M_next_140 I' (nI w) v2 v3 v4 (nI p) (nI (mxf (fun k => gd_n (fun j => decide (A j = A k)) (k + 1)) 19)) = some z := by
    unfold rs_M_next_140
    repeat' split
    all_goals exact ⟨_, rfl⟩
  obtain ⟨z, hz⟩ := ex
  rw [hz]
  refine az_lp_r (n := 99980) ?_
  (try dsimp only)
  unfold rs_M_next_46_b
  rw [hz]
  simp (disch := omega) only [bl_lit, lgl, lgg, lgl0, lgg0, lglm, lggm, az_us, az_un, az_ue, az_urn, az_ure, bz_lit, nI_leI, nI_ltI, nI_eq, nI_clamp, nI_add, pk_sub, pk_mul, bz_nlt, bz_nle, bz_ltn, bz_len, bz_neq, bz_eqn, bz_nn, ↓reduceIte, Bool.false_eq_true, if_pos, if_neg, Option.map_some]
def f_nx (np : Nat) (C : Nat → Nat) (what : Int32) (s : Int32 × Nat × Nat) : (Int32 × Nat × Nat) ⊕ Int32 :=
  if np ≤ s.2.2 then .inr (if what = nI 0 then s.1 else if s.1 = -nI 2 then -nI 2 else nI s.2.1) else .inl (if s.1 = -nI 2 then (nI s.2.2, C s.2.2, s.2.2 + 1) else if s.2.1 ≤ C s.2.2 then (s.1, s.2.1, s.2.2 + 1) else (nI s.2.2, C s.2.2, s.2.2 + 1))
theorem f_nx_s {np : Nat} {C : Nat → Nat} {s : Int32 × Nat × Nat} (h8 : np ≤ 8) (hC : ∀ p, C p ≤ 19) (hi : ¬ np ≤ s.2.2) (hs : s.2.2 ≤ np ∧ s.2.1 ≤ 19 ∧ (s.1 = -nI 2 ∨ ∃ j, j < 8 ∧ s.1 = nI j)) :
    (fun s' : Int32 × Nat × Nat => (s'.2.2 ≤ np ∧ s'.2.1 ≤ 19 ∧ (s'.1 = -nI 2 ∨ ∃ j, j < 8 ∧ s'.1 = nI j)) ∧ np - s'.2.2 < np - s.2.2) (if s.1 = -nI 2 then (nI s.2.2, C s.2.2, s.2.2 + 1) else if s.2.1 ≤ C s.2.2 then (s.1, s.2.1, s.2.2 + 1) else (nI s.2.2, C s.2.2, s.2.2 + 1)) := by
  have c := hC s.2.2
  (try dsimp only)
  split
  · exact ⟨⟨by (try dsimp only); omega, c, Or.inr ⟨s.2.2, by omega, rfl⟩⟩, by (try dsimp only); omega⟩
  · split
    · exact ⟨⟨by (try dsimp only); omega, hs.2⟩, by (try dsimp only); omega⟩
    · exact ⟨⟨by (try dsimp only); omega, c, Or.inr ⟨s.2.2, by omega, rfl⟩⟩, by (try dsimp only); omega⟩
theorem mt_next (h : Rel I J rl rd) (a b : Int32) : mt (rs_X_next rd rl I a b) (fun I => rs_M_next I a b) J rl rd := by
  obtain ⟨np, nw, L, hh, pc, pt, n1, n2, ⟨c1, c2, c3, c4⟩, hrl, hB, qX, qM, hw, hwe⟩ := h.w
  unfold rs_X_next rs_M_next
  rcases ix a nw (by omega) with x | ⟨x, y⟩ | ⟨w, hww, rfl⟩
  · exact ⟨-nI 1, I, I, by simp (disch := omega) only [bl_lit, lgl, lgg, lgl0, lgg0, lglm, lggm, az_us, az_un, az_ue, az_urn, az_ure, bz_lit, nI_leI, nI_ltI, nI_eq, nI_clamp, nI_add, pk_sub, pk_mul, bz_nlt, bz_nle, bz_ltn, bz_len, bz_neq, bz_eqn, bz_nn, ↓reduceIte, Bool.false_eq_true, if_pos, if_neg, x], by simp (disch := omega) only [bl_lit, lgl, lgg, lgl0, lgg0, lglm, lggm, az_us, az_un, az_ue, az_urn, az_ure, bz_lit, nI_leI, nI_ltI, nI_eq, nI_clamp, nI_add, pk_sub, pk_mul, bz_nlt, bz_nle, bz_ltn, bz_len, bz_neq, bz_eqn, bz_nn, ↓reduceIte, Bool.false_eq_true, if_pos, if_neg, x], h⟩
  · exact ⟨-nI 1, I, I, by simp (disch := omega) only [bl_lit, lgl, lgg, lgl0, lgg0, lglm, lggm, az_us, az_un, az_ue, az_urn, az_ure, bz_lit, nI_leI, nI_ltI, nI_eq, nI_clamp, nI_add, pk_sub, pk_mul, bz_nlt, bz_nle, bz_ltn, bz_len, bz_neq, bz_eqn, bz_nn, ↓reduceIte, Bool.false_eq_true, if_pos, if_neg, x, y, c3], by simp (disch := omega) only [bl_lit, lgl, lgg, lgl0, lgg0, lglm, lggm, az_us, az_un, az_ue, az_urn, az_ure, bz_lit, nI_leI, nI_ltI, nI_eq, nI_clamp, nI_add, pk_sub, pk_mul, bz_nlt, bz_nle, bz_ltn, bz_len, bz_neq, bz_eqn, bz_nn, ↓reduceIte, Bool.false_eq_true, if_pos, if_neg, x, y, c4], h⟩
  · rcases ixc b 1 (by omega) with x | ⟨x, y⟩ | ⟨j, hj, rfl⟩
    · exact ⟨-nI 1, I, I, by simp (disch := omega) only [sub_lt, le_sub, bl_lit, lgl, lgg, lgl0, lgg0, lglm, lggm, az_us, az_un, az_ue, az_urn, az_ure, bz_lit, nI_leI, nI_ltI, nI_eq, nI_clamp, nI_add, pk_sub, pk_mul, bz_nlt, bz_nle, bz_ltn, bz_len, bz_neq, bz_eqn, bz_nn, ↓reduceIte, Bool.false_eq_true, if_pos, if_neg, bz_neL x, c3], by simp (disch := omega) only [sub_lt, le_sub, bl_lit, lgl, lgg, lgl0, lgg0, lglm, lggm, az_us, az_un, az_ue, az_urn, az_ure, bz_lit, nI_leI, nI_ltI, nI_eq, nI_clamp, nI_add, pk_sub, pk_mul, bz_nlt, bz_nle, bz_ltn, bz_len, bz_neq, bz_eqn, bz_nn, ↓reduceIte, Bool.false_eq_true, if_pos, if_neg, x, c4], h⟩
    · exact ⟨-nI 1, I, I, by simp (disch := omega) only [sub_lt, le_sub, bl_lit, lgl, lgg, lgl0, lgg0, lglm, lggm, az_us, az_un, az_ue, az_urn, az_ure, bz_lit, nI_leI, nI_ltI, nI_eq, nI_clamp, nI_add, pk_sub, pk_mul, bz_nlt, bz_nle, bz_ltn, bz_len, bz_neq, bz_eqn, bz_nn, ↓reduceIte, Bool.false_eq_true, if_pos, if_neg, bz_neG y, c3], by simp (disch := omega) only [sub_lt, le_sub, bl_lit, lgl, lgg, lgl0, lgg0, lglm, lggm, az_us, az_un, az_ue, az_urn, az_ure, bz_lit, nI_leI, nI_ltI, nI_eq, nI_clamp, nI_add, pk_sub, pk_mul, bz_nlt, bz_nle, bz_ltn, bz_len, bz_neq, bz_eqn, bz_nn, ↓reduceIte, Bool.false_eq_true, if_pos, if_neg, x, y, c4], h⟩
    · obtain ⟨I1, r1, f1, p1⟩ := px_set hrl hB qX (w := w) (by omega)
      obtain ⟨I2, r2, f2, v2⟩ := px_fillArms hrl hB qX n1 c1 f1 ⟨_, p1⟩
      obtain ⟨g1, g2, g3⟩ := hw w (by omega)
      have hAb : ∀ p, p < 8 → ∀ i, am hh (tt L (hk i) (I 9 w) (I 10 w) (I 4 10)) (pc p) (pt p) ≤ 2178 := fun p hp i => gd_d_le (qX.ok hB _ _ _ _) true (qX.2.2 p hp).2.1 (qX.2.2 p hp).2.2.2
      generalize hAA : (fun p i => am hh (tt L (hk i) (I 9 w) (I 10 w) (I 4 10)) (pc p) (pt p)) = A
      have hA : ∀ p i, am hh (tt L (hk i) (I 9 w) (I 10 w) (I 4 10)) (pc p) (pt p) = A p i := fun p i => by rw [← hAA]
      have hAb' : ∀ p, p < 8 → ∀ i, A p i ≤ 2178 := fun p hp i => by rw [← hA]; exact hAb p hp i
      have hC : ∀ p, mxf (fun i => gd_n (fun j => decide (A p i = A p j)) 19) 19 ≤ 19 := fun p => mxf_le 19 (fun i _ => gd_n_le _ 19)
      generalize hCC : (fun p => mxf (fun i => gd_n (fun j => decide (A p i = A p j)) 19) 19) = C
      have hC1 : ∀ p, mxf (fun i => gd_n (fun j => decide (A p i = A p j)) 19) 19 = C p := fun p => by rw [← hCC]
      have hC2 : ∀ p, C p ≤ 19 := fun p => by rw [← hC1]; exact hC p
      have hμ : ∀ s : Int32 × Nat × Nat, (s.2.2 ≤ np ∧ s.2.1 ≤ 19 ∧ (s.1 = -nI 2 ∨ ∃ j, j < 8 ∧ s.1 = nI j)) → (∃ s', f_nx np C (nI j) s = .inl s' ∧ (s'.2.2 ≤ np ∧ s'.2.1 ≤ 19 ∧ (s'.1 = -nI 2 ∨ ∃ j, j < 8 ∧ s'.1 = nI j)) ∧ np - s'.2.2 < np - s.2.2) ∨ ∃ v, f_nx np C (nI j) s = .inr v := by
        intro s hs
        unfold f_nx
        by_cases hi : np ≤ s.2.2
        · exact Or.inr ⟨_, if_pos hi⟩
        · have := f_nx_s n1 hC2 hi hs
          exact Or.inl ⟨_, if_neg hi, this.1, this.2⟩
      have i0 : ((-nI 2, 0, 0) : Int32 × Nat × Nat).2.2 ≤ np ∧ ((-nI 2, 0, 0) : Int32 × Nat × Nat).2.1 ≤ 19 ∧ (((-nI 2, 0, 0) : Int32 × Nat × Nat).1 = -nI 2 ∨ ∃ j, j < 8 ∧ ((-nI 2, 0, 0) : Int32 × Nat × Nat).1 = nI j) := ⟨by (try dsimp only); omega, by (try dsimp only); omega, Or.inl rfl⟩
      obtain ⟨v, hv⟩ := pl_ex (fun s : Int32 × Nat × Nat => np - s.2.2) hμ 100000 (-nI 2, 0, 0) (by (try dsimp only); omega) i0
      have j2 : j = 0 ∨ j = 1 := by omega
      have c1' : I2 4 3 = nI np := by rw [f2 4 3 (by unfold scX; omega)]; exact c1
      obtain ⟨Ix, x, hx⟩ := pl_sim (b := fun s : (Int32 × Int32 × Int32) => rs_X_next_35_b rd rl I2 (nI j) s.1 s.2.1 s.2.2) (pk := fun s _ => (s.1, (if s.1 = -nI 2 then nI 0 else nI s.2.1), nI s.2.2)) (fin := fun v I => (v, I)) (Inv := fun s => s.2.2 ≤ np ∧ s.2.1 ≤ 19 ∧ (s.1 = -nI 2 ∨ ∃ j, j < 8 ∧ s.1 = nI j)) (P := fun I' => I' = I2)
        (by
          intro s I' hs hP
          subst hP
          refine ⟨I', rfl, ?_⟩
          unfold f_nx
          by_cases hi : np ≤ s.2.2
          · refine Or.inr ⟨_, if_pos hi, ?_⟩
            obtain ⟨s1, s2, s3⟩ := s
            (try dsimp only at hs hi ⊢)
            unfold rs_X_next_35_b rs_X_next_81
            rcases hs.2.2 with z | ⟨jj, hjj, z⟩
            · subst z
              rcases j2 with rfl | rfl
              · simp (disch := omega) only [bl_lit, lgl, lgg, lgl0, lgg0, lglm, lggm, az_us, az_un, az_ue, az_urn, az_ure, bz_lit, nI_leI, nI_ltI, nI_eq, nI_clamp, nI_add, pk_sub, pk_mul, bz_nlt, bz_nle, bz_ltn, bz_len, bz_neq, bz_eqn, bz_nn, ↓reduceIte, Bool.false_eq_true, if_pos, if_neg, c1', Option.map_some]
              · simp (disch := omega) only [bl_lit, lgl, lgg, lgl0, lgg0, lglm, lggm, az_us, az_un, az_ue, az_urn, az_ure, bz_lit, nI_leI, nI_ltI, nI_eq, nI_clamp, nI_add, pk_sub, pk_mul, bz_nlt, bz_nle, bz_ltn, bz_len, bz_neq, bz_eqn, bz_nn, ↓reduceIte, Bool.false_eq_true, if_pos, if_neg, c1', Option.map_some]
            · subst z
              rcases j2 with rfl | rfl
              · simp (disch := omega) only [bl_lit, lgl, lgg, lgl0, lgg0, lglm, lggm, az_us, az_un, az_ue, az_urn, az_ure, bz_lit, nI_leI, nI_ltI, nI_eq, nI_clamp, nI_add, pk_sub, pk_mul, bz_nlt, bz_nle, bz_ltn, bz_len, bz_neq, bz_eqn, bz_nn, ↓reduceIte, Bool.false_eq_true, if_pos, if_neg, c1', Option.map_some]
              · simp (disch := omega) only [bl_lit, lgl, lgg, lgl0, lgg0, lglm, lggm, az_us, az_un, az_ue, az_urn, az_ure, bz_lit, nI_leI, nI_ltI, nI_eq, nI_clamp, nI_add, pk_sub, pk_mul, bz_nlt, bz_nle, bz_ltn, bz_len, bz_neq, bz_eqn, bz_nn, ↓reduceIte, Bool.false_eq_true, if_pos, if_neg, c1', Option.map_some]
          · have := f_nx_s n1 hC2 hi hs
            refine Or.inl ⟨_, if_neg hi, this.1, ?_⟩
            obtain ⟨s1, s2, s3⟩ := s
            (try dsimp only at hs hi ⊢)
            have cr := px_crowd (I := I') (A := A s3) (p := s3) (by omega) (fun i _ => hAb' s3 (by omega) i) (fun i hi' => by rw [v2 s3 (by omega) i hi', hA])
            rw [hC1] at cr
            have cb := hC2 s3
            unfold rs_X_next_35_b
            rcases hs.2.2 with z | ⟨jj, hjj, z⟩
            · subst z
              simp (disch := omega) only [bl_lit, lgl, lgg, lgl0, lgg0, lglm, lggm, az_us, az_un, az_ue, az_urn, az_ure, bz_lit, nI_leI, nI_ltI, nI_eq, nI_clamp, nI_add, pk_sub, pk_mul, bz_nlt, bz_nle, bz_ltn, bz_len, bz_neq, bz_eqn, bz_nn, ↓reduceIte, Bool.false_eq_true, if_pos, if_neg, c1', cr]
            · subst z
              by_cases z2 : s2 ≤ C s3
              · simp (disch := omega) only [bl_lit, lgl, lgg, lgl0, lgg0, lglm, lggm, az_us, az_un, az_ue, az_urn, az_ure, bz_lit, nI_leI, nI_ltI, nI_eq, nI_clamp, nI_add, pk_sub, pk_mul, bz_nlt, bz_nle, bz_ltn, bz_len, bz_neq, bz_eqn, bz_nn, ↓reduceIte, Bool.false_eq_true, if_pos, if_neg, c1', cr, z2]
              · simp (disch := omega) only [bl_lit, lgl, lgg, lgl0, lgg0, lglm, lggm, az_us, az_un, az_ue, az_urn, az_ure, bz_lit, nI_leI, nI_ltI, nI_eq, nI_clamp, nI_add, pk_sub, pk_mul, bz_nlt, bz_nle, bz_ltn, bz_len, bz_neq, bz_eqn, bz_nn, ↓reduceIte, Bool.false_eq_true, if_pos, if_neg, c1', cr, z2]) 100000 (-nI 2, 0, 0) I2 v i0 rfl hv
      subst hx
      obtain ⟨I4, y, fy⟩ := pl_sim (b := fun s : (Int32 × Int32 × Int32 × (Nat → Nat → Int32)) => rs_M_next_31_b (nI w) (nI j) s.1 s.2.1 s.2.2.1 s.2.2.2) (pk := fun s I => (s.1, (if s.1 = -nI 2 then -nI 2 else nI s.2.1), nI s.2.2, I)) (fin := fun v I => (v, I)) (Inv := fun s => s.2.2 ≤ np ∧ s.2.1 ≤ 19 ∧ (s.1 = -nI 2 ∨ ∃ j, j < 8 ∧ s.1 = nI j)) (P := fun I' => az_fr scM Ix I')
        (by
          intro s I' hs ff
          have c2' : I' 73 6 = nI np := by rw [ff 73 6 (by unfold scM; omega), f2 73 6 (by unfold scX; omega)]; exact c2
          unfold f_nx
          by_cases hi : np ≤ s.2.2
          · refine ⟨I', ff, Or.inr ⟨_, if_pos hi, ?_⟩⟩
            obtain ⟨s1, s2, s3⟩ := s
            (try dsimp only at hs hi ⊢)
            unfold rs_M_next_31_b rs_M_next_164
            rcases hs.2.2 with z | ⟨jj, hjj, z⟩
            · subst z
              rcases j2 with rfl | rfl
              · simp (disch := omega) only [bl_lit, lgl, lgg, lgl0, lgg0, lglm, lggm, az_us, az_un, az_ue, az_urn, az_ure, bz_lit, nI_leI, nI_ltI, nI_eq, nI_clamp, nI_add, pk_sub, pk_mul, bz_nlt, bz_nle, bz_ltn, bz_len, bz_neq, bz_eqn, bz_nn, ↓reduceIte, Bool.false_eq_true, if_pos, if_neg, c2', Option.map_some]
              · simp (disch := omega) only [bl_lit, lgl, lgg, lgl0, lgg0, lglm, lggm, az_us, az_un, az_ue, az_urn, az_ure, bz_lit, nI_leI, nI_ltI, nI_eq, nI_clamp, nI_add, pk_sub, pk_mul, bz_nlt, bz_nle, bz_ltn, bz_len, bz_neq, bz_eqn, bz_nn, ↓reduceIte, Bool.false_eq_true, if_pos, if_neg, c2', Option.map_some]
            · subst z
              rcases j2 with rfl | rfl
              · simp (disch := omega) only [bl_lit, lgl, lgg, lgl0, lgg0, lglm, lggm, az_us, az_un, az_ue, az_urn, az_ure, bz_lit, nI_leI, nI_ltI, nI_eq, nI_clamp, nI_add, pk_sub, pk_mul, bz_nlt, bz_nle, bz_ltn, bz_len, bz_neq, bz_eqn, bz_nn, ↓reduceIte, Bool.false_eq_true, if_pos, if_neg, c2', Option.map_some]
              · simp (disch := omega) only [bl_lit, lgl, lgg, lgl0, lgg0, lglm, lggm, az_us, az_un, az_ue, az_urn, az_ure, bz_lit, nI_leI, nI_ltI, nI_eq, nI_clamp, nI_add, pk_sub, pk_mul, bz_nlt, bz_nle, bz_ltn, bz_len, bz_neq, bz_eqn, bz_nn, ↓reduceIte, Bool.false_eq_true, if_pos, if_neg, c2', Option.map_some]
          · have hst := f_nx_s n1 hC2 hi hs
            obtain ⟨s1, s2, s3⟩ := s
            (try dsimp only at hs hi)
            obtain ⟨I5, f5, r5⟩ := pm_crowd hB (qM.fr (scX_sc f2)) ff (p := s3) (w := w) (by omega) (by omega) (nI j) s1 (if s1 = -nI 2 then -nI 2 else nI s2) (A := A s3) (fun i _ => hAb' s3 (by omega) i) (fun i hi' => by
              rw [f2 74 (166 + w) (by unfold scX; omega), f2 74 (172 + w) (by unfold scX; omega), f2 74 178 (by unfold scX; omega), g2, g3, hwe]
              exact hA s3 i)
            rw [← nx_crowd, hC1] at r5
            have cb := hC2 s3
            refine ⟨I5, f5, Or.inl ⟨_, if_neg hi, hst.1, ?_⟩⟩
            (try dsimp only)
            unfold rs_M_next_31_b
            rw [show (0 : Int32) = nI 0 from rfl, r5]
            unfold rs_M_next_140
            rcases hs.2.2 with z | ⟨jj, hjj, z⟩
            · subst z
              simp (disch := omega) only [bl_lit, lgl, lgg, lgl0, lgg0, lglm, lggm, az_us, az_un, az_ue, az_urn, az_ure, bz_lit, nI_leI, nI_ltI, nI_eq, nI_clamp, nI_add, pk_sub, pk_mul, bz_nlt, bz_nle, bz_ltn, bz_len, bz_neq, bz_eqn, bz_nn, ↓reduceIte, Bool.false_eq_true, if_pos, if_neg, c2']
            · subst z
              by_cases z2 : s2 ≤ C s3
              · simp (disch := omega) only [bl_lit, lgl, lgg, lgl0, lgg0, lglm, lggm, az_us, az_un, az_ue, az_urn, az_ure, bz_lit, nI_leI, nI_ltI, nI_eq, nI_clamp, nI_add, pk_sub, pk_mul, bz_nlt, bz_nle, bz_ltn, bz_len, bz_neq, bz_eqn, bz_nn, ↓reduceIte, Bool.false_eq_true, if_pos, if_neg, c2', z2]
              · simp (disch := omega) only [bl_lit, lgl, lgg, lgl0, lgg0, lglm, lggm, az_us, az_un, az_ue, az_urn, az_ure, bz_lit, nI_leI, nI_ltI, nI_eq, nI_clamp, nI_add, pk_sub, pk_mul, bz_nlt, bz_nle, bz_ltn, bz_len, bz_neq, bz_eqn, bz_nn, ↓reduceIte, Bool.false_eq_true, if_pos, if_neg, c2', z2]) 100000 (-nI 2, 0, 0) Ix v i0 az_fr.refl hv
      refine mt_mk h v ?_ f2 ?_ fy
      · rcases j2 with rfl | rfl
        · simp (disch := omega) only [sub_lt, le_sub, bl_lit, lgl, lgg, lgl0, lgg0, lglm, lggm, az_us, az_un, az_ue, az_urn, az_ure, bz_lit, nI_leI, nI_ltI, nI_eq, nI_clamp, nI_add, pk_sub, pk_mul, bz_nlt, bz_nle, bz_ltn, bz_len, bz_neq, bz_eqn, bz_nn, ↓reduceIte, Bool.false_eq_true, if_pos, if_neg, c3, r1, r2]
          exact x
        · simp (disch := omega) only [sub_lt, le_sub, bl_lit, lgl, lgg, lgl0, lgg0, lglm, lggm, az_us, az_un, az_ue, az_urn, az_ure, bz_lit, nI_leI, nI_ltI, nI_eq, nI_clamp, nI_add, pk_sub, pk_mul, bz_nlt, bz_nle, bz_ltn, bz_len, bz_neq, bz_eqn, bz_nn, ↓reduceIte, Bool.false_eq_true, if_pos, if_neg, c3, r1, r2]
          exact x
      · have c4' : Ix 73 7 = nI nw := by rw [f2 73 7 (by unfold scX; omega)]; exact c4
        simp (disch := omega) only [sub_lt, le_sub, bl_lit, lgl, lgg, lgl0, lgg0, lglm, lggm, az_us, az_un, az_ue, az_urn, az_ure, bz_lit, nI_leI, nI_ltI, nI_eq, nI_clamp, nI_add, pk_sub, pk_mul, bz_nlt, bz_nle, bz_ltn, bz_len, bz_neq, bz_eqn, bz_nn, ↓reduceIte, Bool.false_eq_true, if_pos, if_neg, c4']
        exact y
end

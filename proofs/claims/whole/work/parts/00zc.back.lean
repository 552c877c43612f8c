/-! backFrom, reach, meet -/
/-- the last place of the first k -/
noncomputable def bk (E D P : Nat → Nat) : Nat → Int32
  | 0 => -nI 2
  | k + 1 => if E (P k) ≤ D (P k) then nI k else bk E D P k
def f_re (t what : Int32) (D : Nat → Nat) (s : Int32 × Nat × Nat) : (Int32 × Nat × Nat) ⊕ Int32 :=
  if 144 ≤ s.2.2 then .inr (if what = nI 0 then s.1 else nI s.2.1) else .inl (if t < nI (D s.2.2) then (s.1, s.2.1, s.2.2 + 1) else if D s.2.2 ≤ D s.2.1 then (s.1 + nI 1, s.2.1, s.2.2 + 1) else (s.1 + nI 1, s.2.2, s.2.2 + 1))
theorem f_re_s {t what : Int32} {D : Nat → Nat} {s : Int32 × Nat × Nat} (hi : ¬ 144 ≤ s.2.2) (hs : s.2.2 ≤ 144 ∧ s.2.1 < 144) :
    (fun s' : Int32 × Nat × Nat => (s'.2.2 ≤ 144 ∧ s'.2.1 < 144) ∧ 144 - s'.2.2 < 144 - s.2.2) (if t < nI (D s.2.2) then (s.1, s.2.1, s.2.2 + 1) else if D s.2.2 ≤ D s.2.1 then (s.1 + nI 1, s.2.1, s.2.2 + 1) else (s.1 + nI 1, s.2.2, s.2.2 + 1)) := by
  (try dsimp only)
  split
  · (try dsimp only); omega
  · split
    · (try dsimp only); omega
    · (try dsimp only); omega
def f_me (what : Int32) (M : Nat → Nat) (s : Nat × Nat × Nat) : (Nat × Nat × Nat) ⊕ Int32 :=
  if 144 ≤ s.2.2 then .inr (if what = nI 0 then nI s.1 else nI s.2.1) else .inl (if s.2.1 ≤ M s.2.2 then (s.1, s.2.1, s.2.2 + 1) else (s.2.2, M s.2.2, s.2.2 + 1))
theorem az_lp_l {S X : Type} {b : S → Option (S ⊕ X)} {n : Nat} {s s' : S} (h : b s = some (.inl s')) : az_lp b (n + 1) s = az_lp b n s' := by
  conv => lhs; unfold az_lp
  rw [h]
theorem az_lp_r {S X : Type} {b : S → Option (S ⊕ X)} {n : Nat} {s : S} {x : X} (h : b s = some (.inr x)) : az_lp b (n + 1) s = some x := by
  conv => lhs; unfold az_lp
  rw [h]
section
variable {I : Nat → Nat → Int32} {J : Nat → Nat → Int64} {rl rd : Nat}
/-- the reference lays minutes by -/
theorem pm_copy {D : Nat → Nat} {h t : Nat → Nat} (hD : ∀ c, c < 144 → I 84 c = nI (D c)) (p : dk_in I h t) {V : Type} (body : Int32 → (Nat → Nat → Int32) → Option ((Int32 × (Nat → Nat → Int32)) ⊕ V)) (cont : (Nat → Nat → Int32) → Option V)
    (hb : ∀ k I', k < 144 → body (nI k) I' = some (.inl (nI (k + 1), az_u I' 87 k (I' 84 k)))) (he : ∀ I', body (nI 144) I' = (cont I').map .inr) :
    ∃ I', az_fr (fun r _ => r = 87) I I' ∧ dk_in I' h t ∧ (∀ c, c < 144 → I' 87 c = nI (D c)) ∧ ∀ v, cont I' = some v → az_lp (fun s : (Int32 × (Nat → Nat → Int32)) => body s.1 s.2) 100000 (nI 0, I) = some v := by
  have ex : ∀ n, n ≤ 144 → ∃ I', az_fr (fun r _ => r = 87) I I' ∧ (∀ c, c < n → I' 87 c = nI (D c)) ∧ ∀ m v, az_lp (fun s : (Int32 × (Nat → Nat → Int32)) => body s.1 s.2) m (nI n, I') = some v → az_lp (fun s : (Int32 × (Nat → Nat → Int32)) => body s.1 s.2) (m + n) (nI 0, I) = some v := by
    intro n
    induction n with
    | zero => exact fun _ => ⟨I, az_fr.refl, fun c hc => absurd hc (Nat.not_lt_zero c), fun m v h => h⟩
    | succ n ih =>
      intro hn
      obtain ⟨I', f, g, k⟩ := ih (by omega)
      refine ⟨az_u I' 87 n (I' 84 n), f.u rfl, fun c hc => ?_, fun m v hm => ?_⟩
      · by_cases q : c = n
        · subst q
          rw [az_us, f 84 c (by omega), hD c (by omega)]
        · rw [az_un (by omega)]; exact g c (by omega)
      · rw [show m + (n + 1) = (m + 1) + n from by omega]
        apply k
        unfold az_lp
        (try dsimp only)
        rw [hb n I' (by omega)]
        exact hm
  obtain ⟨I', f, g, k⟩ := ex 144 (by omega)
  refine ⟨I', f, ⟨fun c hc => by rw [f 74 c (by omega)]; exact p.1 c hc, fun c hc => by rw [f 83 c (by omega)]; exact p.2 c hc⟩, g, fun v hv => ?_⟩
  have q := k 99856 v (az_lp_r (n := 99855) (by (try dsimp only); rw [he, hv]; rfl))
  exact q
theorem mt_backFrom (h : Rel I J rl rd) (a b d : Int32) : mt (rs_X_backFrom rd rl I a b d) (fun I => rs_M_backFrom I a b d) J rl rd := by
  obtain ⟨np, nw, L, hh, pc, pt, n1, n2, ⟨c1, c2, c3, c4⟩, hrl, hB, qX, qM, hw, hwe⟩ := h.w
  unfold rs_X_backFrom rs_M_backFrom
  rcases ix_ft (a := a) with ⟨x, y⟩ | ⟨x, y, s, e, hs, he, _, e1, e2⟩
  · rw [x, y]
    exact ⟨_, I, I, rfl, rfl, h⟩
  · rw [x, y, e2, e1]
    rcases ix b nw (by omega) with x | ⟨x, y⟩ | ⟨w, hww, rfl⟩
    · exact ⟨-nI 1, I, I, by simp (disch := omega) only [bl_lit, lgl, lgg, lgl0, lgg0, lglm, lggm, az_us, az_un, az_ue, az_urn, az_ure, bz_lit, nI_leI, nI_ltI, nI_eq, nI_clamp, nI_add, pk_sub, pk_mul, bz_nlt, bz_nle, bz_ltn, bz_len, bz_neq, bz_eqn, bz_nn, ↓reduceIte, Bool.false_eq_true, if_pos, if_neg, x], by simp (disch := omega) only [bl_lit, lgl, lgg, lgl0, lgg0, lglm, lggm, az_us, az_un, az_ue, az_urn, az_ure, bz_lit, nI_leI, nI_ltI, nI_eq, nI_clamp, nI_add, pk_sub, pk_mul, bz_nlt, bz_nle, bz_ltn, bz_len, bz_neq, bz_eqn, bz_nn, ↓reduceIte, Bool.false_eq_true, if_pos, if_neg, x], h⟩
    · exact ⟨-nI 1, I, I, by simp (disch := omega) only [bl_lit, lgl, lgg, lgl0, lgg0, lglm, lggm, az_us, az_un, az_ue, az_urn, az_ure, bz_lit, nI_leI, nI_ltI, nI_eq, nI_clamp, nI_add, pk_sub, pk_mul, bz_nlt, bz_nle, bz_ltn, bz_len, bz_neq, bz_eqn, bz_nn, ↓reduceIte, Bool.false_eq_true, if_pos, if_neg, x, y, c3], by simp (disch := omega) only [bl_lit, lgl, lgg, lgl0, lgg0, lglm, lggm, az_us, az_un, az_ue, az_urn, az_ure, bz_lit, nI_leI, nI_ltI, nI_eq, nI_clamp, nI_add, pk_sub, pk_mul, bz_nlt, bz_nle, bz_ltn, bz_len, bz_neq, bz_eqn, bz_nn, ↓reduceIte, Bool.false_eq_true, if_pos, if_neg, x, y, c4], h⟩
    · rcases ixc d 143 (by omega) with x | ⟨x, y⟩ | ⟨o, ho, rfl⟩
      · exact ⟨-nI 1, I, I, by simp (disch := omega) only [sub_lt, le_sub, bl_lit, lgl, lgg, lgl0, lgg0, lglm, lggm, az_us, az_un, az_ue, az_urn, az_ure, bz_lit, nI_leI, nI_ltI, nI_eq, nI_clamp, nI_add, pk_sub, pk_mul, bz_nlt, bz_nle, bz_ltn, bz_len, bz_neq, bz_eqn, bz_nn, ↓reduceIte, Bool.false_eq_true, if_pos, if_neg, x, c3], by simp (disch := omega) only [sub_lt, le_sub, bl_lit, lgl, lgg, lgl0, lgg0, lglm, lggm, az_us, az_un, az_ue, az_urn, az_ure, bz_lit, nI_leI, nI_ltI, nI_eq, nI_clamp, nI_add, pk_sub, pk_mul, bz_nlt, bz_nle, bz_ltn, bz_len, bz_neq, bz_eqn, bz_nn, ↓reduceIte, Bool.false_eq_true, if_pos, if_neg, x, c4], h⟩
      · exact ⟨-nI 1, I, I, by simp (disch := omega) only [sub_lt, le_sub, bl_lit, lgl, lgg, lgl0, lgg0, lglm, lggm, az_us, az_un, az_ue, az_urn, az_ure, bz_lit, nI_leI, nI_ltI, nI_eq, nI_clamp, nI_add, pk_sub, pk_mul, bz_nlt, bz_nle, bz_ltn, bz_len, bz_neq, bz_eqn, bz_nn, ↓reduceIte, Bool.false_eq_true, if_pos, if_neg, x, y, c3], by simp (disch := omega) only [sub_lt, le_sub, bl_lit, lgl, lgg, lgl0, lgg0, lglm, lggm, az_us, az_un, az_ue, az_urn, az_ure, bz_lit, nI_leI, nI_ltI, nI_eq, nI_clamp, nI_add, pk_sub, pk_mul, bz_nlt, bz_nle, bz_ltn, bz_len, bz_neq, bz_eqn, bz_nn, ↓reduceIte, Bool.false_eq_true, if_pos, if_neg, x, y, c4], h⟩
      · obtain ⟨g1, g2, g3⟩ := hw w (by omega)
        obtain ⟨I1, r1, f1, p1⟩ := px_set hrl hB qX (w := w) (by omega)
        have ok := qX.ok hB (I 8 w) (I 9 w) (I 10 w) (I 4 10)
        obtain ⟨n, nn, m1, m2, m3⟩ := pth_ex ok hs he
        obtain ⟨I2, r2, f2, p2, v1, v2, v3⟩ := px_way hB f1 p1 hs he nn m1 m2 m3
        obtain ⟨I3, r3, f3, d3⟩ := sp_far ok false (Or.inl rfl) (Or.inr rfl) p2.2.2.2.2.2 (s := o) (by omega)
        replace r3 : rs_Fi_spread 26 34 I2 (nI o) (nI 1) (-nI 1) = some I3 := r3
        have f23 := f2.trans (f3.mono (fun r k z => by unfold sp_F at z; unfold scX; omega))
        have w1 : ∀ c, c < 144 → I3 33 c = nI (ds_d (dk_W hh (tt L (I 8 w) (I 9 w) (I 10 w) (I 4 10)) false) e c) := fun c hc => by rw [f3 33 c (by unfold sp_F; omega)]; exact v1 c hc
        have w2 : I3 32 3 = nI n := by rw [f3 32 3 (by unfold sp_F; omega)]; exact v2
        have w3 := fun k (hk : k ≤ n) => (f3 35 k (by unfold sp_F; omega)).trans (v3 k hk)
        have qM' := qM.fr (scX_sc f23)
        obtain ⟨I4, r4, f4, p4⟩ := pm_for qM' hB az_fr.refl (w := w) (by omega)
        rw [f23 74 (160 + w) (by unfold scX; omega), f23 74 (166 + w) (by unfold scX; omega), f23 74 (172 + w) (by unfold scX; omega), f23 74 178 (by unfold scX; omega), g1, g2, g3, hwe] at p4
        generalize ht : tt L (I 8 w) (I 9 w) (I 10 w) (I 4 10) = t at *
        obtain ⟨I5, r5, f5, d5⟩ := dk_far ok false p4 (s := o) (by omega)
        rw [show nI (if false then 1 else 0) = nI 0 from rfl] at r5
        have p5 := p4.fr f5
        have f45 := f4.trans (f5.mono (fun r k z => by unfold dk_F at z; unfold scM; omega))
        obtain ⟨I6, f6, p6, d6, k6⟩ := pm_copy (D := ds_d (dk_W hh t false) o) d5 p5 (rs_M_backFrom_40_b a) (fun I => rs_M_backFrom_68 I a)
          (fun k I' hk => by unfold rs_M_backFrom_40_b; simp (disch := omega) only [bl_lit, lgl, lgg, lgl0, lgg0, lglm, lggm, az_us, az_un, az_ue, az_urn, az_ure, bz_lit, nI_leI, nI_ltI, nI_eq, nI_clamp, nI_add, pk_sub, pk_mul, bz_nlt, bz_nle, bz_ltn, bz_len, bz_neq, bz_eqn, bz_nn, ↓reduceIte, Bool.false_eq_true, if_pos, if_neg]) (fun I' => by unfold rs_M_backFrom_40_b; simp (disch := omega) only [bl_lit, lgl, lgg, lgl0, lgg0, lglm, lggm, az_us, az_un, az_ue, az_urn, az_ure, bz_lit, nI_leI, nI_ltI, nI_eq, nI_clamp, nI_add, pk_sub, pk_mul, bz_nlt, bz_nle, bz_ltn, bz_len, bz_neq, bz_eqn, bz_nn, ↓reduceIte, Bool.false_eq_true, if_pos, if_neg])
        have f456 := f45.trans (f6.mono (fun r k z => by (try dsimp only at z); unfold scM; omega))
        obtain ⟨I7, r7, f7, d7⟩ := dk_far ok false p6 he
        rw [show nI (if false then 1 else 0) = (0 : Int32) from rfl] at r7
        have p7 := p6.fr f7
        have f47 := f456.trans (f7.mono (fun r k z => by unfold dk_F at z; unfold scM; omega))
        have e7 : ∀ c, c < 144 → I7 87 c = nI (ds_d (dk_W hh t false) o c) := fun c hc => by rw [f7 87 c (by unfold dk_F; omega)]; exact d6 c hc
        have c4' : I3 73 7 = nI nw := by rw [f23 73 7 (by unfold scX; omega)]; exact c4
        have leD : ∀ c, c < 144 → ds_d (dk_W hh t false) e c ≤ 2178 := fun c hc => gd_d_le ok false he hc
        have leE : ∀ c, c < 144 → ds_d (dk_W hh t false) o c ≤ 2178 := fun c hc => gd_d_le ok false (by omega) hc
        have hex := fun c (hc : c < 144) (hne : c ≠ e) => nx_ex ok he hc hne
        have hal := fun c (hc : c < 144) (hne : c ≠ e) => (nx_all ok he hc hne).2
        generalize hP : pth hh t (ds_d (dk_W hh t false) e) s = P at *
        have hP0 : P 0 = s := by rw [← hP]; rfl
        have hPs : ∀ k, P (k + 1) = nx hh t (ds_d (dk_W hh t false) e) (P k) := by intro k; rw [← hP]; rfl
        generalize ds_d (dk_W hh t false) o = E at *
        generalize ds_d (dk_W hh t false) e = D at *
        have X : rs_X_backFrom_78 rd rl I3 (nI n) = some (bk E D P (n + 1), I3) := by
          unfold rs_X_backFrom_78
          have body : ∀ k, k ≤ n → rs_X_backFrom_78_b rd rl I3 (nI k) = if E (P k) ≤ D (P k) then some (.inr (nI k, I3)) else some (.inl (nI k + -nI 1)) := by
            intro k hk
            have hc := m3 k hk
            have a1 := w3 k hk
            have a2 := w1 _ hc
            have a3 := d3 _ hc
            have a4 := leD _ hc
            have a5 := leE _ hc
            unfold rs_X_backFrom_78_b
            by_cases z : E (P k) ≤ D (P k)
            · simp (disch := omega) only [bl_lit, lgl, lgg, lgl0, lgg0, lglm, lggm, az_us, az_un, az_ue, az_urn, az_ure, bz_lit, nI_leI, nI_ltI, nI_eq, nI_clamp, nI_add, pk_sub, pk_mul, bz_nlt, bz_nle, bz_ltn, bz_len, bz_neq, bz_eqn, bz_nn, ↓reduceIte, Bool.false_eq_true, if_pos, if_neg, a1, a2, a3, z]
            · simp (disch := omega) only [bl_lit, lgl, lgg, lgl0, lgg0, lglm, lggm, az_us, az_un, az_ue, az_urn, az_ure, bz_lit, nI_leI, nI_ltI, nI_eq, nI_clamp, nI_add, pk_sub, pk_mul, bz_nlt, bz_nle, bz_ltn, bz_len, bz_neq, bz_eqn, bz_nn, ↓reduceIte, Bool.false_eq_true, if_pos, if_neg, a1, a2, a3, z]
          have bodm : rs_X_backFrom_78_b rd rl I3 (-nI 1) = some (.inr (-nI 2, I3)) := by
            unfold rs_X_backFrom_78_b
            rw [if_pos (show -nI 1 < 0 by decide)]
            rfl
          have down : ∀ k, k ≤ n → ∀ m, k + 1 < m → az_lp (fun s : Int32 => rs_X_backFrom_78_b rd rl I3 s) m (nI k) = some (bk E D P (k + 1), I3) := by
            intro k
            induction k with
            | zero =>
              intro h0 m hm
              obtain ⟨m, rfl⟩ : ∃ m', m = m' + 1 + 1 := ⟨m - 2, by omega⟩
              show az_lp _ _ _ = some (if E (P 0) ≤ D (P 0) then nI 0 else -nI 2, I3)
              have body := body 0 h0
              by_cases z : E (P 0) ≤ D (P 0)
              · rw [if_pos z] at body ⊢
                exact az_lp_r body
              · rw [if_neg z, show nI 0 + -nI 1 = -nI 1 from by decide] at body
                rw [if_neg z, az_lp_l body]
                exact az_lp_r bodm
            | succ k ih =>
              intro hk m hm
              obtain ⟨m, rfl⟩ : ∃ m', m = m' + 1 := ⟨m - 1, by omega⟩
              have ih' := ih (by omega) m (by omega)
              have body := body (k + 1) hk
              show az_lp _ _ _ = some (if E (P (k + 1)) ≤ D (P (k + 1)) then nI (k + 1) else bk E D P (k + 1), I3)
              by_cases z : E (P (k + 1)) ≤ D (P (k + 1))
              · rw [if_pos z] at body ⊢
                exact az_lp_r body
              · rw [if_neg z, show nI (k + 1) + -nI 1 = nI k from pk_m1 k] at body
                rw [if_neg z, az_lp_l body]
                exact ih'
          exact down n (Nat.le_refl n) 100000 (by omega)
        have M : rs_M_backFrom_92 I7 a (-nI 2) (nI s) (nI 0) = some (bk E D P (n + 1), I7) := by
          unfold rs_M_backFrom_92
          have main : ∃ x, az_lp (fun s : (Int32 × Int32 × Int32) => rs_M_backFrom_92_b I7 a s.1 s.2.1 s.2.2) 100000 (-nI 2, nI s, nI 0) = some x ∧ x = (bk E D P (n + 1), I7) := by
            refine az_for0 (fun k (q : Int32 × Int32 × Int32) => q = (bk E D P k, (if k ≤ n then nI (P k) else -nI 1), nI k)) (n + 1) (by omega) (by rw [if_pos (Nat.zero_le n), hP0]; rfl) ?_ ?_
            · intro k q hk e'
              subst e'
              rw [if_pos (show k ≤ n by omega)]
              have hc := m3 k (by omega)
              have a2 := d7 _ hc
              have a3 := e7 _ hc
              have a4 := leD _ hc
              have a5 := leE _ hc
              refine az_nxt (bk E D P (k + 1), (if k + 1 ≤ n then nI (P (k + 1)) else -nI 1), nI (k + 1)) ?_ rfl
              show rs_M_backFrom_92_b I7 a (bk E D P k) (nI (P k)) (nI k) = some (.inl ((if E (P k) ≤ D (P k) then nI k else bk E D P k), (if k + 1 ≤ n then nI (P (k + 1)) else -nI 1), nI (k + 1)))
              unfold rs_M_backFrom_92_b rs_M_backFrom_121
              rw [e2]
              by_cases kn : k = n
              · subst kn
                rw [if_neg (show ¬ k + 1 ≤ k by omega), m1]
                rw [m1] at a2 a3 a4 a5
                by_cases z : E e ≤ D e
                · simp (disch := omega) only [bl_lit, lgl, lgg, lgl0, lgg0, lglm, lggm, az_us, az_un, az_ue, az_urn, az_ure, bz_lit, nI_leI, nI_ltI, nI_eq, nI_clamp, nI_add, pk_sub, pk_mul, bz_nlt, bz_nle, bz_ltn, bz_len, bz_neq, bz_eqn, bz_nn, ↓reduceIte, Bool.false_eq_true, if_pos, if_neg, a2, a3, z]
                · simp (disch := omega) only [bl_lit, lgl, lgg, lgl0, lgg0, lglm, lggm, az_us, az_un, az_ue, az_urn, az_ure, bz_lit, nI_leI, nI_ltI, nI_eq, nI_clamp, nI_add, pk_sub, pk_mul, bz_nlt, bz_nle, bz_ltn, bz_len, bz_neq, bz_eqn, bz_nn, ↓reduceIte, Bool.false_eq_true, if_pos, if_neg, a2, a3, z]
              · rw [if_pos (show k + 1 ≤ n by omega)]
                have hne := m2 k (by omega)
                have nm := nx_M (I := I7) (D := D) p7 (fun c hc => ⟨d7 c hc, leD c hc⟩) hc (hex _ hc hne)
                rw [← hPs k] at nm
                by_cases z : E (P k) ≤ D (P k)
                · simp (disch := omega) only [bl_lit, lgl, lgg, lgl0, lgg0, lglm, lggm, az_us, az_un, az_ue, az_urn, az_ure, bz_lit, nI_leI, nI_ltI, nI_eq, nI_clamp, nI_add, pk_sub, pk_mul, bz_nlt, bz_nle, bz_ltn, bz_len, bz_neq, bz_eqn, bz_nn, ↓reduceIte, Bool.false_eq_true, if_pos, if_neg, a2, a3, hne, nm, z]
                · simp (disch := omega) only [bl_lit, lgl, lgg, lgl0, lgg0, lglm, lggm, az_us, az_un, az_ue, az_urn, az_ure, bz_lit, nI_leI, nI_ltI, nI_eq, nI_clamp, nI_add, pk_sub, pk_mul, bz_nlt, bz_nle, bz_ltn, bz_len, bz_neq, bz_eqn, bz_nn, ↓reduceIte, Bool.false_eq_true, if_pos, if_neg, a2, a3, hne, nm, z]
            · intro q e'
              subst e'
              refine ⟨_, ?_, rfl⟩
              rw [if_neg (show ¬ n + 1 ≤ n by omega)]
              show rs_M_backFrom_92_b I7 a (bk E D P (n + 1)) (-nI 1) (nI (n + 1)) = _
              unfold rs_M_backFrom_92_b
              simp (disch := omega) only [bl_lit, lgl, lgg, lgl0, lgg0, lglm, lggm, az_us, az_un, az_ue, az_urn, az_ure, bz_lit, nI_leI, nI_ltI, nI_eq, nI_clamp, nI_add, pk_sub, pk_mul, bz_nlt, bz_nle, bz_ltn, bz_len, bz_neq, bz_eqn, bz_nn, ↓reduceIte, Bool.false_eq_true, if_pos, if_neg]
          obtain ⟨x, hx, rfl⟩ := main
          exact hx
        refine mt_mk h (bk E D P (n + 1)) ?_ f23 ?_ f47
        · simp (disch := omega) only [sub_lt, le_sub, bl_lit, lgl, lgg, lgl0, lgg0, lglm, lggm, az_us, az_un, az_ue, az_urn, az_ure, bz_lit, nI_leI, nI_ltI, nI_eq, nI_clamp, nI_add, pk_sub, pk_mul, bz_nlt, bz_nle, bz_ltn, bz_len, bz_neq, bz_eqn, bz_nn, ↓reduceIte, Bool.false_eq_true, if_pos, if_neg, c3, r1, r2, r3, w2]
          exact X
        · simp (disch := omega) only [sub_lt, le_sub, bl_lit, lgl, lgg, lgl0, lgg0, lglm, lggm, az_us, az_un, az_ue, az_urn, az_ure, bz_lit, nI_leI, nI_ltI, nI_eq, nI_clamp, nI_add, pk_sub, pk_mul, bz_nlt, bz_nle, bz_ltn, bz_len, bz_neq, bz_eqn, bz_nn, ↓reduceIte, Bool.false_eq_true, if_pos, if_neg, c4', r4, r5]
          unfold rs_M_backFrom_40
          refine k6 _ ?_
          unfold rs_M_backFrom_68
          rw [e2, r7, e1]
          exact M
theorem mt_reach (h : Rel I J rl rd) (a b d e : Int32) : mt (rs_X_reach rd rl I a b d e) (fun I => rs_M_reach I a b d e) J rl rd := by
  obtain ⟨np, nw, L, hh, pc, pt, n1, n2, ⟨c1, c2, c3, c4⟩, hrl, hB, qX, qM, hw, hwe⟩ := h.w
  unfold rs_X_reach rs_M_reach
  rcases ixc a 143 (by omega) with x | ⟨x, y⟩ | ⟨s, hs, rfl⟩
  · exact ⟨-nI 1, I, I, by simp (disch := omega) only [bl_lit, lgl, lgg, lgl0, lgg0, lglm, lggm, az_us, az_un, az_ue, az_urn, az_ure, bz_lit, nI_leI, nI_ltI, nI_eq, nI_clamp, nI_add, pk_sub, pk_mul, bz_nlt, bz_nle, bz_ltn, bz_len, bz_neq, bz_eqn, bz_nn, ↓reduceIte, Bool.false_eq_true, if_pos, if_neg, x], by simp (disch := omega) only [bl_lit, lgl, lgg, lgl0, lgg0, lglm, lggm, az_us, az_un, az_ue, az_urn, az_ure, bz_lit, nI_leI, nI_ltI, nI_eq, nI_clamp, nI_add, pk_sub, pk_mul, bz_nlt, bz_nle, bz_ltn, bz_len, bz_neq, bz_eqn, bz_nn, ↓reduceIte, Bool.false_eq_true, if_pos, if_neg, x], h⟩
  · exact ⟨-nI 1, I, I, by simp (disch := omega) only [bl_lit, lgl, lgg, lgl0, lgg0, lglm, lggm, az_us, az_un, az_ue, az_urn, az_ure, bz_lit, nI_leI, nI_ltI, nI_eq, nI_clamp, nI_add, pk_sub, pk_mul, bz_nlt, bz_nle, bz_ltn, bz_len, bz_neq, bz_eqn, bz_nn, ↓reduceIte, Bool.false_eq_true, if_pos, if_neg, x, y], by simp (disch := omega) only [bl_lit, lgl, lgg, lgl0, lgg0, lglm, lggm, az_us, az_un, az_ue, az_urn, az_ure, bz_lit, nI_leI, nI_ltI, nI_eq, nI_clamp, nI_add, pk_sub, pk_mul, bz_nlt, bz_nle, bz_ltn, bz_len, bz_neq, bz_eqn, bz_nn, ↓reduceIte, Bool.false_eq_true, if_pos, if_neg, x, y], h⟩
  · rcases ix b nw (by omega) with x | ⟨x, y⟩ | ⟨w, hww, rfl⟩
    · exact ⟨-nI 1, I, I, by simp (disch := omega) only [bl_lit, lgl, lgg, lgl0, lgg0, lglm, lggm, az_us, az_un, az_ue, az_urn, az_ure, bz_lit, nI_leI, nI_ltI, nI_eq, nI_clamp, nI_add, pk_sub, pk_mul, bz_nlt, bz_nle, bz_ltn, bz_len, bz_neq, bz_eqn, bz_nn, ↓reduceIte, Bool.false_eq_true, if_pos, if_neg, x], by simp (disch := omega) only [bl_lit, lgl, lgg, lgl0, lgg0, lglm, lggm, az_us, az_un, az_ue, az_urn, az_ure, bz_lit, nI_leI, nI_ltI, nI_eq, nI_clamp, nI_add, pk_sub, pk_mul, bz_nlt, bz_nle, bz_ltn, bz_len, bz_neq, bz_eqn, bz_nn, ↓reduceIte, Bool.false_eq_true, if_pos, if_neg, x], h⟩
    · exact ⟨-nI 1, I, I, by simp (disch := omega) only [bl_lit, lgl, lgg, lgl0, lgg0, lglm, lggm, az_us, az_un, az_ue, az_urn, az_ure, bz_lit, nI_leI, nI_ltI, nI_eq, nI_clamp, nI_add, pk_sub, pk_mul, bz_nlt, bz_nle, bz_ltn, bz_len, bz_neq, bz_eqn, bz_nn, ↓reduceIte, Bool.false_eq_true, if_pos, if_neg, x, y, c3], by simp (disch := omega) only [bl_lit, lgl, lgg, lgl0, lgg0, lglm, lggm, az_us, az_un, az_ue, az_urn, az_ure, bz_lit, nI_leI, nI_ltI, nI_eq, nI_clamp, nI_add, pk_sub, pk_mul, bz_nlt, bz_nle, bz_ltn, bz_len, bz_neq, bz_eqn, bz_nn, ↓reduceIte, Bool.false_eq_true, if_pos, if_neg, x, y, c4], h⟩
    · by_cases d0 : d < nI 0
      · exact ⟨-nI 1, I, I, by simp (disch := omega) only [sub_lt, le_sub, bl_lit, lgl, lgg, lgl0, lgg0, lglm, lggm, az_us, az_un, az_ue, az_urn, az_ure, bz_lit, nI_leI, nI_ltI, nI_eq, nI_clamp, nI_add, pk_sub, pk_mul, bz_nlt, bz_nle, bz_ltn, bz_len, bz_neq, bz_eqn, bz_nn, ↓reduceIte, Bool.false_eq_true, if_pos, if_neg, d0, c3], by simp (disch := omega) only [sub_lt, le_sub, bl_lit, lgl, lgg, lgl0, lgg0, lglm, lggm, az_us, az_un, az_ue, az_urn, az_ure, bz_lit, nI_leI, nI_ltI, nI_eq, nI_clamp, nI_add, pk_sub, pk_mul, bz_nlt, bz_nle, bz_ltn, bz_len, bz_neq, bz_eqn, bz_nn, ↓reduceIte, Bool.false_eq_true, if_pos, if_neg, d0, c4], h⟩
      · by_cases d1 : nI 999 < d
        · exact ⟨-nI 1, I, I, by simp (disch := omega) only [sub_lt, le_sub, bl_lit, lgl, lgg, lgl0, lgg0, lglm, lggm, az_us, az_un, az_ue, az_urn, az_ure, bz_lit, nI_leI, nI_ltI, nI_eq, nI_clamp, nI_add, pk_sub, pk_mul, bz_nlt, bz_nle, bz_ltn, bz_len, bz_neq, bz_eqn, bz_nn, ↓reduceIte, Bool.false_eq_true, if_pos, if_neg, d0, d1, c3], by simp (disch := omega) only [sub_lt, le_sub, bl_lit, lgl, lgg, lgl0, lgg0, lglm, lggm, az_us, az_un, az_ue, az_urn, az_ure, bz_lit, nI_leI, nI_ltI, nI_eq, nI_clamp, nI_add, pk_sub, pk_mul, bz_nlt, bz_nle, bz_ltn, bz_len, bz_neq, bz_eqn, bz_nn, ↓reduceIte, Bool.false_eq_true, if_pos, if_neg, d0, d1, c4], h⟩
        · rcases ixc e 1 (by omega) with x | ⟨x, y⟩ | ⟨j, hj, rfl⟩
          · exact ⟨-nI 1, I, I, by simp (disch := omega) only [sub_lt, le_sub, bl_lit, lgl, lgg, lgl0, lgg0, lglm, lggm, az_us, az_un, az_ue, az_urn, az_ure, bz_lit, nI_leI, nI_ltI, nI_eq, nI_clamp, nI_add, pk_sub, pk_mul, bz_nlt, bz_nle, bz_ltn, bz_len, bz_neq, bz_eqn, bz_nn, ↓reduceIte, Bool.false_eq_true, if_pos, if_neg, d0, d1, bz_neL x, c3], by simp (disch := omega) only [sub_lt, le_sub, bl_lit, lgl, lgg, lgl0, lgg0, lglm, lggm, az_us, az_un, az_ue, az_urn, az_ure, bz_lit, nI_leI, nI_ltI, nI_eq, nI_clamp, nI_add, pk_sub, pk_mul, bz_nlt, bz_nle, bz_ltn, bz_len, bz_neq, bz_eqn, bz_nn, ↓reduceIte, Bool.false_eq_true, if_pos, if_neg, d0, d1, x, c4], h⟩
          · exact ⟨-nI 1, I, I, by simp (disch := omega) only [sub_lt, le_sub, bl_lit, lgl, lgg, lgl0, lgg0, lglm, lggm, az_us, az_un, az_ue, az_urn, az_ure, bz_lit, nI_leI, nI_ltI, nI_eq, nI_clamp, nI_add, pk_sub, pk_mul, bz_nlt, bz_nle, bz_ltn, bz_len, bz_neq, bz_eqn, bz_nn, ↓reduceIte, Bool.false_eq_true, if_pos, if_neg, d0, d1, bz_neG y, c3], by simp (disch := omega) only [sub_lt, le_sub, bl_lit, lgl, lgg, lgl0, lgg0, lglm, lggm, az_us, az_un, az_ue, az_urn, az_ure, bz_lit, nI_leI, nI_ltI, nI_eq, nI_clamp, nI_add, pk_sub, pk_mul, bz_nlt, bz_nle, bz_ltn, bz_len, bz_neq, bz_eqn, bz_nn, ↓reduceIte, Bool.false_eq_true, if_pos, if_neg, d0, d1, x, y, c4], h⟩
          · obtain ⟨g1, g2, g3⟩ := hw w (by omega)
            obtain ⟨I1, r1, f1, p1⟩ := px_set hrl hB qX (w := w) (by omega)
            have ok := qX.ok hB (I 8 w) (I 9 w) (I 10 w) (I 4 10)
            obtain ⟨I2, r2, f2, v2⟩ := sp_far ok true (Or.inl rfl) (Or.inl rfl) p1.2.2.2.2.2 (s := s) (by omega)
            replace r2 : rs_Fi_spread 26 33 I1 (nI s) (nI 0) (-nI 1) = some I2 := r2
            have f12 := f1.trans (f2.mono (fun r k z => by unfold sp_F at z; unfold scX; omega))
            have qM' := qM.fr (scX_sc f12)
            obtain ⟨I4, r4, f4, p4⟩ := pm_for qM' hB az_fr.refl (w := w) (by omega)
            rw [f12 74 (160 + w) (by unfold scX; omega), f12 74 (166 + w) (by unfold scX; omega), f12 74 (172 + w) (by unfold scX; omega), f12 74 178 (by unfold scX; omega), g1, g2, g3, hwe] at p4
            obtain ⟨I5, r5, f5, d5⟩ := dk_far ok true p4 (s := s) (by omega)
            replace r5 : rs_M_asksMinutes I4 (nI s) (nI 1) = some I5 := r5
            have f45 := f4.trans (f5.mono (fun r k z => by unfold dk_F at z; unfold scM; omega))
            have le := fun c (hc : c < 144) => gd_d_le ok true (show s < 144 by omega) hc
            generalize ds_d (dk_W hh (tt L (I 8 w) (I 9 w) (I 10 w) (I 4 10)) true) s = D at *
            have hμ : ∀ q : Int32 × Nat × Nat, (q.2.2 ≤ 144 ∧ q.2.1 < 144) → (∃ q', f_re d (nI j) D q = .inl q' ∧ (q'.2.2 ≤ 144 ∧ q'.2.1 < 144) ∧ 144 - q'.2.2 < 144 - q.2.2) ∨ ∃ v, f_re d (nI j) D q = .inr v := by
              intro q hq
              unfold f_re
              by_cases hi : 144 ≤ q.2.2
              · exact Or.inr ⟨_, if_pos hi⟩
              · have := f_re_s (t := d) (what := nI j) (D := D) hi hq
                exact Or.inl ⟨_, if_neg hi, this.1, this.2⟩
            obtain ⟨v, hv⟩ := pl_ex (fun q : Int32 × Nat × Nat => 144 - q.2.2) hμ 100000 (nI 0, s, 0) (by (try dsimp only); omega) ⟨by (try dsimp only); omega, by (try dsimp only); omega⟩
            obtain ⟨Ix, x, hx⟩ := pl_sim (b := fun s : (Int32 × Int32 × Int32) => rs_X_reach_71_b rd rl I2 d (nI j) s.1 s.2.1 s.2.2) (pk := fun q _ => (q.1, nI q.2.1, nI q.2.2)) (fin := fun v I => (v, I)) (Inv := fun q => q.2.2 ≤ 144 ∧ q.2.1 < 144) (P := fun I' => I' = I2)
              (by
                intro q I' hq hP
                subst hP
                refine ⟨I', rfl, ?_⟩
                unfold f_re
                by_cases hi : 144 ≤ q.2.2
                · refine Or.inr ⟨_, if_pos hi, ?_⟩
                  obtain ⟨q1, q2, q3⟩ := q
                  (try dsimp only at hq hi ⊢)
                  unfold rs_X_reach_71_b rs_X_reach_134
                  by_cases j0 : j = 0
                  · simp (disch := omega) only [bl_lit, lgl, lgg, lgl0, lgg0, lglm, lggm, az_us, az_un, az_ue, az_urn, az_ure, bz_lit, nI_leI, nI_ltI, nI_eq, nI_clamp, nI_add, pk_sub, pk_mul, bz_nlt, bz_nle, bz_ltn, bz_len, bz_neq, bz_eqn, bz_nn, ↓reduceIte, Bool.false_eq_true, if_pos, if_neg, j0, Option.map_some]
                  · simp (disch := omega) only [bl_lit, lgl, lgg, lgl0, lgg0, lglm, lggm, az_us, az_un, az_ue, az_urn, az_ure, bz_lit, nI_leI, nI_ltI, nI_eq, nI_clamp, nI_add, pk_sub, pk_mul, bz_nlt, bz_nle, bz_ltn, bz_len, bz_neq, bz_eqn, bz_nn, ↓reduceIte, Bool.false_eq_true, if_pos, if_neg, j0, Option.map_some]
                · have := f_re_s (t := d) (what := nI j) (D := D) hi hq
                  refine Or.inl ⟨_, if_neg hi, this.1, ?_⟩
                  obtain ⟨q1, q2, q3⟩ := q
                  (try dsimp only at hq hi ⊢)
                  unfold rs_X_reach_71_b
                  have a1 := v2 q3 (by omega)
                  have a2 := v2 q2 (by omega)
                  have b1 := le q3 (by omega)
                  have b2 := le q2 (by omega)
                  by_cases z : d < nI (D q3)
                  · simp (disch := omega) only [bl_lit, lgl, lgg, lgl0, lgg0, lglm, lggm, az_us, az_un, az_ue, az_urn, az_ure, bz_lit, nI_leI, nI_ltI, nI_eq, nI_clamp, nI_add, pk_sub, pk_mul, bz_nlt, bz_nle, bz_ltn, bz_len, bz_neq, bz_eqn, bz_nn, ↓reduceIte, Bool.false_eq_true, if_pos, if_neg, a1, a2, z]
                  · by_cases z2 : D q3 ≤ D q2
                    · simp (disch := omega) only [bl_lit, lgl, lgg, lgl0, lgg0, lglm, lggm, az_us, az_un, az_ue, az_urn, az_ure, bz_lit, nI_leI, nI_ltI, nI_eq, nI_clamp, nI_add, pk_sub, pk_mul, bz_nlt, bz_nle, bz_ltn, bz_len, bz_neq, bz_eqn, bz_nn, ↓reduceIte, Bool.false_eq_true, if_pos, if_neg, a1, a2, z, z2]
                    · simp (disch := omega) only [bl_lit, lgl, lgg, lgl0, lgg0, lglm, lggm, az_us, az_un, az_ue, az_urn, az_ure, bz_lit, nI_leI, nI_ltI, nI_eq, nI_clamp, nI_add, pk_sub, pk_mul, bz_nlt, bz_nle, bz_ltn, bz_len, bz_neq, bz_eqn, bz_nn, ↓reduceIte, Bool.false_eq_true, if_pos, if_neg, a1, a2, z, z2]) 100000 (nI 0, s, 0) I2 v ⟨by (try dsimp only); omega, by (try dsimp only); omega⟩ rfl hv
            obtain ⟨Iy, y, hy⟩ := pl_sim (b := fun s : (Int32 × Int32 × Int32) => rs_M_reach_62_b I5 d (nI j) s.1 s.2.1 s.2.2) (pk := fun q _ => (q.1, nI q.2.1, nI q.2.2)) (fin := fun v I => (v, I)) (Inv := fun q => q.2.2 ≤ 144 ∧ q.2.1 < 144) (P := fun I' => I' = I5)
              (by
                intro q I' hq hP
                subst hP
                refine ⟨I', rfl, ?_⟩
                unfold f_re
                by_cases hi : 144 ≤ q.2.2
                · refine Or.inr ⟨_, if_pos hi, ?_⟩
                  obtain ⟨q1, q2, q3⟩ := q
                  (try dsimp only at hq hi ⊢)
                  unfold rs_M_reach_62_b rs_M_reach_116
                  by_cases j0 : j = 0
                  · simp (disch := omega) only [bl_lit, lgl, lgg, lgl0, lgg0, lglm, lggm, az_us, az_un, az_ue, az_urn, az_ure, bz_lit, nI_leI, nI_ltI, nI_eq, nI_clamp, nI_add, pk_sub, pk_mul, bz_nlt, bz_nle, bz_ltn, bz_len, bz_neq, bz_eqn, bz_nn, ↓reduceIte, Bool.false_eq_true, if_pos, if_neg, j0, Option.map_some]
                  · simp (disch := omega) only [bl_lit, lgl, lgg, lgl0, lgg0, lglm, lggm, az_us, az_un, az_ue, az_urn, az_ure, bz_lit, nI_leI, nI_ltI, nI_eq, nI_clamp, nI_add, pk_sub, pk_mul, bz_nlt, bz_nle, bz_ltn, bz_len, bz_neq, bz_eqn, bz_nn, ↓reduceIte, Bool.false_eq_true, if_pos, if_neg, j0, Option.map_some]
                · have := f_re_s (t := d) (what := nI j) (D := D) hi hq
                  refine Or.inl ⟨_, if_neg hi, this.1, ?_⟩
                  obtain ⟨q1, q2, q3⟩ := q
                  (try dsimp only at hq hi ⊢)
                  unfold rs_M_reach_62_b
                  have a1 := d5 q3 (by omega)
                  have a2 := d5 q2 (by omega)
                  have b1 := le q3 (by omega)
                  have b2 := le q2 (by omega)
                  by_cases z : d < nI (D q3)
                  · simp (disch := omega) only [bl_lit, lgl, lgg, lgl0, lgg0, lglm, lggm, az_us, az_un, az_ue, az_urn, az_ure, bz_lit, nI_leI, nI_ltI, nI_eq, nI_clamp, nI_add, pk_sub, pk_mul, bz_nlt, bz_nle, bz_ltn, bz_len, bz_neq, bz_eqn, bz_nn, ↓reduceIte, Bool.false_eq_true, if_pos, if_neg, a1, a2, z]
                  · by_cases z2 : D q3 ≤ D q2
                    · simp (disch := omega) only [bl_lit, lgl, lgg, lgl0, lgg0, lglm, lggm, az_us, az_un, az_ue, az_urn, az_ure, bz_lit, nI_leI, nI_ltI, nI_eq, nI_clamp, nI_add, pk_sub, pk_mul, bz_nlt, bz_nle, bz_ltn, bz_len, bz_neq, bz_eqn, bz_nn, ↓reduceIte, Bool.false_eq_true, if_pos, if_neg, a1, a2, z, z2]
                    · simp (disch := omega) only [bl_lit, lgl, lgg, lgl0, lgg0, lglm, lggm, az_us, az_un, az_ue, az_urn, az_ure, bz_lit, nI_leI, nI_ltI, nI_eq, nI_clamp, nI_add, pk_sub, pk_mul, bz_nlt, bz_nle, bz_ltn, bz_len, bz_neq, bz_eqn, bz_nn, ↓reduceIte, Bool.false_eq_true, if_pos, if_neg, a1, a2, z, z2]) 100000 (nI 0, s, 0) I5 v ⟨by (try dsimp only); omega, by (try dsimp only); omega⟩ rfl hv
            subst hx hy
            have j2 : j = 0 ∨ j = 1 := by omega
            refine mt_mk h v ?_ f12 ?_ f45
            · rcases j2 with rfl | rfl
              · simp (disch := omega) only [sub_lt, le_sub, bl_lit, lgl, lgg, lgl0, lgg0, lglm, lggm, az_us, az_un, az_ue, az_urn, az_ure, bz_lit, nI_leI, nI_ltI, nI_eq, nI_clamp, nI_add, pk_sub, pk_mul, bz_nlt, bz_nle, bz_ltn, bz_len, bz_neq, bz_eqn, bz_nn, ↓reduceIte, Bool.false_eq_true, if_pos, if_neg, d0, d1, c3, r1, r2]
                exact x
              · simp (disch := omega) only [sub_lt, le_sub, bl_lit, lgl, lgg, lgl0, lgg0, lglm, lggm, az_us, az_un, az_ue, az_urn, az_ure, bz_lit, nI_leI, nI_ltI, nI_eq, nI_clamp, nI_add, pk_sub, pk_mul, bz_nlt, bz_nle, bz_ltn, bz_len, bz_neq, bz_eqn, bz_nn, ↓reduceIte, Bool.false_eq_true, if_pos, if_neg, d0, d1, c3, r1, r2]
                exact x
            · have c4' : Ix 73 7 = nI nw := by rw [f12 73 7 (by unfold scX; omega)]; exact c4
              simp (disch := omega) only [sub_lt, le_sub, bl_lit, lgl, lgg, lgl0, lgg0, lglm, lggm, az_us, az_un, az_ue, az_urn, az_ure, bz_lit, nI_leI, nI_ltI, nI_eq, nI_clamp, nI_add, pk_sub, pk_mul, bz_nlt, bz_nle, bz_ltn, bz_len, bz_neq, bz_eqn, bz_nn, ↓reduceIte, Bool.false_eq_true, if_pos, if_neg, d0, d1, c4', r4, r5]
              exact y
end

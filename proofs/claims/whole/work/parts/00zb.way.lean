/-! way, backFrom, reach, meet -/
theorem lt_sub {m n i : Nat} (hm : m ≤ 1000) (hn : n < 2 ^ 31) (hi : i < 2 ^ 31) : nI i < nI m - nI n ↔ i + n < m := by
  rw [Int32.lt_iff_toInt_lt, bz_sub (by rw [nI_toInt (by omega), nI_toInt hn]; omega) (by rw [nI_toInt (by omega), nI_toInt hn]; omega), nI_toInt (n := m) (by omega), nI_toInt hn, nI_toInt hi]
  omega
section
variable {I : Nat → Nat → Int32} {J : Nat → Nat → Int64} {rl rd : Nat}
/-- the class's way -/
theorem px_way {L : lw_T} {h : Nat → Nat} {he lo sh we : Int32} (hB : lw_B L) {I0 : Nat → Nat → Int32} (f0 : az_fr scX I0 I) (p : pq I L h he lo sh we) {a b n : Nat} (ha : a < 144) (hb : b < 144) (hn : n ≤ 143) (h1 : pth h (tt L he lo sh we) (ds_d (dk_W h (tt L he lo sh we) false) b) a n = b) (h2 : ∀ k, k < n → pth h (tt L he lo sh we) (ds_d (dk_W h (tt L he lo sh we) false) b) a k ≠ b) (h3 : ∀ k, k ≤ n → pth h (tt L he lo sh we) (ds_d (dk_W h (tt L he lo sh we) false) b) a k < 144) :
    ∃ I', rs_Fi_findWay 26 I (nI a) (nI b) = some I' ∧ az_fr scX I0 I' ∧ pq I' L h he lo sh we ∧ (∀ c, c < 144 → I' 33 c = nI (ds_d (dk_W h (tt L he lo sh we) false) b c)) ∧ I' 32 3 = nI n ∧ ∀ k, k ≤ n → I' 35 k = nI (pth h (tt L he lo sh we) (ds_d (dk_W h (tt L he lo sh we) false) b) a k) := by
  have ok : th_ok h (tt L he lo sh we) := tt_ok hB he lo sh we (fun c hc => (p.1.1 c hc).2)
  generalize ht : tt L he lo sh we = t at *
  obtain ⟨I1, r1, f1, d1⟩ := sp_far ok false (Or.inl rfl) (Or.inl rfl) (ht ▸ p.2.2.2.2.2) hb
  have q1 := p.fr (f1.mono (fun r k z => by unfold sp_F at z; (try dsimp only); omega))
  have g1 := f0.trans (f1.mono (fun r k z => by unfold sp_F at z; unfold scX; omega))
  unfold rs_Fi_findWay
  rw [show nI (if false then 0 else 1) = (1 : Int32) from rfl] at r1
  rw [r1]
  (try dsimp only)
  unfold rs_Fi_findWay_27
  have main := az_for0 (body := fun s : (Int32 × (Nat → Nat → Int32)) => rs_Fi_findWay_27_b 26 (nI b) s.1 s.2) (s := (nI a, az_u (az_u I1 32 3 0) 35 0 (nI a))) (P := fun I' => az_fr (fun r k => r = 35 ∨ (r = 32 ∧ k = 3)) I1 I' ∧ I' 32 3 = nI n ∧ ∀ k, k ≤ n → I' 35 k = nI (pth h t (ds_d (dk_W h t false) b) a k))
    (fun k (z : Int32 × (Nat → Nat → Int32)) => z.1 = nI (pth h t (ds_d (dk_W h t false) b) a k) ∧ az_fr (fun r k => r = 35 ∨ (r = 32 ∧ k = 3)) I1 z.2 ∧ z.2 32 3 = nI k ∧ ∀ j, j ≤ k → z.2 35 j = nI (pth h t (ds_d (dk_W h t false) b) a j)) n (by omega)
    ⟨rfl, (az_fr.refl.u (Or.inr ⟨rfl, rfl⟩)).u (Or.inl rfl), by simp (disch := omega) only [bl_lit, lgl, lgg, lgl0, lgg0, lglm, lggm, az_us, az_un, az_ue, az_urn, az_ure, bz_lit, nI_leI, nI_ltI, nI_eq, nI_clamp, nI_add, pk_sub, pk_mul, bz_nlt, bz_nle, bz_ltn, bz_len, bz_neq, bz_eqn, bz_nn, ↓reduceIte, Bool.false_eq_true, if_pos, if_neg], fun j hj => by cases Nat.le_zero.mp hj; show az_u (az_u I1 32 3 0) 35 0 (nI a) 35 0 = nI a; exact az_us⟩
    (by
      intro k z hk hz
      obtain ⟨v4, I2⟩ := z
      obtain ⟨e, hf, g2, g3⟩ := hz
      (try dsimp only at e hf g2 g3)
      subst e
      have q2 := q1.fr (hf.mono (fun r k z => by (try dsimp only at z ⊢); omega))
      have hc := h3 k (by omega)
      have hne := h2 k hk
      have ow := nx_X (I := I2) (D := ds_d (dk_W h t false) b) (ht ▸ q2.2.2.2.2.2) (fun c hc => ⟨by rw [hf 33 c (by (try dsimp only); omega)]; exact d1 c hc, gd_d_le ok false hb hc⟩) hc (nx_ex ok hb hc hne)
      have hl := (nx_all ok hb hc hne).2
      refine az_nxt (nI (pth h t (ds_d (dk_W h t false) b) a (k + 1)), az_u (az_u I2 32 3 (nI (k + 1))) 35 (k + 1) (nI (pth h t (ds_d (dk_W h t false) b) a (k + 1)))) ?_ ⟨rfl, (hf.u (Or.inr ⟨rfl, rfl⟩)).u (Or.inl rfl), ?_, fun j hj => ?_⟩
      · show rs_Fi_findWay_27_b 26 (nI b) (nI (pth h t (ds_d (dk_W h t false) b) a k)) I2 = some (.inl (nI (nx h t (ds_d (dk_W h t false) b) (pth h t (ds_d (dk_W h t false) b) a k)), az_u (az_u I2 32 3 (nI (k + 1))) 35 (k + 1) (nI (nx h t (ds_d (dk_W h t false) b) (pth h t (ds_d (dk_W h t false) b) a k)))))
        unfold rs_Fi_findWay_27_b
        simp (disch := omega) only [bl_lit, lgl, lgg, lgl0, lgg0, lglm, lggm, az_us, az_un, az_ue, az_urn, az_ure, bz_lit, nI_leI, nI_ltI, nI_eq, nI_clamp, nI_add, pk_sub, pk_mul, bz_nlt, bz_nle, bz_ltn, bz_len, bz_neq, bz_eqn, bz_nn, ↓reduceIte, Bool.false_eq_true, if_pos, if_neg, g2, ow, hne]
      · simp (disch := omega) only [bl_lit, lgl, lgg, lgl0, lgg0, lglm, lggm, az_us, az_un, az_ue, az_urn, az_ure, bz_lit, nI_leI, nI_ltI, nI_eq, nI_clamp, nI_add, pk_sub, pk_mul, bz_nlt, bz_nle, bz_ltn, bz_len, bz_neq, bz_eqn, bz_nn, ↓reduceIte, Bool.false_eq_true, if_pos, if_neg]
      · (try dsimp only)
        by_cases z : j = k + 1
        · subst z; exact az_us
        · rw [az_un (by omega), az_un (by omega)]
          exact g3 j (by omega))
    (by
      intro z hz
      obtain ⟨v4, I2⟩ := z
      obtain ⟨e, hf, g2, g3⟩ := hz
      (try dsimp only at e hf g2 g3)
      subst e
      refine ⟨I2, ?_, hf, g2, g3⟩
      show rs_Fi_findWay_27_b 26 (nI b) (nI (pth h t (ds_d (dk_W h t false) b) a n)) I2 = _
      unfold rs_Fi_findWay_27_b
      rw [h1]
      by_cases z : 143 ≤ n
      · simp (disch := omega) only [bl_lit, lgl, lgg, lgl0, lgg0, lglm, lggm, az_us, az_un, az_ue, az_urn, az_ure, bz_lit, nI_leI, nI_ltI, nI_eq, nI_clamp, nI_add, pk_sub, pk_mul, bz_nlt, bz_nle, bz_ltn, bz_len, bz_neq, bz_eqn, bz_nn, ↓reduceIte, Bool.false_eq_true, if_pos, if_neg, g2]
      · simp (disch := omega) only [bl_lit, lgl, lgg, lgl0, lgg0, lglm, lggm, az_us, az_un, az_ue, az_urn, az_ure, bz_lit, nI_leI, nI_ltI, nI_eq, nI_clamp, nI_add, pk_sub, pk_mul, bz_nlt, bz_nle, bz_ltn, bz_len, bz_neq, bz_eqn, bz_nn, ↓reduceIte, Bool.false_eq_true, if_pos, if_neg, g2])
  obtain ⟨I', r2, f2, v1, v2⟩ := main
  refine ⟨I', r2, g1.trans (f2.mono (fun r k z => by (try dsimp only at z); unfold scX; omega)), ?_, fun c hc => by rw [f2 33 c (by (try dsimp only); omega)]; exact d1 c hc, v1, v2⟩
  exact q1.fr (f2.mono (fun r k z => by (try dsimp only at z ⊢); omega))
/-- how much it goes up -/
noncomputable def cl (h : Nat → Nat) (P : Nat → Nat) : Nat → Nat
  | 0 => 0
  | k + 1 => cl h P k + (h (P (k + 1)) - h (P k))
theorem cl_le {h P : Nat → Nat} (n : Nat) (hh : ∀ k, k ≤ n → h (P k) < 10) : ∀ k, k ≤ n → cl h P k ≤ 10 * k
  | 0, _ => Nat.le_refl 0
  | k + 1, hk => by
    have a := cl_le n hh k (by omega)
    have b := hh (k + 1) hk
    show cl h P k + (h (P (k + 1)) - h (P k)) ≤ _
    omega
theorem px_climb {h P : Nat → Nat} {n : Nat} (hn : n ≤ 143) (hh : ∀ c, c < 144 → I 5 c = nI (h c) ∧ h c < 10) (g1 : I 32 3 = nI n) (g2 : ∀ k, k ≤ n → I 35 k = nI (P k)) (g3 : ∀ k, k ≤ n → P k < 144) : rs_Fi_climb I = some (nI (cl h P n)) := by
  unfold rs_Fi_climb rs_Fi_climb_4
  have main : ∃ x, az_lp (fun s : (Int32 × Int32) => rs_Fi_climb_4_b I s.1 s.2) 100000 (0, 1) = some x ∧ x = nI (cl h P n) := by
    refine az_for0 (fun k (s : Int32 × Int32) => s.2 = nI (k + 1) ∧ s.1 = nI (cl h P k)) n (by omega) ⟨rfl, rfl⟩ ?_ ?_
    · intro k s hk hs
      obtain ⟨v2, v3⟩ := s
      obtain ⟨e1, e2⟩ := hs
      (try dsimp only at e1 e2)
      subst e1 e2
      have b := cl_le n (h := h) (P := P) (fun k hk => (hh _ (g3 k hk)).2) k (by omega)
      have p1 := g2 k (by omega)
      have p2 := g2 (k + 1) (by omega)
      have q1 := g3 k (by omega)
      have q2 := g3 (k + 1) (by omega)
      obtain ⟨x1, x2⟩ := hh _ q1
      obtain ⟨y1, y2⟩ := hh _ q2
      refine az_nxt (nI (cl h P (k + 1)), nI (k + 1 + 1)) ?_ ⟨rfl, rfl⟩
      show rs_Fi_climb_4_b I (nI (cl h P k)) (nI (k + 1)) = some (.inl (nI (cl h P k + (h (P (k + 1)) - h (P k))), nI (k + 1 + 1)))
      unfold rs_Fi_climb_4_b
      by_cases z : h (P k) < h (P (k + 1))
      · simp (disch := omega) only [bl_lit, lgl, lgg, lgl0, lgg0, lglm, lggm, az_us, az_un, az_ue, az_urn, az_ure, bz_lit, nI_leI, nI_ltI, nI_eq, nI_clamp, nI_add, pk_sub, pk_mul, bz_nlt, bz_nle, bz_ltn, bz_len, bz_neq, bz_eqn, bz_nn, ↓reduceIte, Bool.false_eq_true, if_pos, if_neg, g1, p1, p2, x1, y1, Nat.add_sub_cancel]
      · have z0 : h (P (k + 1)) - h (P k) = 0 := by omega
        simp (disch := omega) only [bl_lit, lgl, lgg, lgl0, lgg0, lglm, lggm, az_us, az_un, az_ue, az_urn, az_ure, bz_lit, nI_leI, nI_ltI, nI_eq, nI_clamp, nI_add, pk_sub, pk_mul, bz_nlt, bz_nle, bz_ltn, bz_len, bz_neq, bz_eqn, bz_nn, ↓reduceIte, Bool.false_eq_true, if_pos, if_neg, g1, p1, p2, x1, y1, Nat.add_sub_cancel, lt_sub, z0]
    · intro s hs
      obtain ⟨v2, v3⟩ := s
      obtain ⟨e1, e2⟩ := hs
      (try dsimp only at e1 e2)
      subst e1 e2
      refine ⟨_, ?_, rfl⟩
      show rs_Fi_climb_4_b I (nI (cl h P n)) (nI (n + 1)) = _
      unfold rs_Fi_climb_4_b
      simp (disch := omega) only [bl_lit, lgl, lgg, lgl0, lgg0, lglm, lggm, az_us, az_un, az_ue, az_urn, az_ure, bz_lit, nI_leI, nI_ltI, nI_eq, nI_clamp, nI_add, pk_sub, pk_mul, bz_nlt, bz_nle, bz_ltn, bz_len, bz_neq, bz_eqn, bz_nn, ↓reduceIte, Bool.false_eq_true, if_pos, if_neg, g1]
  obtain ⟨x, hx, rfl⟩ := main
  exact hx
theorem mt_way (h : Rel I J rl rd) (a b d : Int32) : mt (rs_X_way rd rl I a b d) (fun I => rs_M_way I a b d) J rl rd := by
  obtain ⟨np, nw, L, hh, pc, pt, n1, n2, ⟨c1, c2, c3, c4⟩, hrl, hB, qX, qM, hw, hwe⟩ := h.w
  unfold rs_X_way rs_M_way
  rcases ix_ft (a := a) with ⟨x, y⟩ | ⟨x, y, s, e, hs, he, _, e1, e2⟩
  · rw [x, y]
    exact ⟨_, I, I, rfl, rfl, h⟩
  · rw [x, y, e2, e1]
    rcases ix b nw (by omega) with x | ⟨x, y⟩ | ⟨w, hww, rfl⟩
    · exact ⟨-nI 1, I, I, by simp (disch := omega) only [bl_lit, lgl, lgg, lgl0, lgg0, lglm, lggm, az_us, az_un, az_ue, az_urn, az_ure, bz_lit, nI_leI, nI_ltI, nI_eq, nI_clamp, nI_add, pk_sub, pk_mul, bz_nlt, bz_nle, bz_ltn, bz_len, bz_neq, bz_eqn, bz_nn, ↓reduceIte, Bool.false_eq_true, if_pos, if_neg, x], by simp (disch := omega) only [bl_lit, lgl, lgg, lgl0, lgg0, lglm, lggm, az_us, az_un, az_ue, az_urn, az_ure, bz_lit, nI_leI, nI_ltI, nI_eq, nI_clamp, nI_add, pk_sub, pk_mul, bz_nlt, bz_nle, bz_ltn, bz_len, bz_neq, bz_eqn, bz_nn, ↓reduceIte, Bool.false_eq_true, if_pos, if_neg, x], h⟩
    · exact ⟨-nI 1, I, I, by simp (disch := omega) only [bl_lit, lgl, lgg, lgl0, lgg0, lglm, lggm, az_us, az_un, az_ue, az_urn, az_ure, bz_lit, nI_leI, nI_ltI, nI_eq, nI_clamp, nI_add, pk_sub, pk_mul, bz_nlt, bz_nle, bz_ltn, bz_len, bz_neq, bz_eqn, bz_nn, ↓reduceIte, Bool.false_eq_true, if_pos, if_neg, x, y, c3], by simp (disch := omega) only [bl_lit, lgl, lgg, lgl0, lgg0, lglm, lggm, az_us, az_un, az_ue, az_urn, az_ure, bz_lit, nI_leI, nI_ltI, nI_eq, nI_clamp, nI_add, pk_sub, pk_mul, bz_nlt, bz_nle, bz_ltn, bz_len, bz_neq, bz_eqn, bz_nn, ↓reduceIte, Bool.false_eq_true, if_pos, if_neg, x, y, c4], h⟩
    · by_cases d3 : -nI 3 ≤ d
      · obtain ⟨g1, g2, g3⟩ := hw w (by omega)
        obtain ⟨I1, r1, f1, p1⟩ := px_set hrl hB qX (w := w) (by omega)
        have ok := qX.ok hB (I 8 w) (I 9 w) (I 10 w) (I 4 10)
        obtain ⟨n, nn, m1, m2, m3⟩ := pth_ex ok hs he
        obtain ⟨I2, r2, f2, p2, v1, v2, v3⟩ := px_way hB f1 p1 hs he nn m1 m2 m3
        have qM' := qM.fr (scX_sc f2)
        obtain ⟨I3, r3, f3, p3⟩ := pm_for qM' hB az_fr.refl (w := w) (by omega)
        rw [f2 74 (160 + w) (by unfold scX; omega), f2 74 (166 + w) (by unfold scX; omega), f2 74 (172 + w) (by unfold scX; omega), f2 74 178 (by unfold scX; omega), g1, g2, g3, hwe] at p3
        generalize ht : tt L (I 8 w) (I 9 w) (I 10 w) (I 4 10) = t at *
        obtain ⟨I4, r4, f4, d4⟩ := dk_far ok false p3 he
        rw [show nI (if false then 1 else 0) = nI 0 from rfl] at r4
        have p4 := p3.fr f4
        have f34 := f3.trans (f4.mono (fun r k z => by unfold dk_F at z; unfold scM; omega))
        have c4' : I2 73 7 = nI nw := by rw [f2 73 7 (by unfold scX; omega)]; exact c4
        generalize hP : pth hh t (ds_d (dk_W hh t false) e) s = P at *
        have hP0 : P 0 = s := by rw [← hP]; rfl
        have hPs : ∀ k, P (k + 1) = nx hh t (ds_d (dk_W hh t false) e) (P k) := by intro k; rw [← hP]; rfl
        have hh5 : ∀ c, c < 144 → I2 5 c = nI (hh c) ∧ hh c < 10 := fun c hc => by rw [f2 5 c (by unfold scX; omega)]; exact qX.2.1 c hc
        have cle := cl_le n (h := hh) (P := P) (fun k hk => (hh5 _ (m3 k hk)).2)
        by_cases k1 : d = -nI 1
        · subst k1
          refine mt_mk h (nI (ds_d (dk_W hh t false) e s)) ?_ f2 ?_ f34
          · simp (disch := omega) only [sub_lt, le_sub, bl_lit, lgl, lgg, lgl0, lgg0, lglm, lggm, az_us, az_un, az_ue, az_urn, az_ure, bz_lit, nI_leI, nI_ltI, nI_eq, nI_clamp, nI_add, pk_sub, pk_mul, bz_nlt, bz_nle, bz_ltn, bz_len, bz_neq, bz_eqn, bz_nn, ↓reduceIte, Bool.false_eq_true, if_pos, if_neg, c3, r1, r2, v1 s hs]
          · simp (disch := omega) only [sub_lt, le_sub, bl_lit, lgl, lgg, lgl0, lgg0, lglm, lggm, az_us, az_un, az_ue, az_urn, az_ure, bz_lit, nI_leI, nI_ltI, nI_eq, nI_clamp, nI_add, pk_sub, pk_mul, bz_nlt, bz_nle, bz_ltn, bz_len, bz_neq, bz_eqn, bz_nn, ↓reduceIte, Bool.false_eq_true, if_pos, if_neg, c4', r3, r4, d4 s hs]
        · -- the reference goes along it
          have goes : ∀ K : Nat, K ≤ n → (∀ k, k < K → d ≠ nI k) → (K = n ∨ d = nI K) → rs_M_way_68 I4 a d (nI s) (nI 0) (nI 0) = rs_M_way_143 I4 d (nI (P K)) (nI K) (nI (cl hh P K)) := by
            intro K hK hd hend
            unfold rs_M_way_68
            have main : ∀ z, rs_M_way_143 I4 d (nI (P K)) (nI K) (nI (cl hh P K)) = some z → ∃ x, az_lp (fun s : (Int32 × Int32 × Int32) => rs_M_way_68_b I4 a d s.1 s.2.1 s.2.2) 100000 (nI s, nI 0, nI 0) = some x ∧ x = z := by
              intro z hz
              refine az_for0 (fun k (q : Int32 × Int32 × Int32) => q = (nI (P k), nI k, nI (cl hh P k))) K (by omega) (by rw [hP0]; rfl) ?_ ?_
              · intro k q hk e
                subst e
                have hc := m3 k (by omega)
                have hne := m2 k (by omega)
                have nm := nx_M (I := I4) (D := ds_d (dk_W hh t false) e) p4 (fun c hc => ⟨d4 c hc, gd_d_le ok false he hc⟩) hc (nx_ex ok he hc hne)
                have hl := (nx_all ok he hc hne).2
                rw [← hPs k] at nm hl
                obtain ⟨x1, x2⟩ := p4.1 _ hc
                obtain ⟨y1, y2⟩ := p4.1 _ hl
                have bb := cle k (by omega)
                refine az_nxt (nI (P (k + 1)), nI (k + 1), nI (cl hh P (k + 1))) ?_ rfl
                show rs_M_way_68_b I4 a d (nI (P k)) (nI k) (nI (cl hh P k)) = some (.inl (nI (P (k + 1)), nI (k + 1), nI (cl hh P k + (hh (P (k + 1)) - hh (P k)))))
                unfold rs_M_way_68_b
                rw [e2]
                have dk : ¬ nI k = d := fun q => hd k hk q.symm
                by_cases z : hh (P k) < hh (P (k + 1))
                · simp (disch := omega) only [bl_lit, lgl, lgg, lgl0, lgg0, lglm, lggm, az_us, az_un, az_ue, az_urn, az_ure, bz_lit, nI_leI, nI_ltI, nI_eq, nI_clamp, nI_add, pk_sub, pk_mul, bz_nlt, bz_nle, bz_ltn, bz_len, bz_neq, bz_eqn, bz_nn, ↓reduceIte, Bool.false_eq_true, if_pos, if_neg, hne, dk, nm, x1, y1]
                · have z0 : hh (P (k + 1)) - hh (P k) = 0 := by omega
                  simp (disch := omega) only [bl_lit, lgl, lgg, lgl0, lgg0, lglm, lggm, az_us, az_un, az_ue, az_urn, az_ure, bz_lit, nI_leI, nI_ltI, nI_eq, nI_clamp, nI_add, pk_sub, pk_mul, bz_nlt, bz_nle, bz_ltn, bz_len, bz_neq, bz_eqn, bz_nn, ↓reduceIte, Bool.false_eq_true, if_pos, if_neg, hne, dk, nm, x1, y1, z0]
              · intro q e
                subst e
                refine ⟨z, ?_, rfl⟩
                show rs_M_way_68_b I4 a d (nI (P K)) (nI K) (nI (cl hh P K)) = _
                unfold rs_M_way_68_b
                rw [e2, hz]
                have hc := m3 K hK
                by_cases z : P K = e
                · simp (disch := omega) only [bl_lit, lgl, lgg, lgl0, lgg0, lglm, lggm, az_us, az_un, az_ue, az_urn, az_ure, bz_lit, nI_leI, nI_ltI, nI_eq, nI_clamp, nI_add, pk_sub, pk_mul, bz_nlt, bz_nle, bz_ltn, bz_len, bz_neq, bz_eqn, bz_nn, ↓reduceIte, Bool.false_eq_true, if_pos, if_neg, z, Option.map_some]
                · have dK : nI K = d := by
                    rcases hend with q | q
                    · subst q; exact absurd m1 z
                    · exact q.symm
                  simp (disch := omega) only [bl_lit, lgl, lgg, lgl0, lgg0, lglm, lggm, az_us, az_un, az_ue, az_urn, az_ure, bz_lit, nI_leI, nI_ltI, nI_eq, nI_clamp, nI_add, pk_sub, pk_mul, bz_nlt, bz_nle, bz_ltn, bz_len, bz_neq, bz_eqn, bz_nn, ↓reduceIte, Bool.false_eq_true, if_pos, if_neg, z, dK, Option.map_some]
            have ex : ∃ z, rs_M_way_143 I4 d (nI (P K)) (nI K) (nI (cl hh P K)) = some z := by
              unfold rs_M_way_143
              repeat' split
              all_goals exact ⟨_, rfl⟩
            obtain ⟨z, hz⟩ := ex
            obtain ⟨x, hx, rfl⟩ := main z hz
            rw [hz]
            exact hx
          have neg : ∀ m : Nat, 1 ≤ m → m ≤ 3 → d = -nI m → ∀ k, k < n → d ≠ nI k := by
            intro m h1 h3 e k hk q
            rw [e] at q
            have := (bz_neq (a := m) (b := k) (by omega) (by omega)).mp q
            omega
          by_cases k2 : d = -nI 2
          · have go := goes n (Nat.le_refl n) (neg 2 (by omega) (by omega) k2) (Or.inl rfl)
            unfold rs_M_way_143 at go
            subst k2
            refine mt_mk h (nI n) ?_ f2 ?_ f34
            · simp (disch := omega) only [sub_lt, le_sub, bl_lit, lgl, lgg, lgl0, lgg0, lglm, lggm, az_us, az_un, az_ue, az_urn, az_ure, bz_lit, nI_leI, nI_ltI, nI_eq, nI_clamp, nI_add, pk_sub, pk_mul, bz_nlt, bz_nle, bz_ltn, bz_len, bz_neq, bz_eqn, bz_nn, ↓reduceIte, Bool.false_eq_true, if_pos, if_neg, c3, r1, r2, v2]
            · simp (disch := omega) only [sub_lt, le_sub, bl_lit, lgl, lgg, lgl0, lgg0, lglm, lggm, az_us, az_un, az_ue, az_urn, az_ure, bz_lit, nI_leI, nI_ltI, nI_eq, nI_clamp, nI_add, pk_sub, pk_mul, bz_nlt, bz_nle, bz_ltn, bz_len, bz_neq, bz_eqn, bz_nn, ↓reduceIte, Bool.false_eq_true, if_pos, if_neg, c4', r3, r4]
              rw [go]
              simp (disch := omega) only [bl_lit, lgl, lgg, lgl0, lgg0, lglm, lggm, az_us, az_un, az_ue, az_urn, az_ure, bz_lit, nI_leI, nI_ltI, nI_eq, nI_clamp, nI_add, pk_sub, pk_mul, bz_nlt, bz_nle, bz_ltn, bz_len, bz_neq, bz_eqn, bz_nn, ↓reduceIte, Bool.false_eq_true, if_pos, if_neg]
          · by_cases k3 : d = -nI 3
            · have go := goes n (Nat.le_refl n) (neg 3 (by omega) (by omega) k3) (Or.inl rfl)
              have cm := px_climb nn hh5 v2 v3 m3
              unfold rs_M_way_143 at go
              subst k3
              refine mt_mk h (nI (cl hh P n)) ?_ f2 ?_ f34
              · simp (disch := omega) only [sub_lt, le_sub, bl_lit, lgl, lgg, lgl0, lgg0, lglm, lggm, az_us, az_un, az_ue, az_urn, az_ure, bz_lit, nI_leI, nI_ltI, nI_eq, nI_clamp, nI_add, pk_sub, pk_mul, bz_nlt, bz_nle, bz_ltn, bz_len, bz_neq, bz_eqn, bz_nn, ↓reduceIte, Bool.false_eq_true, if_pos, if_neg, c3, r1, r2, cm]
              · simp (disch := omega) only [sub_lt, le_sub, bl_lit, lgl, lgg, lgl0, lgg0, lglm, lggm, az_us, az_un, az_ue, az_urn, az_ure, bz_lit, nI_leI, nI_ltI, nI_eq, nI_clamp, nI_add, pk_sub, pk_mul, bz_nlt, bz_nle, bz_ltn, bz_len, bz_neq, bz_eqn, bz_nn, ↓reduceIte, Bool.false_eq_true, if_pos, if_neg, c4', r3, r4]
                rw [go]
                simp (disch := omega) only [bl_lit, lgl, lgg, lgl0, lgg0, lglm, lggm, az_us, az_un, az_ue, az_urn, az_ure, bz_lit, nI_leI, nI_ltI, nI_eq, nI_clamp, nI_add, pk_sub, pk_mul, bz_nlt, bz_nle, bz_ltn, bz_len, bz_neq, bz_eqn, bz_nn, ↓reduceIte, Bool.false_eq_true, if_pos, if_neg]
            · have d0 : ∃ k, k < 2 ^ 31 ∧ d = nI k := by
                by_cases q : d < 0
                · exfalso
                  rw [Int32.le_iff_toInt_le, bz_ng (by omega)] at d3
                  rw [Int32.lt_iff_toInt_lt] at q
                  have q0 : (0 : Int32).toInt = 0 := rfl
                  have b1 : d.toInt ≠ -1 := fun z => k1 (Int32.toInt_inj.mp (by rw [z, bz_ng (by omega)]; rfl))
                  have b2 : d.toInt ≠ -2 := fun z => k2 (Int32.toInt_inj.mp (by rw [z, bz_ng (by omega)]; rfl))
                  have b3 : d.toInt ≠ -3 := fun z => k3 (Int32.toInt_inj.mp (by rw [z, bz_ng (by omega)]; rfl))
                  omega
                · exact nI_of q
              obtain ⟨k, hk, rfl⟩ := d0
              by_cases kn : k ≤ n
              · have go := goes k kn (fun j hj q => by have := (nI_eq (by omega) (by omega)).mp q; omega) (Or.inr rfl)
                unfold rs_M_way_143 at go
                refine mt_mk h (nI (P k)) ?_ f2 ?_ f34
                · simp (disch := omega) only [sub_lt, le_sub, bl_lit, lgl, lgg, lgl0, lgg0, lglm, lggm, az_us, az_un, az_ue, az_urn, az_ure, bz_lit, nI_leI, nI_ltI, nI_eq, nI_clamp, nI_add, pk_sub, pk_mul, bz_nlt, bz_nle, bz_ltn, bz_len, bz_neq, bz_eqn, bz_nn, ↓reduceIte, Bool.false_eq_true, if_pos, if_neg, c3, r1, r2, v2, v3 k kn]
                · simp (disch := omega) only [sub_lt, le_sub, bl_lit, lgl, lgg, lgl0, lgg0, lglm, lggm, az_us, az_un, az_ue, az_urn, az_ure, bz_lit, nI_leI, nI_ltI, nI_eq, nI_clamp, nI_add, pk_sub, pk_mul, bz_nlt, bz_nle, bz_ltn, bz_len, bz_neq, bz_eqn, bz_nn, ↓reduceIte, Bool.false_eq_true, if_pos, if_neg, c4', r3, r4]
                  rw [go]
                  simp (disch := omega) only [bl_lit, lgl, lgg, lgl0, lgg0, lglm, lggm, az_us, az_un, az_ue, az_urn, az_ure, bz_lit, nI_leI, nI_ltI, nI_eq, nI_clamp, nI_add, pk_sub, pk_mul, bz_nlt, bz_nle, bz_ltn, bz_len, bz_neq, bz_eqn, bz_nn, ↓reduceIte, Bool.false_eq_true, if_pos, if_neg]
              · have go := goes n (Nat.le_refl n) (fun j hj q => by have := (nI_eq (by omega) (by omega)).mp q; omega) (Or.inl rfl)
                unfold rs_M_way_143 at go
                refine mt_mk h (-nI 2) ?_ f2 ?_ f34
                · simp (disch := omega) only [sub_lt, le_sub, bl_lit, lgl, lgg, lgl0, lgg0, lglm, lggm, az_us, az_un, az_ue, az_urn, az_ure, bz_lit, nI_leI, nI_ltI, nI_eq, nI_clamp, nI_add, pk_sub, pk_mul, bz_nlt, bz_nle, bz_ltn, bz_len, bz_neq, bz_eqn, bz_nn, ↓reduceIte, Bool.false_eq_true, if_pos, if_neg, c3, r1, r2, v2]
                · simp (disch := omega) only [sub_lt, le_sub, bl_lit, lgl, lgg, lgl0, lgg0, lglm, lggm, az_us, az_un, az_ue, az_urn, az_ure, bz_lit, nI_leI, nI_ltI, nI_eq, nI_clamp, nI_add, pk_sub, pk_mul, bz_nlt, bz_nle, bz_ltn, bz_len, bz_neq, bz_eqn, bz_nn, ↓reduceIte, Bool.false_eq_true, if_pos, if_neg, c4', r3, r4]
                  rw [go]
                  simp (disch := omega) only [bl_lit, lgl, lgg, lgl0, lgg0, lglm, lggm, az_us, az_un, az_ue, az_urn, az_ure, bz_lit, nI_leI, nI_ltI, nI_eq, nI_clamp, nI_add, pk_sub, pk_mul, bz_nlt, bz_nle, bz_ltn, bz_len, bz_neq, bz_eqn, bz_nn, ↓reduceIte, Bool.false_eq_true, if_pos, if_neg]
      · exact ⟨-nI 1, I, I, by simp (disch := omega) only [sub_lt, le_sub, bl_lit, lgl, lgg, lgl0, lgg0, lglm, lggm, az_us, az_un, az_ue, az_urn, az_ure, bz_lit, nI_leI, nI_ltI, nI_eq, nI_clamp, nI_add, pk_sub, pk_mul, bz_nlt, bz_nle, bz_ltn, bz_len, bz_neq, bz_eqn, bz_nn, ↓reduceIte, Bool.false_eq_true, if_pos, if_neg, c3, d3], by simp (disch := omega) only [sub_lt, le_sub, bl_lit, lgl, lgg, lgl0, lgg0, lglm, lggm, az_us, az_un, az_ue, az_urn, az_ure, bz_lit, nI_leI, nI_ltI, nI_eq, nI_clamp, nI_add, pk_sub, pk_mul, bz_nlt, bz_nle, bz_ltn, bz_len, bz_neq, bz_eqn, bz_nn, ↓reduceIte, Bool.false_eq_true, if_pos, if_neg, c4, d3], h⟩
end

/-! THE LAW: both -/
theorem cl_98 (I : Nat → Nat → Int32) (v : Int32) : rs_M_stepBy_98 I v = some (clI v, I) := by
  have e1 : (1 : Int32).toInt = 1 := by decide
  have e99 : (99 : Int32).toInt = 99 := by decide
  have l9 : (1 : Int32) < 99 := by decide
  have key : (if 1 ≤ v then (if v ≤ 99 then v else 99) else (1 : Int32)) = clI v := by
    apply Int32.toInt_inj.mp
    unfold clI
    by_cases a : 1 ≤ v <;> by_cases b : v ≤ 99 <;> by_cases c : v < 99 <;> by_cases d : 1 < v <;> simp only [a, b, c, d, l9, if_true, if_false] <;> rw [Int32.le_iff_toInt_le] at a b <;> rw [Int32.lt_iff_toInt_lt] at c d <;> omega
  unfold rs_M_stepBy_98
  rw [← key]
  split
  · split <;> rfl
  · rfl
theorem lwL_M {n : Nat} {ls : List ln_T} {I : Nat → Nat → Int32} {B : Nat → Int32} (hn : n ≤ 120) (hp : ptx n B = .ok ls) (h13 : I 73 13 = nI n) (h81 : ∀ k, k < n → I 81 k = B k) : lw_M I (lwL ls) := by
  intro I' q1 q2 a b he lo sh we
  have go : ∀ s0 s1, ∃ I'', rs_M_stepBy_20 I' b he lo sh we (b - a) s0 s1 = some (nI (lwL ls (b - a) he lo sh we b), I'') ∧ az_fr (fun r k => r = 82 ∨ (r = 73 ∧ 14 ≤ k ∧ k ≤ 18)) I' I'' := by
    intro s0 s1
    have hF : az_fr (fun r k => r = 82 ∨ (r = 73 ∧ 14 ≤ k ∧ k ≤ 18)) I' (az_u (az_u (az_u (az_u (az_u (az_u I' 82 0 (b - a)) 82 1 he) 82 2 lo) 82 3 sh) 82 4 we) 82 5 b) := by
      refine ((((((az_fr.refl (S := fun r k => r = 82 ∨ (r = 73 ∧ 14 ≤ k ∧ k ≤ 18))).u ?_).u ?_).u ?_).u ?_).u ?_).u ?_ <;> exact Or.inl rfl
    have h6 : f6 ((az_u (az_u (az_u (az_u (az_u (az_u I' 82 0 (b - a)) 82 1 he) 82 2 lo) 82 3 sh) 82 4 we) 82 5 b) 82) = g6 (b - a) he lo sh we b := by
      funext j
      unfold f6 g6
      by_cases j6 : j < 6
      · rw [if_pos j6]
        have : j = 0 ∨ j = 1 ∨ j = 2 ∨ j = 3 ∨ j = 4 ∨ j = 5 := by omega
        rcases this with rfl | rfl | rfl | rfl | rfl | rfl
        · rw [az_un (by omega), az_un (by omega), az_un (by omega), az_un (by omega), az_un (by omega), az_us]; rfl
        · rw [az_un (by omega), az_un (by omega), az_un (by omega), az_un (by omega), az_us]; rfl
        · rw [az_un (by omega), az_un (by omega), az_un (by omega), az_us]; rfl
        · rw [az_un (by omega), az_un (by omega), az_us]; rfl
        · rw [az_un (by omega), az_us]; rfl
        · rw [az_us]; rfl
      · rw [if_neg j6, if_neg (by omega), if_neg (by omega), if_neg (by omega), if_neg (by omega), if_neg (by omega), if_neg (by omega)]
    unfold rs_M_stepBy_20
    generalize az_u (az_u (az_u (az_u (az_u (az_u I' 82 0 (b - a)) 82 1 he) 82 2 lo) 82 3 sh) 82 4 we) 82 5 b = A at *
    obtain ⟨x, A', r, f, q⟩ := mt_text (B := B) hn (I := A) (a := nI 0) (Or.inr ⟨rfl, fun k hk => by rw [hF 81 k (by omega), q2 k]; exact h81 k hk⟩)
    rw [hp] at q
    obtain ⟨q3, q4⟩ := q
    rw [h6] at q4
    refine ⟨A', ?_, hF.trans (f.mono (fun r k z => Or.inr z))⟩
    rw [q1, h13, if_neg (show ¬ nI n < 0 from by rw [show (0 : Int32) = nI 0 from rfl, nI_ltI (by omega) (by omega)]; omega), show rs_M_workOut A 0 (nI n) = some (x, A') from r]
    (try dsimp only)
    rw [cl_98, q4, (cl_I _).1]
    rfl
  unfold rs_M_stepBy
  split
  · exact go _ _
  · exact go _ _
section
variable {I : Nat → Nat → Int32} {J : Nat → Nat → Int64} {rl rd : Nat}
theorem mt_law (h : Rel I J rl rd) : ∃ v I1 rl' rd' I2, rs_X_law rd rl I = some (v, I1, rl', rd') ∧ rs_M_law I1 = some (v, I2) ∧ Rel I2 J rl' rd' := by
  obtain ⟨h1, h2, h3, h4, h5, h6, h7, h8, h9, h10, h11, h12⟩ := h
  obtain ⟨n, hn, t1, t2, t3⟩ := h7
  obtain ⟨hr, L, hB, hX, hM⟩ := h8
  have hrd : rd = 16 ∨ rd = 21 := by omega
  obtain ⟨x, A, r, q⟩ := xp_text (B := I 15) hrd hn (I := I) t1 (fun _ _ => rfl)
  unfold rs_X_law rs_M_law
  rw [r]
  (try dsimp only)
  have fX : ∀ A', az_fr (F_x rd) (az_u I rd 5 (nI 1)) A' → az_fr (fun r _ => r = 14 ∨ r = rd ∨ r = rd + 1 ∨ r = rd + 2) I (az_u A' 14 1 0) := by
    intro A' f
    exact (((az_fr.refl (S := fun r _ => r = 14 ∨ r = rd ∨ r = rd + 1 ∨ r = rd + 2)).u (Or.inr (Or.inl rfl))).trans (f.mono (fun r k z => by unfold F_x at z; (try dsimp only); omega))).u (Or.inl rfl)
  -- what the reference does on it
  have MM : ∀ A', az_fr (fun r _ => r = 14 ∨ r = rd ∨ r = rd + 1 ∨ r = rd + 2) I A' → ∃ y A2, rs_M_workOut A' (-1) (A' 73 11) = some (y, A2) ∧ az_fr (fun r k => r = 73 ∧ 14 ≤ k ∧ k ≤ 18) A' A2 ∧ (match ptx n (I 15) with | .error e => A2 73 17 = nI e ∧ e ≤ n | .ok ls => A2 73 17 = -nI 1 ∧ y = lvals ls (f6 (A' 82))) := by
    intro A' f
    rw [f 73 11 (by omega), t2]
    exact mt_text (B := I 15) hn (I := A') (a := -nI 1) (Or.inl ⟨rfl, fun k hk => by rw [f 80 k (by omega)]; exact t3 k hk⟩)
  have keep : ∀ A' : Nat → Nat → Int32, ∀ rl' rd', az_fr (fun r k => r = 14 ∨ (16 ≤ r ∧ r ≤ 18) ∨ (21 ≤ r ∧ r ≤ 23) ∨ r = 81 ∨ (r = 73 ∧ (k = 11 ∨ k = 13 ∨ (14 ≤ k ∧ k ≤ 18)))) I A' → rl_tap A' → rl_law A' rl' rd' → Rel A' J rl' rd' := by
    intro A' rl' rd' f ht hl
    refine ⟨h1.fr ?_, h2.fr ?_, h3.fr ?_, h4.fr ?_, h5.fr ?_, h6.fr ?_, ht, hl, h9.fr ?_, h10.fr ?_, h11.fr ?_, h12.fr ?_⟩
    · intro r k q; exact f r k (by unfold S_cnt at q; omega)
    · intro r k q; exact f r k (by unfold S_hts at q; omega)
    · intro r k q; exact f r k (by unfold S_pst at q; omega)
    · intro r k q; exact f r k (by unfold S_wlk at q; omega)
    · intro r k q; exact f r k (by unfold S_std at q; omega)
    · intro r k q; exact f r k (by unfold S_led at q; omega)
    · intro r k q; exact f r k (by unfold S_chg at q; omega)
    · intro r k q; exact f r k (by unfold S_img at q; omega)
    · intro r k q; exact f r k (by unfold S_bod at q; omega)
    · intro r k q; exact f r k (by unfold S_shf at q; omega)
  cases e : ptx n (I 15) with
  | error y =>
    rw [e] at q MM
    obtain ⟨q1, q2, q3⟩ := q
    subst q1
    have ff := fX A q3
    obtain ⟨z, A2, r2, f2, q4, _⟩ := MM _ ff
    refine ⟨-100 - nI y, az_u A 14 1 0, rl, rd, az_u A2 73 11 0, ?_, ?_, ?_⟩
    · rw [if_neg (show ¬ nI y < 0 from by rw [show (0 : Int32) = nI 0 from rfl, nI_ltI (by omega) (by omega)]; omega)]
    · rw [r2]
      (try dsimp only)
      rw [q4, if_neg (show ¬ nI y < 0 from by rw [show (0 : Int32) = nI 0 from rfl, nI_ltI (by omega) (by omega)]; omega)]
    · have f3 : az_fr (fun r k => r = 14 ∨ r = rd ∨ r = rd + 1 ∨ r = rd + 2 ∨ (r = 73 ∧ (k = 11 ∨ (14 ≤ k ∧ k ≤ 18)))) I (az_u A2 73 11 0) :=
        ((ff.mono (fun r k z => by (try dsimp only at z ⊢); omega)).trans (f2.mono (fun r k z => by (try dsimp only at z ⊢); omega))).u (by omega)
      refine keep _ rl rd (f3.mono (fun r k z => by (try dsimp only at z ⊢); omega)) ⟨0, by omega, ?_, az_us, fun k hk => absurd hk (by omega)⟩ ⟨hr, L, hB, hX.fr (fun r k z => f3 r k (by omega)), hM.fr (f3 73 13 (by omega)) (fun k => f3 81 k (by omega))⟩
      rw [az_un (by omega), f2 14 1 (by omega), az_us]
      rfl
  | ok ls =>
    rw [e] at q MM
    obtain ⟨q1, q2, q3, q4, q5, q6⟩ := q
    subst q1
    have ff := fX A q2
    obtain ⟨z, A2, r2, f2, q7, _⟩ := MM _ ff
    have e11 : A2 73 11 = nI n := by rw [f2 73 11 (by omega), ff 73 11 (by omega)]; exact t2
    have l37 : ∃ y, rs_M_law_37 (az_u A2 73 11 0) (nI n) 0 = some y ∧ ∃ A3, y = (nI 1, az_u A3 73 13 (nI n)) ∧ az_fr (fun r _ => r = 81) (az_u A2 73 11 0) A3 ∧ ∀ k, k < n → A3 81 k = I 15 k := by
      unfold rs_M_law_37
      refine az_for0 (fun k (s : Int32 × (Nat → Nat → Int32)) => s.1 = nI k ∧ az_fr (fun r _ => r = 81) (az_u A2 73 11 0) s.2 ∧ ∀ j, j < k → s.2 81 j = I 15 j) n (by omega) ⟨rfl, az_fr.refl, fun _ q => absurd q (by omega)⟩ ?_ ?_
      · intro k s hk hs
        obtain ⟨v3, A3⟩ := s
        obtain ⟨s1, s2, s3⟩ := hs
        (try dsimp only at s1 s2 s3)
        subst s1
        refine az_nxt (nI (k + 1), az_u A3 81 k (A3 80 k)) ?_ ⟨rfl, s2.u rfl, fun j hj => ?_⟩
        · (try dsimp only)
          unfold rs_M_law_37_b
          simp (disch := omega) only [bl_lit, lgl, lgg, lgl0, lgg0, lglm, lggm, az_us, az_un, az_ue, az_urn, az_ure, bz_lit, nI_leI, nI_ltI, nI_eq, nI_clamp, nI_add, pk_sub, pk_mul, bz_nlt, bz_nle, bz_ltn, bz_len, bz_neq, bz_eqn, bz_nn, ↓reduceIte, Bool.false_eq_true, if_pos, if_neg]
        · (try dsimp only)
          rcases Nat.lt_or_ge j k with w | w
          · rw [az_un (by omega)]; exact s3 j w
          · rw [show j = k by omega, az_us, s2 80 k (by omega), az_un (by omega), f2 80 k (by omega), ff 80 k (by omega)]
            exact t3 k hk
      · intro s hs
        obtain ⟨v3, A3⟩ := s
        obtain ⟨s1, s2, s3⟩ := hs
        (try dsimp only at s1 s2 s3)
        subst s1
        refine ⟨_, ?_, A3, rfl, s2, s3⟩
        (try dsimp only)
        unfold rs_M_law_37_b
        rw [if_pos (Int32.le_refl _)]
        rfl
    obtain ⟨_, r3, A3, rfl, f4, k4⟩ := l37
    refine ⟨nI 1, az_u A 14 1 0, rd, rl, az_u A3 73 13 (nI n), ?_, ?_, ?_⟩
    · rw [if_pos (show -nI 1 < 0 by decide)]
      rfl
    · rw [r2]
      (try dsimp only)
      rw [q7, if_pos (show -nI 1 < 0 by decide), e11]
      exact r3
    · have f5 : az_fr (fun r k => r = 81 ∨ (r = 73 ∧ (k = 11 ∨ k = 13 ∨ (14 ≤ k ∧ k ≤ 18)))) (az_u A 14 1 0) (az_u A3 73 13 (nI n)) :=
        (((f2.mono (fun r k z => by (try dsimp only at z ⊢); omega)).u (by omega)).trans (f4.mono (fun r k z => by (try dsimp only at z ⊢); omega))).u (by omega)
      refine keep _ rd rl ((ff.mono (fun r k z => by (try dsimp only at z ⊢); omega)).trans (f5.mono (fun r k z => by (try dsimp only at z ⊢); omega))) ⟨0, by omega, ?_, ?_, fun k hk => absurd hk (by omega)⟩ ⟨by omega, lwL ls, lwL_B ls, ?_, ?_⟩
      · rw [f5 14 1 (by omega), az_us]; rfl
      · rw [az_un (by omega), f4 73 11 (by omega), az_us]; rfl
      · have kx : ∀ r k, r = rd ∨ r = rd + 1 ∨ r = rd + 2 → az_u A3 73 13 (nI n) r k = A r k := fun r k z => by rw [f5 r k (by omega), az_un (by omega)]
        refine (lwL_X (I := A) q6 ?_ q4 q5 q3).fr kx
        rw [q2 rd 5 (by unfold F_x; omega), az_us]
      · exact lwL_M hn e az_us (fun k hk => by rw [az_un (by omega)]; exact k4 k hk)
end

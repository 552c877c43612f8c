/-! act: the class -/
def aX (I : Nat → Nat → Int32) (b K r : Nat) : Prop := I 55 4 = nI b ∧ b < 50 ∧ I 56 b = nI K ∧ I 55 3 = nI r
theorem aX.tx {I : Nat → Nat → Int32} {b K r : Nat} (h : aX I b K r) (l : List Nat) : aX (tx 55 3 57 I r l) b K (r + l.length) :=
  ⟨by rw [tx_fr l I r 55 4 (by (try dsimp only); omega)]; exact h.1, h.2.1, by rw [tx_fr l I r 56 b (by (try dsimp only); omega)]; exact h.2.2.1, tx_r (by omega) l I r h.2.2.2⟩
theorem xr_1 {I : Nat → Nat → Int32} {b K r : Nat} (h : aX I b K r) (hr : r ≤ 900) (x : Nat) : rs_Bd_begin I (nI x) = some (tx 55 3 57 I r [x]) := by
  unfold rs_Bd_begin
  by_cases q : 24 ≤ r
  · simp (disch := omega) only [bl_lit, lgl, lgg, lgl0, lgg0, lglm, lggm, az_us, az_un, az_ue, az_urn, az_ure, bz_lit, nI_leI, nI_ltI, nI_eq, nI_clamp, nI_add, pk_sub, pk_mul, bz_nlt, bz_nle, bz_ltn, bz_len, bz_neq, bz_eqn, bz_nn, ↓reduceIte, Bool.false_eq_true, if_pos, if_neg, h.2.2.2]
    show _ = some (if 24 ≤ r then _ else _)
    rw [if_pos q]
  · simp (disch := omega) only [bl_lit, lgl, lgg, lgl0, lgg0, lglm, lggm, az_us, az_un, az_ue, az_urn, az_ure, bz_lit, nI_leI, nI_ltI, nI_eq, nI_clamp, nI_add, pk_sub, pk_mul, bz_nlt, bz_nle, bz_ltn, bz_len, bz_neq, bz_eqn, bz_nn, ↓reduceIte, Bool.false_eq_true, if_pos, if_neg, h.2.2.2]
    show _ = some (if 24 ≤ r then _ else _)
    rw [if_neg q]
/-- the kind that has it, its number -/
def ac_at (k a : Nat) : Nat := (([0, 0, 0, 0, 1, 0, 0, 0, 0, 2, 0, 0, 0, 3, 3, 0, 1, 0, 4, 0, 0, 3, 3, 5, 6, 0, 0, 0, 1, 7, 4, 7] : List Nat)[4 * k + a]?).getD 0
def ac_no (k a : Nat) : Nat := (([1, 10, 11, 2, 20, 0, 0, 0, 0, 30, 0, 0, 0, 41, 40, 0, 0, 0, 50, 0, 0, 0, 0, 60, 70, 0, 0, 0, 0, 80, 0, 81] : List Nat)[4 * k + a]?).getD 0
theorem ac_own : ∀ k, k < 8 → ∀ a, a < 4 → az_own (4 * k + a) = nI (ac_no k a) := by decide +kernel
theorem ac_abv : ∀ k, k < 8 → 0 < k → az_abv k = nI (((([0, 0, 0, 2, 1, 3, 0, 4] : List Nat)[k]?).getD 0)) := by decide +kernel
theorem xf_45 {L : Nat} {xs : Nat → Int32} {I : Nat → Nat → Int32} {b K r k a d : Nat} (h : aX I b K r) (hr : r ≤ 900) (hk : k < 8) (ha : a < 4) (hd : d < 40) (rec : az_GT) (x : Int32) :
    rs_Bd_from_45 rec (az_ex L xs) I (nI a) x (nI d) (nI k) = rec 9 (nI (ac_no k a)) (nI k) x (nI (d + 1)) (tx 55 3 57 I r [ac_no k a]) := by
  have e1 : (az_ex L xs 1).1 = 32 := rfl
  have e2 : (az_ex L xs 1).2 = az_own := rfl
  have e3 : nI k * 4 + nI a = nI (4 * k + a) := by rw [show (4 : Int32) = nI 4 from rfl, pk_mul, nI_add, Nat.mul_comm]
  unfold rs_Bd_from_45
  rw [e1, e2, e3, nI_clamp (n := 4 * k + a) (by omega), ac_own k hk a ha, xr_1 h hr]
  simp (disch := omega) only [bl_lit, lgl, lgg, lgl0, lgg0, lglm, lggm, az_us, az_un, az_ue, az_urn, az_ure, bz_lit, nI_leI, nI_ltI, nI_eq, nI_clamp, nI_add, pk_sub, pk_mul, bz_nlt, bz_nle, bz_ltn, bz_len, bz_neq, bz_eqn, bz_nn, ↓reduceIte, Bool.false_eq_true, if_pos, if_neg]
  cases rec 9 (nI (ac_no k a)) (nI k) x (nI (d + 1)) (tx 55 3 57 I r [ac_no k a]) with
  | none => rfl
  | some p => rfl
theorem xf_6 {L : Nat} {xs : Nat → Int32} {I : Nat → Nat → Int32} {a d : Nat} (ha : a < 4) (rec : az_GT) (x : Int32) : ∀ k, k < 8 →
    rs_Bd_from_6 rec (az_ex L xs) I (nI a) x (nI d) (nI k) 0 = rs_Bd_from_45 rec (az_ex L xs) I (nI a) x (nI d) (nI (ac_at k a)) := by
  have e1 : (az_ex L xs 1).1 = 32 := rfl
  have e2 : (az_ex L xs 1).2 = az_own := rfl
  have e4 : (az_ex L xs 2).1 = 8 := rfl
  have e5 : (az_ex L xs 2).2 = az_abv := rfl
  have stay : ∀ f k c : Nat, k < 8 → c < 8 → (k = 0 ∨ ac_no k a ≠ 0) → az_lp (fun s : (Int32 × Int32) => rs_Bd_from_6_b rec (az_ex L xs) I (nI a) x (nI d) s.1 s.2) (f + 1) (nI k, nI c) = rs_Bd_from_45 rec (az_ex L xs) I (nI a) x (nI d) (nI k) := by
    intro f k c hk hc hor
    have e3 : nI k * 4 + nI a = nI (4 * k + a) := by rw [show (4 : Int32) = nI 4 from rfl, pk_mul, nI_add, Nat.mul_comm]
    have lt : ac_no k a < 2 ^ 31 := by
      have : ∀ k, k < 8 → ∀ a, a < 4 → ac_no k a < 100 := by decide +kernel
      have := this k hk a ha
      omega
    have body : rs_Bd_from_6_b rec (az_ex L xs) I (nI a) x (nI d) (nI k) (nI c) = (rs_Bd_from_45 rec (az_ex L xs) I (nI a) x (nI d) (nI k)).map fun x => .inr (x) := by
      unfold rs_Bd_from_6_b
      rw [e1, e2, e3, nI_clamp (n := 4 * k + a) (by omega), ac_own k hk a ha]
      by_cases k0 : k = 0
      · subst k0
        simp (disch := omega) only [bl_lit, lgl, lgg, lgl0, lgg0, lglm, lggm, az_us, az_un, az_ue, az_urn, az_ure, bz_lit, nI_leI, nI_ltI, nI_eq, nI_clamp, nI_add, pk_sub, pk_mul, bz_nlt, bz_nle, bz_ltn, bz_len, bz_neq, bz_eqn, bz_nn, ↓reduceIte, Bool.false_eq_true, if_pos, if_neg]
      · rcases hor with q | q
        · exact absurd q k0
        · simp (disch := omega) only [bl_lit, lgl, lgg, lgl0, lgg0, lglm, lggm, az_us, az_un, az_ue, az_urn, az_ure, bz_lit, nI_leI, nI_ltI, nI_eq, nI_clamp, nI_add, pk_sub, pk_mul, bz_nlt, bz_nle, bz_ltn, bz_len, bz_neq, bz_eqn, bz_nn, ↓reduceIte, Bool.false_eq_true, if_pos, if_neg]
    conv => lhs; unfold az_lp
    (try dsimp only)
    rw [body]
    cases rs_Bd_from_45 rec (az_ex L xs) I (nI a) x (nI d) (nI k) with
    | none => rfl
    | some p => rfl
  have go : ∀ f k u c : Nat, k < 8 → c < 8 → 0 < k → ac_no k a = 0 → az_abv k = nI u → az_lp (fun s : (Int32 × Int32) => rs_Bd_from_6_b rec (az_ex L xs) I (nI a) x (nI d) s.1 s.2) (f + 1) (nI k, nI c) = az_lp (fun s : (Int32 × Int32) => rs_Bd_from_6_b rec (az_ex L xs) I (nI a) x (nI d) s.1 s.2) f (nI u, nI (c + 1)) := by
    intro f k u c hk hc k0 hno hu
    have e3 : nI k * 4 + nI a = nI (4 * k + a) := by rw [show (4 : Int32) = nI 4 from rfl, pk_mul, nI_add, Nat.mul_comm]
    have body : rs_Bd_from_6_b rec (az_ex L xs) I (nI a) x (nI d) (nI k) (nI c) = some (.inl (nI u, nI (c + 1))) := by
      unfold rs_Bd_from_6_b
      rw [e1, e2, e3, nI_clamp (n := 4 * k + a) (by omega), ac_own k hk a ha, e4, e5, nI_clamp (n := k) (by omega), hu, hno]
      simp (disch := omega) only [bl_lit, lgl, lgg, lgl0, lgg0, lglm, lggm, az_us, az_un, az_ue, az_urn, az_ure, bz_lit, nI_leI, nI_ltI, nI_eq, nI_clamp, nI_add, pk_sub, pk_mul, bz_nlt, bz_nle, bz_ltn, bz_len, bz_neq, bz_eqn, bz_nn, ↓reduceIte, Bool.false_eq_true, if_pos, if_neg]
    conv => lhs; unfold az_lp
    (try dsimp only)
    rw [body]
  intro k hk
  unfold rs_Bd_from_6
  show az_lp (fun s : (Int32 × Int32) => rs_Bd_from_6_b rec (az_ex L xs) I (nI a) x (nI d) s.1 s.2) 100000 (nI k, nI 0) = _
  have a4 : a = 0 ∨ a = 1 ∨ a = 2 ∨ a = 3 := by omega
  have k8 : k = 0 ∨ k = 1 ∨ k = 2 ∨ k = 3 ∨ k = 4 ∨ k = 5 ∨ k = 6 ∨ k = 7 := by omega
  rcases k8 with rfl | rfl | rfl | rfl | rfl | rfl | rfl | rfl
  · rcases a4 with rfl | rfl | rfl | rfl <;> exact stay 99999 0 0 (by omega) (by omega) (by decide)
  · rcases a4 with rfl | rfl | rfl | rfl
    · exact stay 99999 1 0 (by omega) (by omega) (by decide)
    · exact (go 99999 1 0 0 (by omega) (by omega) (by omega) rfl (by decide)).trans (stay 99998 0 1 (by omega) (by omega) (by decide))
    · exact (go 99999 1 0 0 (by omega) (by omega) (by omega) rfl (by decide)).trans (stay 99998 0 1 (by omega) (by omega) (by decide))
    · exact (go 99999 1 0 0 (by omega) (by omega) (by omega) rfl (by decide)).trans (stay 99998 0 1 (by omega) (by omega) (by decide))
  · rcases a4 with rfl | rfl | rfl | rfl
    · exact (go 99999 2 0 0 (by omega) (by omega) (by omega) rfl (by decide)).trans (stay 99998 0 1 (by omega) (by omega) (by decide))
    · exact stay 99999 2 0 (by omega) (by omega) (by decide)
    · exact (go 99999 2 0 0 (by omega) (by omega) (by omega) rfl (by decide)).trans (stay 99998 0 1 (by omega) (by omega) (by decide))
    · exact (go 99999 2 0 0 (by omega) (by omega) (by omega) rfl (by decide)).trans (stay 99998 0 1 (by omega) (by omega) (by decide))
  · rcases a4 with rfl | rfl | rfl | rfl
    · exact (go 99999 3 2 0 (by omega) (by omega) (by omega) rfl (by decide)).trans ((go 99998 2 0 1 (by omega) (by omega) (by omega) rfl (by decide)).trans (stay 99997 0 2 (by omega) (by omega) (by decide)))
    · exact stay 99999 3 0 (by omega) (by omega) (by decide)
    · exact stay 99999 3 0 (by omega) (by omega) (by decide)
    · exact (go 99999 3 2 0 (by omega) (by omega) (by omega) rfl (by decide)).trans ((go 99998 2 0 1 (by omega) (by omega) (by omega) rfl (by decide)).trans (stay 99997 0 2 (by omega) (by omega) (by decide)))
  · rcases a4 with rfl | rfl | rfl | rfl
    · exact (go 99999 4 1 0 (by omega) (by omega) (by omega) rfl (by decide)).trans (stay 99998 1 1 (by omega) (by omega) (by decide))
    · exact (go 99999 4 1 0 (by omega) (by omega) (by omega) rfl (by decide)).trans ((go 99998 1 0 1 (by omega) (by omega) (by omega) rfl (by decide)).trans (stay 99997 0 2 (by omega) (by omega) (by decide)))
    · exact stay 99999 4 0 (by omega) (by omega) (by decide)
    · exact (go 99999 4 1 0 (by omega) (by omega) (by omega) rfl (by decide)).trans ((go 99998 1 0 1 (by omega) (by omega) (by omega) rfl (by decide)).trans (stay 99997 0 2 (by omega) (by omega) (by decide)))
  · rcases a4 with rfl | rfl | rfl | rfl
    · exact (go 99999 5 3 0 (by omega) (by omega) (by omega) rfl (by decide)).trans ((go 99998 3 2 1 (by omega) (by omega) (by omega) rfl (by decide)).trans ((go 99997 2 0 2 (by omega) (by omega) (by omega) rfl (by decide)).trans (stay 99996 0 3 (by omega) (by omega) (by decide))))
    · exact (go 99999 5 3 0 (by omega) (by omega) (by omega) rfl (by decide)).trans (stay 99998 3 1 (by omega) (by omega) (by decide))
    · exact (go 99999 5 3 0 (by omega) (by omega) (by omega) rfl (by decide)).trans (stay 99998 3 1 (by omega) (by omega) (by decide))
    · exact stay 99999 5 0 (by omega) (by omega) (by decide)
  · rcases a4 with rfl | rfl | rfl | rfl
    · exact stay 99999 6 0 (by omega) (by omega) (by decide)
    · exact (go 99999 6 0 0 (by omega) (by omega) (by omega) rfl (by decide)).trans (stay 99998 0 1 (by omega) (by omega) (by decide))
    · exact (go 99999 6 0 0 (by omega) (by omega) (by omega) rfl (by decide)).trans (stay 99998 0 1 (by omega) (by omega) (by decide))
    · exact (go 99999 6 0 0 (by omega) (by omega) (by omega) rfl (by decide)).trans (stay 99998 0 1 (by omega) (by omega) (by decide))
  · rcases a4 with rfl | rfl | rfl | rfl
    · exact (go 99999 7 4 0 (by omega) (by omega) (by omega) rfl (by decide)).trans ((go 99998 4 1 1 (by omega) (by omega) (by omega) rfl (by decide)).trans (stay 99997 1 2 (by omega) (by omega) (by decide)))
    · exact stay 99999 7 0 (by omega) (by omega) (by decide)
    · exact (go 99999 7 4 0 (by omega) (by omega) (by omega) rfl (by decide)).trans (stay 99998 4 1 (by omega) (by omega) (by decide))
    · exact stay 99999 7 0 (by omega) (by omega) (by decide)
theorem g0_7 {ex : az_X} {I : Nat → Nat → Int32} (n : Nat) (a b c d : Int32) : rs_G0 ex (n + 1) 7 a b c d I = rs_Bd_from (rs_G0 ex n) ex I a b c d := by simp [rs_G0]
theorem g0_9 {ex : az_X} {I : Nat → Nat → Int32} (n : Nat) (a b c d : Int32) : rs_G0 ex (n + 1) 9 a b c d I = rs_Bd_run (rs_G0 ex n) ex I a b c d := rfl
/-- an act as a kind has it: one body begins, and is run -/
theorem xf {L : Nat} {xs : Nat → Int32} {I : Nat → Nat → Int32} {b K r k a d : Nat} (h : aX I b K r) (hr : r ≤ 900) (hk : k < 8) (ha : a < 4) (hd : d < 40) (n : Nat) (x : Int32) :
    rs_G0 (az_ex L xs) (n + 2) 7 (nI k) (nI a) x (nI d) I = rs_Bd_run (rs_G0 (az_ex L xs) n) (az_ex L xs) (tx 55 3 57 I r [ac_no (ac_at k a) a]) (nI (ac_no (ac_at k a) a)) (nI (ac_at k a)) x (nI (d + 1)) := by
  rw [g0_7]
  unfold rs_Bd_from
  have at8 : ∀ k, k < 8 → ∀ a, a < 4 → ac_at k a < 8 := by decide +kernel
  rw [xf_6 ha _ x k hk, xf_45 h hr (at8 k hk a ha) ha hd, g0_9]
theorem xo {L : Nat} {xs : Nat → Int32} {I : Nat → Nat → Int32} {b K r : Nat} (h : aX I b K r) (n : Nat) (a x d : Int32) : rs_G0 (az_ex L xs) (n + 1) 5 a x d (nI 0) I = rs_G0 (az_ex L xs) n 7 (nI K) a x d I := by
  show rs_Bd_own (rs_G0 (az_ex L xs) n) (az_ex L xs) I a x d = _
  unfold rs_Bd_own
  have hb := h.2.1
  simp (disch := omega) only [bl_lit, lgl, lgg, lgl0, lgg0, lglm, lggm, az_us, az_un, az_ue, az_urn, az_ure, bz_lit, nI_leI, nI_ltI, nI_eq, nI_clamp, nI_add, pk_sub, pk_mul, bz_nlt, bz_nle, bz_ltn, bz_len, bz_neq, bz_eqn, bz_nn, ↓reduceIte, Bool.false_eq_true, if_pos, if_neg, h.1, h.2.2.1]
  cases rs_G0 (az_ex L xs) n 7 (nI K) a x d I with
  | none => rfl
  | some p => rfl
theorem xa {L : Nat} {xs : Nat → Int32} {I : Nat → Nat → Int32} {k u : Nat} (hk : k < 8) (hu : az_abv k = nI u) (n : Nat) (a x d : Int32) : rs_G0 (az_ex L xs) (n + 1) 6 (nI k) a x d I = rs_G0 (az_ex L xs) n 7 (nI u) a x d I := by
  show rs_Bd_above (rs_G0 (az_ex L xs) n) (az_ex L xs) I (nI k) a x d = _
  have e4 : (az_ex L xs 2).1 = 8 := rfl
  have e5 : (az_ex L xs 2).2 = az_abv := rfl
  unfold rs_Bd_above
  rw [e4, e5, nI_clamp (by omega), hu]
  simp (disch := omega) only [bl_lit, lgl, lgg, lgl0, lgg0, lglm, lggm, az_us, az_un, az_ue, az_urn, az_ure, bz_lit, nI_leI, nI_ltI, nI_eq, nI_clamp, nI_add, pk_sub, pk_mul, bz_nlt, bz_nle, bz_ltn, bz_len, bz_neq, bz_eqn, bz_nn, ↓reduceIte, Bool.false_eq_true, if_pos, if_neg]
  cases rs_G0 (az_ex L xs) n 7 (nI u) a x d I with
  | none => rfl
  | some p => rfl
section
variable {L : Nat} {xs : Nat → Int32} {I : Nat → Nat → Int32} {b K r k d : Nat}
theorem xp_0 (h : aX I b K r) (hr : r ≤ 800) (hk : k = 0 ∨ k = 2 ∨ k = 3 ∨ k = 5) (hd : d < 40) (n : Nat) (x : Int32) : rs_G0 (az_ex L xs) (n + 2) 7 (nI k) (nI 0) x (nI d) I = some (x + nI b, tx 55 3 57 I r [1]) := by
  rw [xf h (by omega) (by omega) (by omega) hd]
  have e : ac_at k 0 = 0 := by rcases hk with rfl | rfl | rfl | rfl <;> rfl
  rw [e, show ac_no 0 0 = 1 from rfl]
  unfold rs_Bd_run
  simp (disch := omega) only [bl_lit, lgl, lgg, lgl0, lgg0, lglm, lggm, az_us, az_un, az_ue, az_urn, az_ure, bz_lit, nI_leI, nI_ltI, nI_eq, nI_clamp, nI_add, pk_sub, pk_mul, bz_nlt, bz_nle, bz_ltn, bz_len, bz_neq, bz_eqn, bz_nn, ↓reduceIte, Bool.false_eq_true, if_pos, if_neg, (h.tx [1]).1]
theorem xp_a (h : aX I b K r) (hr : r ≤ 700) (hk : k < 8) (hd : d < 38) (n : Nat) (x : Int32) : rs_G0 (az_ex L xs) (n + 5) 7 (nI k) (nI 0) x (nI d) I = some ((ac_p (nI b) k x).1, tx 55 3 57 I r (ac_p (nI b) k x).2) := by
  by_cases q : k = 0 ∨ k = 2 ∨ k = 3 ∨ k = 5
  · rw [xp_0 h (by omega) q (by omega) (n + 3)]
    unfold ac_p
    rw [if_neg (by omega), if_neg (by omega)]
  · rw [xf h (by omega) (by omega) (by omega) (by omega) (n + 3)]
    have a1 := xa (L := L) (xs := xs) (I := tx 55 3 57 I r [20]) (k := 1) (u := 0) (by omega) (by decide) (n + 2) (nI 0) x (nI (d + 1))
    have a2 := xa (L := L) (xs := xs) (I := tx 55 3 57 I r [70]) (k := 6) (u := 0) (by omega) (by decide) (n + 2) (nI 0) x (nI (d + 1))
    rw [xp_0 (h.tx [20]) (k := 0) (by dsimp only [List.length]; omega) (by omega) (by omega) n x] at a1
    rw [xp_0 (h.tx [70]) (k := 0) (by dsimp only [List.length]; omega) (by omega) (by omega) n x] at a2
    have k4 : (k = 1 ∨ k = 4 ∨ k = 7) ∨ k = 6 := by omega
    unfold ac_p
    rcases k4 with k4 | rfl
    · have e : ac_at k 0 = 1 := by rcases k4 with rfl | rfl | rfl <;> rfl
      rw [e, show ac_no 1 0 = 20 from rfl, if_pos k4]
      unfold rs_Bd_run
      simp (disch := omega) only [bl_lit, lgl, lgg, lgl0, lgg0, lglm, lggm, az_us, az_un, az_ue, az_urn, az_ure, bz_lit, nI_leI, nI_ltI, nI_eq, nI_clamp, nI_add, pk_sub, pk_mul, bz_nlt, bz_nle, bz_ltn, bz_len, bz_neq, bz_eqn, bz_nn, ↓reduceIte, Bool.false_eq_true, if_pos, if_neg, a1]
      rfl
    · rw [show ac_at 6 0 = 6 from rfl, show ac_no 6 0 = 70 from rfl]
      unfold rs_Bd_run
      simp (disch := omega) only [bl_lit, lgl, lgg, lgl0, lgg0, lglm, lggm, az_us, az_un, az_ue, az_urn, az_ure, bz_lit, nI_leI, nI_ltI, nI_eq, nI_clamp, nI_add, pk_sub, pk_mul, bz_nlt, bz_nle, bz_ltn, bz_len, bz_neq, bz_eqn, bz_nn, ↓reduceIte, Bool.false_eq_true, if_pos, if_neg, a2]
      rfl
theorem xt_0 (h : aX I b K r) (hr : r ≤ 800) (hk : k = 0 ∨ k = 1 ∨ k = 2 ∨ k = 6) (hd : d < 40) (n : Nat) (x : Int32) : rs_G0 (az_ex L xs) (n + 2) 7 (nI k) (nI 2) x (nI d) I = some (x ^^^ nI b, tx 55 3 57 I r [11]) := by
  rw [xf h (by omega) (by omega) (by omega) hd]
  have e : ac_at k 2 = 0 := by rcases hk with rfl | rfl | rfl | rfl <;> rfl
  rw [e, show ac_no 0 2 = 11 from rfl]
  unfold rs_Bd_run
  simp (disch := omega) only [bl_lit, lgl, lgg, lgl0, lgg0, lglm, lggm, az_us, az_un, az_ue, az_urn, az_ure, bz_lit, nI_leI, nI_ltI, nI_eq, nI_clamp, nI_add, pk_sub, pk_mul, bz_nlt, bz_nle, bz_ltn, bz_len, bz_neq, bz_eqn, bz_nn, ↓reduceIte, Bool.false_eq_true, if_pos, if_neg, (h.tx [11]).1]
theorem xt_a (h : aX I b K r) (hr : r ≤ 600) (hk : k < 8) (hK : K < 8) (hd : d < 36) (n : Nat) (x : Int32) : rs_G0 (az_ex L xs) (n + 8) 7 (nI k) (nI 2) x (nI d) I = some ((ac_t (nI b) K k x).1, tx 55 3 57 I r (ac_t (nI b) K k x).2) := by
  by_cases q : k = 0 ∨ k = 1 ∨ k = 2 ∨ k = 6
  · rw [xt_0 h (by omega) q (by omega) (n + 6)]
    unfold ac_t
    rw [if_neg (by omega), if_neg (by omega)]
  · rw [xf h (by omega) (by omega) (by omega) (by omega) (n + 6)]
    have a1 := xa (L := L) (xs := xs) (I := tx 55 3 57 I r [40]) (k := 3) (u := 2) (by omega) (by decide) (n + 5) (nI 2) x (nI (d + 1))
    have a2 := xa (L := L) (xs := xs) (I := tx 55 3 57 I r [50]) (k := 4) (u := 1) (by omega) (by decide) (n + 5) (nI 2) x (nI (d + 1))
    rw [xt_0 (h.tx [40]) (k := 2) (by dsimp only [List.length]; omega) (by omega) (by omega) (n + 3) x] at a1
    rw [xt_0 (h.tx [50]) (k := 1) (by dsimp only [List.length]; omega) (by omega) (by omega) (n + 3) x] at a2
    have h2 := (h.tx [50]).tx [11]
    have a3 := xo (L := L) (xs := xs) h2 (n + 5) (nI 0) (nI 2) (nI (d + 1))
    rw [xp_a h2 (by dsimp only [List.length]; omega) hK (by omega) n (nI 2)] at a3
    have z : tx 55 3 57 (tx 55 3 57 (tx 55 3 57 I r [50]) (r + [50].length) [11]) (r + [50].length + [11].length) (ac_p (nI b) K (nI 2)).2 = tx 55 3 57 I r ([50, 11] ++ (ac_p (nI b) K (nI 2)).2) := by
      rw [tx_app]; rfl
    have k4 : (k = 3 ∨ k = 5) ∨ (k = 4 ∨ k = 7) := by omega
    unfold ac_t
    rcases k4 with k4 | k4
    · have e : ac_at k 2 = 3 := by rcases k4 with rfl | rfl <;> rfl
      rw [e, show ac_no 3 2 = 40 from rfl, if_pos k4]
      unfold rs_Bd_run
      simp (disch := omega) only [bl_lit, lgl, lgg, lgl0, lgg0, lglm, lggm, az_us, az_un, az_ue, az_urn, az_ure, bz_lit, nI_leI, nI_ltI, nI_eq, nI_clamp, nI_add, pk_sub, pk_mul, bz_nlt, bz_nle, bz_ltn, bz_len, bz_neq, bz_eqn, bz_nn, ↓reduceIte, Bool.false_eq_true, if_pos, if_neg, a1]
      rfl
    · have e : ac_at k 2 = 4 := by rcases k4 with rfl | rfl <;> rfl
      rw [e, show ac_no 4 2 = 50 from rfl, if_neg (by omega), if_pos k4]
      unfold rs_Bd_run
      simp (disch := omega) only [bl_lit, lgl, lgg, lgl0, lgg0, lglm, lggm, az_us, az_un, az_ue, az_urn, az_ure, bz_lit, nI_leI, nI_ltI, nI_eq, nI_clamp, nI_add, pk_sub, pk_mul, bz_nlt, bz_nle, bz_ltn, bz_len, bz_neq, bz_eqn, bz_nn, ↓reduceIte, Bool.false_eq_true, if_pos, if_neg, a2, a3, z]
theorem xg_0 (h : aX I b K r) (hr : r ≤ 600) (hK : K < 8) (hk : k = 0 ∨ k = 1 ∨ k = 4 ∨ k = 6) (hd : d < 36) (n : Nat) (x : Int32) : rs_G0 (az_ex L xs) (n + 8) 7 (nI k) (nI 1) x (nI d) I = some ((ac_g0 (nI b) K x).1, tx 55 3 57 I r (ac_g0 (nI b) K x).2) := by
  rw [xf h (by omega) (by omega) (by omega) (by omega) (n + 6)]
  have e : ac_at k 1 = 0 := by rcases hk with rfl | rfl | rfl | rfl <;> rfl
  rw [e, show ac_no 0 1 = 10 from rfl]
  have a3 := xo (L := L) (xs := xs) (h.tx [10]) (n + 5) (nI 0) x (nI (d + 1))
  rw [xp_a (h.tx [10]) (by dsimp only [List.length]; omega) hK (by omega) n x] at a3
  have z : tx 55 3 57 (tx 55 3 57 I r [10]) (r + [10].length) (ac_p (nI b) K x).2 = tx 55 3 57 I r ([10] ++ (ac_p (nI b) K x).2) := by
    rw [tx_app]
  unfold rs_Bd_run ac_g0
  simp (disch := omega) only [bl_lit, lgl, lgg, lgl0, lgg0, lglm, lggm, az_us, az_un, az_ue, az_urn, az_ure, bz_lit, nI_leI, nI_ltI, nI_eq, nI_clamp, nI_add, pk_sub, pk_mul, bz_nlt, bz_nle, bz_ltn, bz_len, bz_neq, bz_eqn, bz_nn, ↓reduceIte, Bool.false_eq_true, if_pos, if_neg, a3, z]
theorem xg_2 (h : aX I b K r) (hr : r ≤ 550) (hK : K < 8) (hd : d < 34) (n : Nat) (x : Int32) : rs_G0 (az_ex L xs) (n + 11) 7 (nI 2) (nI 1) x (nI d) I = some (-(ac_g0 (nI b) K x).1, tx 55 3 57 I r ([30] ++ (ac_g0 (nI b) K x).2)) := by
  rw [xf h (by omega) (by omega) (by omega) (by omega) (n + 9), show ac_at 2 1 = 2 from rfl, show ac_no 2 1 = 30 from rfl]
  have a1 := xa (L := L) (xs := xs) (I := tx 55 3 57 I r [30]) (k := 2) (u := 0) (by omega) (by decide) (n + 8) (nI 1) x (nI (d + 1))
  rw [xg_0 (h.tx [30]) (k := 0) (by dsimp only [List.length]; omega) hK (by omega) (by omega) n x] at a1
  have z : tx 55 3 57 (tx 55 3 57 I r [30]) (r + [30].length) (ac_g0 (nI b) K x).2 = tx 55 3 57 I r ([30] ++ (ac_g0 (nI b) K x).2) := by
    rw [tx_app]
  unfold rs_Bd_run
  simp (disch := omega) only [bl_lit, lgl, lgg, lgl0, lgg0, lglm, lggm, az_us, az_un, az_ue, az_urn, az_ure, bz_lit, nI_leI, nI_ltI, nI_eq, nI_clamp, nI_add, pk_sub, pk_mul, bz_nlt, bz_nle, bz_ltn, bz_len, bz_neq, bz_eqn, bz_nn, ↓reduceIte, Bool.false_eq_true, if_pos, if_neg, a1, z]
theorem xg_a (h : aX I b K r) (hr : r ≤ 500) (hk : k < 8) (hK : K < 8) (hd : d < 32) (n : Nat) (x : Int32) : rs_G0 (az_ex L xs) (n + 14) 7 (nI k) (nI 1) x (nI d) I = some ((ac_g (nI b) K k x).1, tx 55 3 57 I r (ac_g (nI b) K k x).2) := by
  by_cases q : k = 0 ∨ k = 1 ∨ k = 4 ∨ k = 6
  · rw [xg_0 h (by omega) hK q (by omega) (n + 6)]
    unfold ac_g
    rw [if_neg (by omega), if_neg (by omega), if_neg (by omega)]
  · have k4 : k = 2 ∨ (k = 3 ∨ k = 5) ∨ k = 7 := by omega
    rcases k4 with rfl | k4 | rfl
    · rw [xg_2 h (by omega) hK (by omega) (n + 3)]
      rfl
    · rw [xf h (by omega) (by omega) (by omega) (by omega) (n + 12)]
      have e : ac_at k 1 = 3 := by rcases k4 with rfl | rfl <;> rfl
      rw [e, show ac_no 3 1 = 41 from rfl]
      have a1 := xa (L := L) (xs := xs) (I := tx 55 3 57 I r [41]) (k := 3) (u := 2) (by omega) (by decide) (n + 11) (nI 1) (x + nI 1) (nI (d + 1))
      rw [xg_2 (h.tx [41]) (by dsimp only [List.length]; omega) hK (by omega) n (x + nI 1)] at a1
      have z : tx 55 3 57 (tx 55 3 57 I r [41]) (r + [41].length) ([30] ++ (ac_g0 (nI b) K (x + nI 1)).2) = tx 55 3 57 I r ([41, 30] ++ (ac_g0 (nI b) K (x + nI 1)).2) := by
        rw [← tx_app]; rfl
      unfold rs_Bd_run ac_g
      rw [if_pos k4]
      simp (disch := omega) only [bl_lit, lgl, lgg, lgl0, lgg0, lglm, lggm, az_us, az_un, az_ue, az_urn, az_ure, bz_lit, nI_leI, nI_ltI, nI_eq, nI_clamp, nI_add, pk_sub, pk_mul, bz_nlt, bz_nle, bz_ltn, bz_len, bz_neq, bz_eqn, bz_nn, ↓reduceIte, Bool.false_eq_true, if_pos, if_neg, a1, z]
    · rw [xf h (by omega) (by omega) (by omega) (by omega) (n + 12), show ac_at 7 1 = 7 from rfl, show ac_no 7 1 = 80 from rfl]
      have l0 := ac_0l (nI b) K x
      have a1 := xa (L := L) (xs := xs) (I := tx 55 3 57 I r [80]) (k := 7) (u := 4) (by omega) (by decide) (n + 11) (nI 1) x (nI (d + 1))
      rw [xg_0 (h.tx [80]) (k := 4) (by dsimp only [List.length]; omega) hK (by omega) (by omega) (n + 3) x] at a1
      have h2 := (h.tx [80]).tx (ac_g0 (nI b) K x).2
      have a3 := xo (L := L) (xs := xs) h2 (n + 11) (nI 2) (nI 2) (nI (d + 1))
      rw [xt_a h2 (by dsimp only [List.length]; omega) hK hK (by omega) (n + 3) (nI 2)] at a3
      have z : tx 55 3 57 (tx 55 3 57 (tx 55 3 57 I r [80]) (r + [80].length) (ac_g0 (nI b) K x).2) (r + [80].length + (ac_g0 (nI b) K x).2.length) (ac_t (nI b) K K (nI 2)).2 = tx 55 3 57 I r ([80] ++ (ac_g0 (nI b) K x).2 ++ (ac_t (nI b) K K (nI 2)).2) := by
        rw [tx_app, tx_app, List.length_append, Nat.add_assoc]
      unfold rs_Bd_run ac_g
      rw [if_neg (show ¬ (7 = 3 ∨ 7 = 5) by omega), if_neg (show ¬ 7 = 2 by omega), if_pos (show 7 = 7 from rfl)]
      simp (disch := omega) only [bl_lit, lgl, lgg, lgl0, lgg0, lglm, lggm, az_us, az_un, az_ue, az_urn, az_ure, bz_lit, nI_leI, nI_ltI, nI_eq, nI_clamp, nI_add, pk_sub, pk_mul, bz_nlt, bz_nle, bz_ltn, bz_len, bz_neq, bz_eqn, bz_nn, ↓reduceIte, Bool.false_eq_true, if_pos, if_neg, a1, a3, z]
theorem xr_0 (h : aX I b K r) (hr : r ≤ 400) (hK : K < 8) (hk : k < 8 ∧ k ≠ 5 ∧ k ≠ 7) (hd : d < 30) (n : Nat) (x : Int32) : rs_G0 (az_ex L xs) (n + 17) 7 (nI k) (nI 3) x (nI d) I = some ((ac_r0 (nI b) K x).1, tx 55 3 57 I r (ac_r0 (nI b) K x).2) := by
  rw [xf h (by omega) (by omega) (by omega) (by omega) (n + 15)]
  have e : ac_at k 3 = 0 := by
    have k6 : k = 0 ∨ k = 1 ∨ k = 2 ∨ k = 3 ∨ k = 4 ∨ k = 6 := by omega
    rcases k6 with rfl | rfl | rfl | rfl | rfl | rfl <;> rfl
  rw [e, show ac_no 0 3 = 2 from rfl]
  have l0 := ac_gl (nI b) K K x
  have a1 := xo (L := L) (xs := xs) (h.tx [2]) (n + 14) (nI 1) x (nI (d + 1))
  rw [xg_a (h.tx [2]) (by dsimp only [List.length]; omega) hK hK (by omega) n x] at a1
  have h2 := (h.tx [2]).tx (ac_g (nI b) K K x).2
  have a2 := xo (L := L) (xs := xs) h2 (n + 14) (nI 2) (nI 1) (nI (d + 1))
  rw [xt_a h2 (by dsimp only [List.length]; omega) hK hK (by omega) (n + 6) (nI 1)] at a2
  have z : tx 55 3 57 (tx 55 3 57 (tx 55 3 57 I r [2]) (r + [2].length) (ac_g (nI b) K K x).2) (r + [2].length + (ac_g (nI b) K K x).2.length) (ac_t (nI b) K K (nI 1)).2 = tx 55 3 57 I r ([2] ++ (ac_g (nI b) K K x).2 ++ (ac_t (nI b) K K (nI 1)).2) := by
    rw [tx_app, tx_app, List.length_append, Nat.add_assoc]
  unfold rs_Bd_run ac_r0
  simp (disch := omega) only [bl_lit, lgl, lgg, lgl0, lgg0, lglm, lggm, az_us, az_un, az_ue, az_urn, az_ure, bz_lit, nI_leI, nI_ltI, nI_eq, nI_clamp, nI_add, pk_sub, pk_mul, bz_nlt, bz_nle, bz_ltn, bz_len, bz_neq, bz_eqn, bz_nn, ↓reduceIte, Bool.false_eq_true, if_pos, if_neg, a1, a2, z]
theorem xr_a (h : aX I b K r) (hr : r ≤ 300) (hk : k < 8) (hK : K < 8) (hd : d < 28) (n : Nat) (x : Int32) : rs_G0 (az_ex L xs) (n + 20) 7 (nI k) (nI 3) x (nI d) I = some ((ac_r (nI b) K k x).1, tx 55 3 57 I r (ac_r (nI b) K k x).2) := by
  by_cases q : k ≠ 5 ∧ k ≠ 7
  · rw [xr_0 h (by omega) hK ⟨hk, q⟩ (by omega) (n + 3)]
    unfold ac_r
    rw [if_neg q.1, if_neg q.2]
  · rw [xf h (by omega) (by omega) (by omega) (by omega) (n + 18)]
    have a1 := xa (L := L) (xs := xs) (I := tx 55 3 57 I r [60]) (k := 5) (u := 3) (by omega) (by decide) (n + 17) (nI 3) x (nI (d + 1))
    have a2 := xa (L := L) (xs := xs) (I := tx 55 3 57 I r [81]) (k := 7) (u := 4) (by omega) (by decide) (n + 17) (nI 3) x (nI (d + 1))
    rw [xr_0 (h.tx [60]) (k := 3) (by dsimp only [List.length]; omega) hK (by omega) (by omega) n x] at a1
    rw [xr_0 (h.tx [81]) (k := 4) (by dsimp only [List.length]; omega) hK (by omega) (by omega) n x] at a2
    have z1 : tx 55 3 57 (tx 55 3 57 I r [60]) (r + [60].length) (ac_r0 (nI b) K x).2 = tx 55 3 57 I r ([60] ++ (ac_r0 (nI b) K x).2) := by
      rw [tx_app]
    have z2 : tx 55 3 57 (tx 55 3 57 I r [81]) (r + [81].length) (ac_r0 (nI b) K x).2 = tx 55 3 57 I r ([81] ++ (ac_r0 (nI b) K x).2) := by
      rw [tx_app]
    have k4 : k = 5 ∨ k = 7 := by omega
    unfold ac_r
    rcases k4 with rfl | rfl
    · rw [show ac_at 5 3 = 5 from rfl, show ac_no 5 3 = 60 from rfl]
      unfold rs_Bd_run
      simp (disch := omega) only [bl_lit, lgl, lgg, lgl0, lgg0, lglm, lggm, az_us, az_un, az_ue, az_urn, az_ure, bz_lit, nI_leI, nI_ltI, nI_eq, nI_clamp, nI_add, pk_sub, pk_mul, bz_nlt, bz_nle, bz_ltn, bz_len, bz_neq, bz_eqn, bz_nn, ↓reduceIte, Bool.false_eq_true, if_pos, if_neg, a1, z1]
    · rw [show ac_at 7 3 = 7 from rfl, show ac_no 7 3 = 81 from rfl]
      unfold rs_Bd_run
      simp (disch := omega) only [bl_lit, lgl, lgg, lgl0, lgg0, lglm, lggm, az_us, az_un, az_ue, az_urn, az_ure, bz_lit, nI_leI, nI_ltI, nI_eq, nI_clamp, nI_add, pk_sub, pk_mul, bz_nlt, bz_nle, bz_ltn, bz_len, bz_neq, bz_eqn, bz_nn, ↓reduceIte, Bool.false_eq_true, if_pos, if_neg, a2, z2]
end
section
variable {I : Nat → Nat → Int32} {J : Nat → Nat → Int64} {rl rd : Nat}
theorem mt_act (h : Rel I J rl rd) (L : Nat) (xs : Nat → Int32) (a b x : Int32) : mt (rs_X_act (az_ex L xs) I a b x) (fun I => rs_M_act I a b x) J rl rd := by
  unfold rs_X_act rs_M_act rs_Bd_perform
  have g := h
  obtain ⟨h1, h2, h3, h4, h5, h6, h7, h8, h9, h10, h11, h12⟩ := g
  have g11 := h11
  obtain ⟨m, r, b1, b2, b3, b4, b5, b6, b7, b8⟩ := g11
  have fin : ∀ (I2 : Nat → Nat → Int32) (l : List Nat), l.length ≤ 20 → az_fr (fun r k => (r = 55 ∧ (k = 3 ∨ k = 4)) ∨ r = 57 ∨ (r = 73 ∧ (k = 36 ∨ k = 37 ∨ k = 38)) ∨ r = 95) I I2 → I2 55 3 = nI l.length → I2 73 36 = nI l.length →
      (∀ k, k < 24 → I2 95 k = I2 57 k) → Rel I2 J rl rd := by
    intro I2 l hl hf v1 v2 v3
    refine ⟨(h1.fr (fun r k q => hf r k (by unfold S_cnt at q; (try dsimp only); omega))), (h2.fr (fun r k q => hf r k (by unfold S_hts at q; (try dsimp only); omega))), (h3.fr (fun r k q => hf r k (by unfold S_pst at q; (try dsimp only); omega))), (h4.fr (fun r k q => hf r k (by unfold S_wlk at q; (try dsimp only); omega))), (h5.fr (fun r k q => hf r k (by unfold S_std at q; (try dsimp only); omega))), (h6.fr (fun r k q => hf r k (by unfold S_led at q; (try dsimp only); omega))), (h7.fr (fun r k q => hf r k (by unfold S_tap at q; (try dsimp only); omega))), (h8.fr (fun r k q => hf r k (by unfold S_law at q; (try dsimp only); omega))), (h9.fr (fun r k q => hf r k (by unfold S_chg at q; (try dsimp only); omega))), (h10.fr (fun r k q => hf r k (by unfold S_img at q; (try dsimp only); omega))), ⟨m, l.length, b1, by omega, ?_, ?_, v1, v2, fun k hk => ?_, v3⟩, (h12.fr (fun r k q => hf r k (by unfold S_shf at q; (try dsimp only); omega)))⟩
    · rw [hf 55 1 (by (try dsimp only); omega)]; exact b3
    · rw [hf 73 33 (by (try dsimp only); omega)]; exact b4
    · rw [hf 56 k (by (try dsimp only); omega), hf 94 k (by (try dsimp only); omega)]; exact b7 k hk
  rcases ix a m (by omega) with y | ⟨y, z⟩ | ⟨j, hj, rfl⟩
  · refine ⟨nI 0, az_u I 55 3 (nI 0), az_u (az_u I 55 3 (nI 0)) 73 36 (nI 0), by simp (disch := omega) only [bl_lit, lgl, lgg, lgl0, lgg0, lglm, lggm, az_us, az_un, az_ue, az_urn, az_ure, bz_lit, nI_leI, nI_ltI, nI_eq, nI_clamp, nI_add, pk_sub, pk_mul, bz_nlt, bz_nle, bz_ltn, bz_len, bz_neq, bz_eqn, bz_nn, ↓reduceIte, Bool.false_eq_true, if_pos, if_neg, y], by simp (disch := omega) only [bl_lit, lgl, lgg, lgl0, lgg0, lglm, lggm, az_us, az_un, az_ue, az_urn, az_ure, bz_lit, nI_leI, nI_ltI, nI_eq, nI_clamp, nI_add, pk_sub, pk_mul, bz_nlt, bz_nle, bz_ltn, bz_len, bz_neq, bz_eqn, bz_nn, ↓reduceIte, Bool.false_eq_true, if_pos, if_neg, y], fin _ [] (by decide) (by refine ((az_fr.refl.u ?_).u ?_) <;> (try dsimp only) <;> omega) ?_ ?_ ?_⟩
    · simp (disch := omega) only [bl_lit, lgl, lgg, lgl0, lgg0, lglm, lggm, az_us, az_un, az_ue, az_urn, az_ure, bz_lit, nI_leI, nI_ltI, nI_eq, nI_clamp, nI_add, pk_sub, pk_mul, bz_nlt, bz_nle, bz_ltn, bz_len, bz_neq, bz_eqn, bz_nn, ↓reduceIte, Bool.false_eq_true, if_pos, if_neg]; rfl
    · simp (disch := omega) only [bl_lit, lgl, lgg, lgl0, lgg0, lglm, lggm, az_us, az_un, az_ue, az_urn, az_ure, bz_lit, nI_leI, nI_ltI, nI_eq, nI_clamp, nI_add, pk_sub, pk_mul, bz_nlt, bz_nle, bz_ltn, bz_len, bz_neq, bz_eqn, bz_nn, ↓reduceIte, Bool.false_eq_true, if_pos, if_neg]; rfl
    · intro k hk; simp (disch := omega) only [bl_lit, lgl, lgg, lgl0, lgg0, lglm, lggm, az_us, az_un, az_ue, az_urn, az_ure, bz_lit, nI_leI, nI_ltI, nI_eq, nI_clamp, nI_add, pk_sub, pk_mul, bz_nlt, bz_nle, bz_ltn, bz_len, bz_neq, bz_eqn, bz_nn, ↓reduceIte, Bool.false_eq_true, if_pos, if_neg, b8 k hk]
  · refine ⟨nI 0, az_u I 55 3 (nI 0), az_u (az_u I 55 3 (nI 0)) 73 36 (nI 0), by simp (disch := omega) only [bl_lit, lgl, lgg, lgl0, lgg0, lglm, lggm, az_us, az_un, az_ue, az_urn, az_ure, bz_lit, nI_leI, nI_ltI, nI_eq, nI_clamp, nI_add, pk_sub, pk_mul, bz_nlt, bz_nle, bz_ltn, bz_len, bz_neq, bz_eqn, bz_nn, ↓reduceIte, Bool.false_eq_true, if_pos, if_neg, y, z, b3], by simp (disch := omega) only [bl_lit, lgl, lgg, lgl0, lgg0, lglm, lggm, az_us, az_un, az_ue, az_urn, az_ure, bz_lit, nI_leI, nI_ltI, nI_eq, nI_clamp, nI_add, pk_sub, pk_mul, bz_nlt, bz_nle, bz_ltn, bz_len, bz_neq, bz_eqn, bz_nn, ↓reduceIte, Bool.false_eq_true, if_pos, if_neg, y, z, b4], fin _ [] (by decide) (by refine ((az_fr.refl.u ?_).u ?_) <;> (try dsimp only) <;> omega) ?_ ?_ ?_⟩
    · simp (disch := omega) only [bl_lit, lgl, lgg, lgl0, lgg0, lglm, lggm, az_us, az_un, az_ue, az_urn, az_ure, bz_lit, nI_leI, nI_ltI, nI_eq, nI_clamp, nI_add, pk_sub, pk_mul, bz_nlt, bz_nle, bz_ltn, bz_len, bz_neq, bz_eqn, bz_nn, ↓reduceIte, Bool.false_eq_true, if_pos, if_neg]; rfl
    · simp (disch := omega) only [bl_lit, lgl, lgg, lgl0, lgg0, lglm, lggm, az_us, az_un, az_ue, az_urn, az_ure, bz_lit, nI_leI, nI_ltI, nI_eq, nI_clamp, nI_add, pk_sub, pk_mul, bz_nlt, bz_nle, bz_ltn, bz_len, bz_neq, bz_eqn, bz_nn, ↓reduceIte, Bool.false_eq_true, if_pos, if_neg]; rfl
    · intro k hk; simp (disch := omega) only [bl_lit, lgl, lgg, lgl0, lgg0, lglm, lggm, az_us, az_un, az_ue, az_urn, az_ure, bz_lit, nI_leI, nI_ltI, nI_eq, nI_clamp, nI_add, pk_sub, pk_mul, bz_nlt, bz_nle, bz_ltn, bz_len, bz_neq, bz_eqn, bz_nn, ↓reduceIte, Bool.false_eq_true, if_pos, if_neg, b8 k hk]
  · obtain ⟨K, K1, K2, K3⟩ := b7 j hj
    have bad : (b = nI 0 ↔ False) → (b = nI 1 ↔ False) → (b = nI 2 ↔ False) → (b = nI 3 ↔ False) → (b < nI 0 ∨ ¬ b < nI 0 ∧ nI 3 < b) → mt (match (if nI j < 0 then some (0, az_u I 55 3 0) else if I 55 1 - 1 < nI j then some (0, az_u I 55 3 0) else if b < 0 then some (0, az_u I 55 3 0) else if 3 < b then some (0, az_u I 55 3 0) else match rs_G0 (az_ex L xs) 60 5 b x 0 0 (az_u (az_u I 55 3 0) 55 4 (nI j)) with
        | none => none
        | some (x_5, I_6) => some (x_5, I_6)) with
      | none => none
      | some (x_1, I_2) => some (x_1, I_2)) (fun I => rs_M_act I (nI j) b x) J rl rd := by
      intro q0 q1 q2 q3 q
      refine ⟨nI 0, az_u I 55 3 (nI 0), az_u (az_u (az_u (az_u I 55 3 (nI 0)) 73 36 (nI 0)) 73 37 (nI K)) 73 38 (nI j), ?_, ?_, fin _ [] (by decide) (by refine ((((az_fr.refl.u ?_).u ?_).u ?_).u ?_) <;> (try dsimp only) <;> omega) ?_ ?_ ?_⟩
      · rcases q with q | ⟨q, q'⟩
        · simp (disch := omega) only [bl_lit, lgl, lgg, lgl0, lgg0, lglm, lggm, az_us, az_un, az_ue, az_urn, az_ure, bz_lit, nI_leI, nI_ltI, nI_eq, nI_clamp, nI_add, pk_sub, pk_mul, bz_nlt, bz_nle, bz_ltn, bz_len, bz_neq, bz_eqn, bz_nn, ↓reduceIte, Bool.false_eq_true, if_pos, if_neg, b3, q]
        · simp (disch := omega) only [bl_lit, lgl, lgg, lgl0, lgg0, lglm, lggm, az_us, az_un, az_ue, az_urn, az_ure, bz_lit, nI_leI, nI_ltI, nI_eq, nI_clamp, nI_add, pk_sub, pk_mul, bz_nlt, bz_nle, bz_ltn, bz_len, bz_neq, bz_eqn, bz_nn, ↓reduceIte, Bool.false_eq_true, if_pos, if_neg, b3, q, q']
      · unfold rs_M_act
        simp (disch := omega) only [bl_lit, lgl, lgg, lgl0, lgg0, lglm, lggm, az_us, az_un, az_ue, az_urn, az_ure, bz_lit, nI_leI, nI_ltI, nI_eq, nI_clamp, nI_add, pk_sub, pk_mul, bz_nlt, bz_nle, bz_ltn, bz_len, bz_neq, bz_eqn, bz_nn, ↓reduceIte, Bool.false_eq_true, if_pos, if_neg, b4, K3, q0, q1, q2, q3]
      · simp (disch := omega) only [bl_lit, lgl, lgg, lgl0, lgg0, lglm, lggm, az_us, az_un, az_ue, az_urn, az_ure, bz_lit, nI_leI, nI_ltI, nI_eq, nI_clamp, nI_add, pk_sub, pk_mul, bz_nlt, bz_nle, bz_ltn, bz_len, bz_neq, bz_eqn, bz_nn, ↓reduceIte, Bool.false_eq_true, if_pos, if_neg]; rfl
      · simp (disch := omega) only [bl_lit, lgl, lgg, lgl0, lgg0, lglm, lggm, az_us, az_un, az_ue, az_urn, az_ure, bz_lit, nI_leI, nI_ltI, nI_eq, nI_clamp, nI_add, pk_sub, pk_mul, bz_nlt, bz_nle, bz_ltn, bz_len, bz_neq, bz_eqn, bz_nn, ↓reduceIte, Bool.false_eq_true, if_pos, if_neg]; rfl
      · intro k hk; simp (disch := omega) only [bl_lit, lgl, lgg, lgl0, lgg0, lglm, lggm, az_us, az_un, az_ue, az_urn, az_ure, bz_lit, nI_leI, nI_ltI, nI_eq, nI_clamp, nI_add, pk_sub, pk_mul, bz_nlt, bz_nle, bz_ltn, bz_len, bz_neq, bz_eqn, bz_nn, ↓reduceIte, Bool.false_eq_true, if_pos, if_neg, b8 k hk]
    have good : ∀ (aN : Nat) (v : Int32) (l : List Nat), aN < 4 → b = nI aN → l.length ≤ 20 →
        (∀ I, aX I j K 0 → rs_G0 (az_ex L xs) 59 7 (nI K) (nI aN) x (nI 0) I = some (v, tx 55 3 57 I 0 l)) → (∀ I, aM I j K 0 → rs_G4 60 (239 + aN) (nI K) x (nI 0) (nI 0) I = some (v, tx 73 36 95 I 0 l)) →
        ∃ v I1 I2, (match (if nI j < 0 then some (0, az_u I 55 3 0) else if I 55 1 - 1 < nI j then some (0, az_u I 55 3 0) else if b < 0 then some (0, az_u I 55 3 0) else if 3 < b then some (0, az_u I 55 3 0) else match rs_G0 (az_ex L xs) 60 5 b x 0 0 (az_u (az_u I 55 3 0) 55 4 (nI j)) with
        | none => none
        | some (x_5, I_6) => some (x_5, I_6)) with
      | none => none
      | some (x_1, I_2) => some (x_1, I_2)) = some (v, I1) ∧ rs_M_act I1 (nI j) b x = some (v, I2) ∧ Rel I2 J rl rd := by
      intro aN v l haN hb hl hX hM
      subst hb
      have aX0 : aX (az_u (az_u I 55 3 (nI 0)) 55 4 (nI j)) j K 0 := ⟨by simp (disch := omega) only [bl_lit, lgl, lgg, lgl0, lgg0, lglm, lggm, az_us, az_un, az_ue, az_urn, az_ure, bz_lit, nI_leI, nI_ltI, nI_eq, nI_clamp, nI_add, pk_sub, pk_mul, bz_nlt, bz_nle, bz_ltn, bz_len, bz_neq, bz_eqn, bz_nn, ↓reduceIte, Bool.false_eq_true, if_pos, if_neg], by omega, by simp (disch := omega) only [bl_lit, lgl, lgg, lgl0, lgg0, lglm, lggm, az_us, az_un, az_ue, az_urn, az_ure, bz_lit, nI_leI, nI_ltI, nI_eq, nI_clamp, nI_add, pk_sub, pk_mul, bz_nlt, bz_nle, bz_ltn, bz_len, bz_neq, bz_eqn, bz_nn, ↓reduceIte, Bool.false_eq_true, if_pos, if_neg, K2], by simp (disch := omega) only [bl_lit, lgl, lgg, lgl0, lgg0, lglm, lggm, az_us, az_un, az_ue, az_urn, az_ure, bz_lit, nI_leI, nI_ltI, nI_eq, nI_clamp, nI_add, pk_sub, pk_mul, bz_nlt, bz_nle, bz_ltn, bz_len, bz_neq, bz_eqn, bz_nn, ↓reduceIte, Bool.false_eq_true, if_pos, if_neg]⟩
      have x1 := xo (L := L) (xs := xs) aX0 59 (nI aN) x (nI 0)
      rw [hX _ aX0] at x1
      generalize hI1 : tx 55 3 57 (az_u (az_u I 55 3 (nI 0)) 55 4 (nI j)) 0 l = I1 at x1
      have f1 : az_fr (fun r k => (r = 55 ∧ (k = 3 ∨ k = 4)) ∨ r = 57) I I1 := by
        rw [← hI1]
        refine az_fr.trans (by refine ((az_fr.refl.u ?_).u ?_) <;> (try dsimp only) <;> omega) ((tx_fr l _ 0).mono (fun r k q => by (try dsimp only at q ⊢); omega))
      have aM0 : aM (az_u (az_u (az_u I1 73 36 (nI 0)) 73 37 (nI K)) 73 38 (nI j)) j K 0 := ⟨by simp (disch := omega) only [bl_lit, lgl, lgg, lgl0, lgg0, lglm, lggm, az_us, az_un, az_ue, az_urn, az_ure, bz_lit, nI_leI, nI_ltI, nI_eq, nI_clamp, nI_add, pk_sub, pk_mul, bz_nlt, bz_nle, bz_ltn, bz_len, bz_neq, bz_eqn, bz_nn, ↓reduceIte, Bool.false_eq_true, if_pos, if_neg], by simp (disch := omega) only [bl_lit, lgl, lgg, lgl0, lgg0, lglm, lggm, az_us, az_un, az_ue, az_urn, az_ure, bz_lit, nI_leI, nI_ltI, nI_eq, nI_clamp, nI_add, pk_sub, pk_mul, bz_nlt, bz_nle, bz_ltn, bz_len, bz_neq, bz_eqn, bz_nn, ↓reduceIte, Bool.false_eq_true, if_pos, if_neg], by simp (disch := omega) only [bl_lit, lgl, lgg, lgl0, lgg0, lglm, lggm, az_us, az_un, az_ue, az_urn, az_ure, bz_lit, nI_leI, nI_ltI, nI_eq, nI_clamp, nI_add, pk_sub, pk_mul, bz_nlt, bz_nle, bz_ltn, bz_len, bz_neq, bz_eqn, bz_nn, ↓reduceIte, Bool.false_eq_true, if_pos, if_neg]⟩
      have m1 := hM _ aM0
      generalize hI2 : tx 73 36 95 (az_u (az_u (az_u I1 73 36 (nI 0)) 73 37 (nI K)) 73 38 (nI j)) 0 l = I2 at m1
      have f2 : az_fr (fun r k => (r = 73 ∧ (k = 36 ∨ k = 37 ∨ k = 38)) ∨ r = 95) I1 I2 := by
        rw [← hI2]
        refine az_fr.trans (by refine (((az_fr.refl.u ?_).u ?_).u ?_) <;> (try dsimp only) <;> omega) ((tx_fr l _ 0).mono (fun r k q => by (try dsimp only at q ⊢); omega))
      refine ⟨v, I1, I2, ?_, ?_, fin I2 l hl ((f1.mono (fun r k q => by (try dsimp only at q ⊢); omega)).trans (f2.mono (fun r k q => by (try dsimp only at q ⊢); omega))) ?_ ?_ ?_⟩
      · simp (disch := omega) only [bl_lit, lgl, lgg, lgl0, lgg0, lglm, lggm, az_us, az_un, az_ue, az_urn, az_ure, bz_lit, nI_leI, nI_ltI, nI_eq, nI_clamp, nI_add, pk_sub, pk_mul, bz_nlt, bz_nle, bz_ltn, bz_len, bz_neq, bz_eqn, bz_nn, ↓reduceIte, Bool.false_eq_true, if_pos, if_neg, b3, x1]
      · have b4' : I1 73 33 = nI m := by rw [f1 73 33 (by (try dsimp only); omega)]; exact b4
        have K3' : I1 94 j = nI K := by rw [f1 94 j (by (try dsimp only); omega)]; exact K3
        unfold rs_M_act
        have a4 : aN = 0 ∨ aN = 1 ∨ aN = 2 ∨ aN = 3 := by omega
        rcases a4 with rfl | rfl | rfl | rfl
        · simp (disch := omega) only [bl_lit, lgl, lgg, lgl0, lgg0, lglm, lggm, az_us, az_un, az_ue, az_urn, az_ure, bz_lit, nI_leI, nI_ltI, nI_eq, nI_clamp, nI_add, pk_sub, pk_mul, bz_nlt, bz_nle, bz_ltn, bz_len, bz_neq, bz_eqn, bz_nn, ↓reduceIte, Bool.false_eq_true, if_pos, if_neg, b4', K3', m1]
        · simp (disch := omega) only [bl_lit, lgl, lgg, lgl0, lgg0, lglm, lggm, az_us, az_un, az_ue, az_urn, az_ure, bz_lit, nI_leI, nI_ltI, nI_eq, nI_clamp, nI_add, pk_sub, pk_mul, bz_nlt, bz_nle, bz_ltn, bz_len, bz_neq, bz_eqn, bz_nn, ↓reduceIte, Bool.false_eq_true, if_pos, if_neg, b4', K3', m1]
        · simp (disch := omega) only [bl_lit, lgl, lgg, lgl0, lgg0, lglm, lggm, az_us, az_un, az_ue, az_urn, az_ure, bz_lit, nI_leI, nI_ltI, nI_eq, nI_clamp, nI_add, pk_sub, pk_mul, bz_nlt, bz_nle, bz_ltn, bz_len, bz_neq, bz_eqn, bz_nn, ↓reduceIte, Bool.false_eq_true, if_pos, if_neg, b4', K3', m1]
        · simp (disch := omega) only [bl_lit, lgl, lgg, lgl0, lgg0, lglm, lggm, az_us, az_un, az_ue, az_urn, az_ure, bz_lit, nI_leI, nI_ltI, nI_eq, nI_clamp, nI_add, pk_sub, pk_mul, bz_nlt, bz_nle, bz_ltn, bz_len, bz_neq, bz_eqn, bz_nn, ↓reduceIte, Bool.false_eq_true, if_pos, if_neg, b4', K3', m1]
      · rw [f2 55 3 (by (try dsimp only); omega), ← hI1, tx_r (by omega) l _ 0 (by simp (disch := omega) only [bl_lit, lgl, lgg, lgl0, lgg0, lglm, lggm, az_us, az_un, az_ue, az_urn, az_ure, bz_lit, nI_leI, nI_ltI, nI_eq, nI_clamp, nI_add, pk_sub, pk_mul, bz_nlt, bz_nle, bz_ltn, bz_len, bz_neq, bz_eqn, bz_nn, ↓reduceIte, Bool.false_eq_true, if_pos, if_neg]), Nat.zero_add]
      · rw [← hI2, tx_r (by omega) l _ 0 (by simp (disch := omega) only [bl_lit, lgl, lgg, lgl0, lgg0, lglm, lggm, az_us, az_un, az_ue, az_urn, az_ure, bz_lit, nI_leI, nI_ltI, nI_eq, nI_clamp, nI_add, pk_sub, pk_mul, bz_nlt, bz_nle, bz_ltn, bz_len, bz_neq, bz_eqn, bz_nn, ↓reduceIte, Bool.false_eq_true, if_pos, if_neg]), Nat.zero_add]
      · intro k hk
        rw [f2 57 k (by (try dsimp only); omega), ← hI2, ← hI1, tx_get (by omega) k hk, tx_get (by omega) k hk, hI1]
        have e1 : az_u (az_u (az_u I1 73 36 (nI 0)) 73 37 (nI K)) 73 38 (nI j) 95 k = I 95 k := by
          simp (disch := omega) only [bl_lit, lgl, lgg, lgl0, lgg0, lglm, lggm, az_us, az_un, az_ue, az_urn, az_ure, bz_lit, nI_leI, nI_ltI, nI_eq, nI_clamp, nI_add, pk_sub, pk_mul, bz_nlt, bz_nle, bz_ltn, bz_len, bz_neq, bz_eqn, bz_nn, ↓reduceIte, Bool.false_eq_true, if_pos, if_neg]
          exact f1 95 k (by (try dsimp only); omega)
        have e2 : az_u (az_u I 55 3 (nI 0)) 55 4 (nI j) 57 k = I 57 k := by simp (disch := omega) only [bl_lit, lgl, lgg, lgl0, lgg0, lglm, lggm, az_us, az_un, az_ue, az_urn, az_ure, bz_lit, nI_leI, nI_ltI, nI_eq, nI_clamp, nI_add, pk_sub, pk_mul, bz_nlt, bz_nle, bz_ltn, bz_len, bz_neq, bz_eqn, bz_nn, ↓reduceIte, Bool.false_eq_true, if_pos, if_neg]
        rw [e1, e2, b8 k hk]
    rcases ixc b 3 (by omega) with y | ⟨y, z⟩ | ⟨aN, haN, hb⟩
    · exact bad (bz_neL y (by omega)) (bz_neL y (by omega)) (bz_neL y (by omega)) (bz_neL y (by omega)) (Or.inl y)
    · exact bad (bz_neG z (by omega) (by omega)) (bz_neG z (by omega) (by omega)) (bz_neG z (by omega) (by omega)) (bz_neG z (by omega) (by omega)) (Or.inr ⟨y, z⟩)
    · have a4 : aN = 0 ∨ aN = 1 ∨ aN = 2 ∨ aN = 3 := by omega
      rcases a4 with rfl | rfl | rfl | rfl
      · exact good 0 (ac_p (nI j) K x).1 (ac_p (nI j) K x).2 (by omega) hb (by have := ac_pl (nI j) K x; omega) (fun I h => xp_a h (by omega) K1 (by omega) 54 x) (fun I h => mp_a h (by omega) K1 58 x)
      · exact good 1 (ac_g (nI j) K K x).1 (ac_g (nI j) K K x).2 (by omega) hb (by have := ac_gl (nI j) K K x; omega) (fun I h => xg_a h (by omega) K1 K1 (by omega) 45 x) (fun I h => mg_a h (by omega) K1 K1 55 x)
      · exact good 2 (ac_t (nI j) K K x).1 (ac_t (nI j) K K x).2 (by omega) hb (by have := ac_tl (nI j) K K x; omega) (fun I h => xt_a h (by omega) K1 K1 (by omega) 51 x) (fun I h => mt_a h (by omega) K1 K1 57 x)
      · exact good 3 (ac_r (nI j) K K x).1 (ac_r (nI j) K K x).2 (by omega) hb (by have := ac_rl (nI j) K K x; omega) (fun I h => xr_a h (by omega) K1 K1 (by omega) 39 x) (fun I h => mr_a h (by omega) K1 K1 53 x)
end

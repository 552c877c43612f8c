/-! act -/
def tx (a b c : Nat) : (Nat → Nat → Int32) → Nat → List Nat → (Nat → Nat → Int32)
  | I, _, [] => I
  | I, r, x :: l => tx a b c (if 24 ≤ r then az_u I a b (nI (r + 1)) else az_u (az_u I c r (nI x)) a b (nI (r + 1))) (r + 1) l
theorem tx_app {a b c : Nat} : ∀ (l m : List Nat) (I : Nat → Nat → Int32) (r : Nat), tx a b c I r (l ++ m) = tx a b c (tx a b c I r l) (r + l.length) m
  | [], _, _, _ => rfl
  | x :: l, m, I, r => by
    show tx a b c _ (r + 1) (l ++ m) = tx a b c (tx a b c _ (r + 1) l) _ m
    rw [tx_app l m, List.length_cons, show r + (l.length + 1) = r + 1 + l.length from by omega]
theorem tx_fr {a b c : Nat} : ∀ (l : List Nat) (I : Nat → Nat → Int32) (r : Nat), az_fr (fun r k => (r = a ∧ k = b) ∨ r = c) I (tx a b c I r l)
  | [], _, _ => az_fr.refl
  | x :: l, I, r => by
    refine az_fr.trans ?_ (tx_fr l _ (r + 1))
    by_cases h : 24 ≤ r
    · rw [if_pos h]
      exact az_fr.refl.u (Or.inl ⟨rfl, rfl⟩)
    · rw [if_neg h]
      exact (az_fr.refl.u (Or.inr rfl)).u (Or.inl ⟨rfl, rfl⟩)
theorem tx_r {a b c : Nat} (hac : a ≠ c) : ∀ (l : List Nat) (I : Nat → Nat → Int32) (r : Nat), I a b = nI r → tx a b c I r l a b = nI (r + l.length)
  | [], _, _, h => h
  | x :: l, I, r, h => by
    show tx a b c _ (r + 1) l a b = _
    rw [tx_r hac l _ (r + 1), List.length_cons, show r + (l.length + 1) = r + 1 + l.length from by omega]
    by_cases h : 24 ≤ r
    · rw [if_pos h]; exact az_us
    · rw [if_neg h]; exact az_us
theorem tx_get {a b c : Nat} (hac : a ≠ c) (k : Nat) (hk : k < 24) : ∀ (l : List Nat) (I : Nat → Nat → Int32) (r : Nat), tx a b c I r l c k = if r ≤ k ∧ k < r + l.length then nI (l.getD (k - r) 0) else I c k
  | [], _, r => by
    rw [if_neg (by rw [List.length_nil]; omega)]
    rfl
  | x :: l, I, r => by
    show tx a b c _ (r + 1) l c k = _
    rw [tx_get hac k hk l _ (r + 1), List.length_cons]
    by_cases e : k = r
    · subst e
      have c1 : ¬ (k + 1 ≤ k ∧ k < k + 1 + l.length) := by omega
      have c2 : k ≤ k ∧ k < k + (l.length + 1) := by omega
      have c3 : ¬ 24 ≤ k := by omega
      rw [if_neg c1, if_pos c2, if_neg c3, Nat.sub_self, az_un (by omega), az_us]
      rfl
    · by_cases q : r + 1 ≤ k ∧ k < r + 1 + l.length
      · have c2 : r ≤ k ∧ k < r + (l.length + 1) := by omega
        rw [if_pos q, if_pos c2, show k - r = (k - (r + 1)) + 1 from by omega]
        rfl
      · have c2 : ¬ (r ≤ k ∧ k < r + (l.length + 1)) := by omega
        rw [if_neg q, if_neg c2]
        by_cases h : 24 ≤ r
        · rw [if_pos h, az_un (by omega)]
        · rw [if_neg h, az_un (by omega), az_un (by omega)]
/-! what the acts give, and their traces -/
def ac_p (B : Int32) (k : Nat) (x : Int32) : Int32 × List Nat := if k = 1 ∨ k = 4 ∨ k = 7 then (x + B + nI 3, [20, 1]) else if k = 6 then ((x + B) * nI 2, [70, 1]) else (x + B, [1])
def ac_t (B : Int32) (K k : Nat) (x : Int32) : Int32 × List Nat := if k = 3 ∨ k = 5 then ((x ^^^ B) * nI 3, [40, 11]) else if k = 4 ∨ k = 7 then ((x ^^^ B) - (ac_p B K (nI 2)).1, [50, 11] ++ (ac_p B K (nI 2)).2) else (x ^^^ B, [11])
def ac_g0 (B : Int32) (K : Nat) (x : Int32) : Int32 × List Nat := ((ac_p B K x).1 * nI 2, [10] ++ (ac_p B K x).2)
def ac_g (B : Int32) (K k : Nat) (x : Int32) : Int32 × List Nat := if k = 3 ∨ k = 5 then (-(ac_g0 B K (x + nI 1)).1, [41, 30] ++ (ac_g0 B K (x + nI 1)).2) else if k = 2 then (-(ac_g0 B K x).1, [30] ++ (ac_g0 B K x).2) else if k = 7 then ((ac_g0 B K x).1 + (ac_t B K K (nI 2)).1, [80] ++ (ac_g0 B K x).2 ++ (ac_t B K K (nI 2)).2) else ac_g0 B K x
def ac_r0 (B : Int32) (K : Nat) (x : Int32) : Int32 × List Nat := ((ac_g B K K x).1 - (ac_t B K K (nI 1)).1, [2] ++ (ac_g B K K x).2 ++ (ac_t B K K (nI 1)).2)
def ac_r (B : Int32) (K k : Nat) (x : Int32) : Int32 × List Nat := if k = 5 then ((ac_r0 B K x).1 ^^^ nI 5, [60] ++ (ac_r0 B K x).2) else if k = 7 then ((ac_r0 B K x).1 - nI 1, [81] ++ (ac_r0 B K x).2) else ac_r0 B K x
theorem ac_pl (B : Int32) (k : Nat) (x : Int32) : (ac_p B k x).2.length ≤ 2 := by
  unfold ac_p
  split
  · exact Nat.le_refl 2
  · split
    · exact Nat.le_refl 2
    · exact Nat.le_succ 1
theorem ac_tl (B : Int32) (K k : Nat) (x : Int32) : (ac_t B K k x).2.length ≤ 4 := by
  have := ac_pl B K (nI 2)
  unfold ac_t
  split
  · dsimp only [List.length]; omega
  · split
    · rw [List.length_append]; dsimp only [List.length]; omega
    · dsimp only [List.length]; omega
theorem ac_0l (B : Int32) (K : Nat) (x : Int32) : (ac_g0 B K x).2.length ≤ 3 := by
  have := ac_pl B K x
  unfold ac_g0
  rw [List.length_append]; dsimp only [List.length]; omega
theorem ac_gl (B : Int32) (K k : Nat) (x : Int32) : (ac_g B K k x).2.length ≤ 8 := by
  have a := ac_0l B K x
  have b := ac_0l B K (x + nI 1)
  have c := ac_tl B K K (nI 2)
  unfold ac_g
  split
  · rw [List.length_append]; dsimp only [List.length]; omega
  · split
    · rw [List.length_append]; dsimp only [List.length]; omega
    · split
      · rw [List.length_append, List.length_append]; dsimp only [List.length]; omega
      · omega
theorem ac_0r (B : Int32) (K : Nat) (x : Int32) : (ac_r0 B K x).2.length ≤ 13 := by
  have a := ac_gl B K K x
  have c := ac_tl B K K (nI 1)
  unfold ac_r0
  rw [List.length_append, List.length_append]; dsimp only [List.length]; omega
theorem ac_rl (B : Int32) (K k : Nat) (x : Int32) : (ac_r B K k x).2.length ≤ 14 := by
  have a := ac_0r B K x
  unfold ac_r
  split
  · rw [List.length_append]; dsimp only [List.length]; omega
  · split
    · rw [List.length_append]; dsimp only [List.length]; omega
    · omega
/-! the reference -/
def aM (I : Nat → Nat → Int32) (b K r : Nat) : Prop := I 73 37 = nI K ∧ I 73 38 = nI b ∧ I 73 36 = nI r
theorem aM.tx {I : Nat → Nat → Int32} {b K r : Nat} (h : aM I b K r) (l : List Nat) : aM (tx 73 36 95 I r l) b K (r + l.length) :=
  ⟨by rw [tx_fr l I r 73 37 (by (try dsimp only); omega)]; exact h.1, by rw [tx_fr l I r 73 38 (by (try dsimp only); omega)]; exact h.2.1, tx_r (by omega) l I r h.2.2⟩
theorem mr_1 {I : Nat → Nat → Int32} {b K r : Nat} (h : aM I b K r) (hr : r ≤ 900) (x : Nat) : rs_M_runs I (nI x) = some (tx 73 36 95 I r [x]) := by
  unfold rs_M_runs
  by_cases q : 24 ≤ r
  · simp (disch := omega) only [bl_lit, lgl, lgg, lgl0, lgg0, lglm, lggm, az_us, az_un, az_ue, az_urn, az_ure, bz_lit, nI_leI, nI_ltI, nI_eq, nI_clamp, nI_add, pk_sub, pk_mul, bz_nlt, bz_nle, bz_ltn, bz_len, bz_neq, bz_eqn, bz_nn, ↓reduceIte, Bool.false_eq_true, if_pos, if_neg, h.2.2]
    show _ = some (if 24 ≤ r then _ else _)
    rw [if_pos q]
  · simp (disch := omega) only [bl_lit, lgl, lgg, lgl0, lgg0, lglm, lggm, az_us, az_un, az_ue, az_urn, az_ure, bz_lit, nI_leI, nI_ltI, nI_eq, nI_clamp, nI_add, pk_sub, pk_mul, bz_nlt, bz_nle, bz_ltn, bz_len, bz_neq, bz_eqn, bz_nn, ↓reduceIte, Bool.false_eq_true, if_pos, if_neg, h.2.2]
    show _ = some (if 24 ≤ r then _ else _)
    rw [if_neg q]
theorem mp_0 {I : Nat → Nat → Int32} {b K r k : Nat} (h : aM I b K r) (hr : r ≤ 800) (hk : k = 0 ∨ k = 2 ∨ k = 3 ∨ k = 5) (n : Nat) (x : Int32) : rs_G4 (n + 1) 239 (nI k) x (nI 0) (nI 0) I = some (x + nI b, tx 73 36 95 I r [1]) := by
  show rs_M_pointsAs (rs_G4 n) I (nI k) x = _
  unfold rs_M_pointsAs
  have e := (h.tx [1]).2.1
  have r1 := mr_1 h (by omega) 1
  rcases hk with rfl | rfl | rfl | rfl
  · simp (disch := omega) only [bl_lit, lgl, lgg, lgl0, lgg0, lglm, lggm, az_us, az_un, az_ue, az_urn, az_ure, bz_lit, nI_leI, nI_ltI, nI_eq, nI_clamp, nI_add, pk_sub, pk_mul, bz_nlt, bz_nle, bz_ltn, bz_len, bz_neq, bz_eqn, bz_nn, ↓reduceIte, Bool.false_eq_true, if_pos, if_neg, r1, e]
  · simp (disch := omega) only [bl_lit, lgl, lgg, lgl0, lgg0, lglm, lggm, az_us, az_un, az_ue, az_urn, az_ure, bz_lit, nI_leI, nI_ltI, nI_eq, nI_clamp, nI_add, pk_sub, pk_mul, bz_nlt, bz_nle, bz_ltn, bz_len, bz_neq, bz_eqn, bz_nn, ↓reduceIte, Bool.false_eq_true, if_pos, if_neg, r1, e]
  · simp (disch := omega) only [bl_lit, lgl, lgg, lgl0, lgg0, lglm, lggm, az_us, az_un, az_ue, az_urn, az_ure, bz_lit, nI_leI, nI_ltI, nI_eq, nI_clamp, nI_add, pk_sub, pk_mul, bz_nlt, bz_nle, bz_ltn, bz_len, bz_neq, bz_eqn, bz_nn, ↓reduceIte, Bool.false_eq_true, if_pos, if_neg, r1, e]
  · simp (disch := omega) only [bl_lit, lgl, lgg, lgl0, lgg0, lglm, lggm, az_us, az_un, az_ue, az_urn, az_ure, bz_lit, nI_leI, nI_ltI, nI_eq, nI_clamp, nI_add, pk_sub, pk_mul, bz_nlt, bz_nle, bz_ltn, bz_len, bz_neq, bz_eqn, bz_nn, ↓reduceIte, Bool.false_eq_true, if_pos, if_neg, r1, e]
theorem mp_a {I : Nat → Nat → Int32} {b K r k : Nat} (h : aM I b K r) (hr : r ≤ 700) (hk : k < 8) (n : Nat) (x : Int32) : rs_G4 (n + 2) 239 (nI k) x (nI 0) (nI 0) I = some ((ac_p (nI b) k x).1, tx 73 36 95 I r (ac_p (nI b) k x).2) := by
  by_cases q : k = 0 ∨ k = 2 ∨ k = 3 ∨ k = 5
  · rw [mp_0 h (by omega) q]
    unfold ac_p
    rw [if_neg (by omega), if_neg (by omega)]
  · show rs_M_pointsAs (rs_G4 (n + 1)) I (nI k) x = _
    unfold rs_M_pointsAs rs_M_pointsAs_16 ac_p
    have r1 := mr_1 h (by omega) 20
    have r2 := mr_1 h (by omega) 70
    have s1 := mp_0 (h.tx [20]) (k := 0) (by dsimp only [List.length]; omega) (by omega) n x
    have s2 := mp_0 (h.tx [70]) (k := 0) (by dsimp only [List.length]; omega) (by omega) n x
    have k4 : k = 1 ∨ k = 4 ∨ k = 6 ∨ k = 7 := by omega
    rcases k4 with rfl | rfl | rfl | rfl
    · simp (disch := omega) only [bl_lit, lgl, lgg, lgl0, lgg0, lglm, lggm, az_us, az_un, az_ue, az_urn, az_ure, bz_lit, nI_leI, nI_ltI, nI_eq, nI_clamp, nI_add, pk_sub, pk_mul, bz_nlt, bz_nle, bz_ltn, bz_len, bz_neq, bz_eqn, bz_nn, ↓reduceIte, Bool.false_eq_true, if_pos, if_neg, r1, s1]
      rfl
    · simp (disch := omega) only [bl_lit, lgl, lgg, lgl0, lgg0, lglm, lggm, az_us, az_un, az_ue, az_urn, az_ure, bz_lit, nI_leI, nI_ltI, nI_eq, nI_clamp, nI_add, pk_sub, pk_mul, bz_nlt, bz_nle, bz_ltn, bz_len, bz_neq, bz_eqn, bz_nn, ↓reduceIte, Bool.false_eq_true, if_pos, if_neg, r1, s1]
      rfl
    · simp (disch := omega) only [bl_lit, lgl, lgg, lgl0, lgg0, lglm, lggm, az_us, az_un, az_ue, az_urn, az_ure, bz_lit, nI_leI, nI_ltI, nI_eq, nI_clamp, nI_add, pk_sub, pk_mul, bz_nlt, bz_nle, bz_ltn, bz_len, bz_neq, bz_eqn, bz_nn, ↓reduceIte, Bool.false_eq_true, if_pos, if_neg, r2, s2]
      rfl
    · simp (disch := omega) only [bl_lit, lgl, lgg, lgl0, lgg0, lglm, lggm, az_us, az_un, az_ue, az_urn, az_ure, bz_lit, nI_leI, nI_ltI, nI_eq, nI_clamp, nI_add, pk_sub, pk_mul, bz_nlt, bz_nle, bz_ltn, bz_len, bz_neq, bz_eqn, bz_nn, ↓reduceIte, Bool.false_eq_true, if_pos, if_neg, r1, s1]
      rfl
theorem mt_0 {I : Nat → Nat → Int32} {b K r k : Nat} (h : aM I b K r) (hr : r ≤ 800) (hk : k = 0 ∨ k = 1 ∨ k = 2 ∨ k = 6) (n : Nat) (x : Int32) : rs_G4 (n + 1) 241 (nI k) x (nI 0) (nI 0) I = some (x ^^^ nI b, tx 73 36 95 I r [11]) := by
  show rs_M_turnsAs (rs_G4 n) I (nI k) x = _
  unfold rs_M_turnsAs
  have e := (h.tx [11]).2.1
  have r1 := mr_1 h (by omega) 11
  rcases hk with rfl | rfl | rfl | rfl
  · simp (disch := omega) only [bl_lit, lgl, lgg, lgl0, lgg0, lglm, lggm, az_us, az_un, az_ue, az_urn, az_ure, bz_lit, nI_leI, nI_ltI, nI_eq, nI_clamp, nI_add, pk_sub, pk_mul, bz_nlt, bz_nle, bz_ltn, bz_len, bz_neq, bz_eqn, bz_nn, ↓reduceIte, Bool.false_eq_true, if_pos, if_neg, r1, e]
  · simp (disch := omega) only [bl_lit, lgl, lgg, lgl0, lgg0, lglm, lggm, az_us, az_un, az_ue, az_urn, az_ure, bz_lit, nI_leI, nI_ltI, nI_eq, nI_clamp, nI_add, pk_sub, pk_mul, bz_nlt, bz_nle, bz_ltn, bz_len, bz_neq, bz_eqn, bz_nn, ↓reduceIte, Bool.false_eq_true, if_pos, if_neg, r1, e]
  · simp (disch := omega) only [bl_lit, lgl, lgg, lgl0, lgg0, lglm, lggm, az_us, az_un, az_ue, az_urn, az_ure, bz_lit, nI_leI, nI_ltI, nI_eq, nI_clamp, nI_add, pk_sub, pk_mul, bz_nlt, bz_nle, bz_ltn, bz_len, bz_neq, bz_eqn, bz_nn, ↓reduceIte, Bool.false_eq_true, if_pos, if_neg, r1, e]
  · simp (disch := omega) only [bl_lit, lgl, lgg, lgl0, lgg0, lglm, lggm, az_us, az_un, az_ue, az_urn, az_ure, bz_lit, nI_leI, nI_ltI, nI_eq, nI_clamp, nI_add, pk_sub, pk_mul, bz_nlt, bz_nle, bz_ltn, bz_len, bz_neq, bz_eqn, bz_nn, ↓reduceIte, Bool.false_eq_true, if_pos, if_neg, r1, e]
theorem mt_a {I : Nat → Nat → Int32} {b K r k : Nat} (h : aM I b K r) (hr : r ≤ 600) (hk : k < 8) (hK : K < 8) (n : Nat) (x : Int32) : rs_G4 (n + 3) 241 (nI k) x (nI 0) (nI 0) I = some ((ac_t (nI b) K k x).1, tx 73 36 95 I r (ac_t (nI b) K k x).2) := by
  by_cases q : k = 0 ∨ k = 1 ∨ k = 2 ∨ k = 6
  · rw [mt_0 h (by omega) q]
    unfold ac_t
    rw [if_neg (by omega), if_neg (by omega)]
  · show rs_M_turnsAs (rs_G4 (n + 2)) I (nI k) x = _
    unfold rs_M_turnsAs rs_M_turnsAs_10 rs_M_turnsAs_36 ac_t
    have r1 := mr_1 h (by omega) 40
    have r2 := mr_1 h (by omega) 50
    have s1 := mt_0 (h.tx [40]) (k := 2) (by dsimp only [List.length]; omega) (by omega) (n + 1) x
    have s2 := mt_0 (h.tx [50]) (k := 1) (by dsimp only [List.length]; omega) (by omega) (n + 1) x
    have h2 := (h.tx [50]).tx [11]
    have s3 := mp_a h2 (by dsimp only [List.length]; omega) hK n (nI 2)
    have e := h2.1
    have z : tx 73 36 95 (tx 73 36 95 (tx 73 36 95 I r [50]) (r + [50].length) [11]) (r + [50].length + [11].length) (ac_p (nI b) K (nI 2)).2 = tx 73 36 95 I r ([50, 11] ++ (ac_p (nI b) K (nI 2)).2) := by
      rw [tx_app]; rfl
    have k4 : k = 3 ∨ k = 4 ∨ k = 5 ∨ k = 7 := by omega
    rcases k4 with rfl | rfl | rfl | rfl
    · simp (disch := omega) only [bl_lit, lgl, lgg, lgl0, lgg0, lglm, lggm, az_us, az_un, az_ue, az_urn, az_ure, bz_lit, nI_leI, nI_ltI, nI_eq, nI_clamp, nI_add, pk_sub, pk_mul, bz_nlt, bz_nle, bz_ltn, bz_len, bz_neq, bz_eqn, bz_nn, ↓reduceIte, Bool.false_eq_true, if_pos, if_neg, r1, s1]
      rfl
    · simp (disch := omega) only [bl_lit, lgl, lgg, lgl0, lgg0, lglm, lggm, az_us, az_un, az_ue, az_urn, az_ure, bz_lit, nI_leI, nI_ltI, nI_eq, nI_clamp, nI_add, pk_sub, pk_mul, bz_nlt, bz_nle, bz_ltn, bz_len, bz_neq, bz_eqn, bz_nn, ↓reduceIte, Bool.false_eq_true, if_pos, if_neg, r2, s2, e, s3, z]
      rfl
    · simp (disch := omega) only [bl_lit, lgl, lgg, lgl0, lgg0, lglm, lggm, az_us, az_un, az_ue, az_urn, az_ure, bz_lit, nI_leI, nI_ltI, nI_eq, nI_clamp, nI_add, pk_sub, pk_mul, bz_nlt, bz_nle, bz_ltn, bz_len, bz_neq, bz_eqn, bz_nn, ↓reduceIte, Bool.false_eq_true, if_pos, if_neg, r1, s1]
      rfl
    · simp (disch := omega) only [bl_lit, lgl, lgg, lgl0, lgg0, lglm, lggm, az_us, az_un, az_ue, az_urn, az_ure, bz_lit, nI_leI, nI_ltI, nI_eq, nI_clamp, nI_add, pk_sub, pk_mul, bz_nlt, bz_nle, bz_ltn, bz_len, bz_neq, bz_eqn, bz_nn, ↓reduceIte, Bool.false_eq_true, if_pos, if_neg, r2, s2, e, s3, z]
      rfl
theorem mg_0 {I : Nat → Nat → Int32} {b K r k : Nat} (h : aM I b K r) (hr : r ≤ 600) (hK : K < 8) (hk : k = 0 ∨ k = 1 ∨ k = 4 ∨ k = 6) (n : Nat) (x : Int32) : rs_G4 (n + 3) 240 (nI k) x (nI 0) (nI 0) I = some ((ac_g0 (nI b) K x).1, tx 73 36 95 I r (ac_g0 (nI b) K x).2) := by
  show rs_M_growsAs (rs_G4 (n + 2)) I (nI k) x = _
  unfold rs_M_growsAs ac_g0
  have e := (h.tx [10]).1
  have r1 := mr_1 h (by omega) 10
  have s1 := mp_a (h.tx [10]) (by dsimp only [List.length]; omega) hK n x
  have z : tx 73 36 95 (tx 73 36 95 I r [10]) (r + [10].length) (ac_p (nI b) K x).2 = tx 73 36 95 I r ([10] ++ (ac_p (nI b) K x).2) := by
    rw [tx_app]
  rcases hk with rfl | rfl | rfl | rfl
  · simp (disch := omega) only [bl_lit, lgl, lgg, lgl0, lgg0, lglm, lggm, az_us, az_un, az_ue, az_urn, az_ure, bz_lit, nI_leI, nI_ltI, nI_eq, nI_clamp, nI_add, pk_sub, pk_mul, bz_nlt, bz_nle, bz_ltn, bz_len, bz_neq, bz_eqn, bz_nn, ↓reduceIte, Bool.false_eq_true, if_pos, if_neg, r1, e, s1, z]
  · simp (disch := omega) only [bl_lit, lgl, lgg, lgl0, lgg0, lglm, lggm, az_us, az_un, az_ue, az_urn, az_ure, bz_lit, nI_leI, nI_ltI, nI_eq, nI_clamp, nI_add, pk_sub, pk_mul, bz_nlt, bz_nle, bz_ltn, bz_len, bz_neq, bz_eqn, bz_nn, ↓reduceIte, Bool.false_eq_true, if_pos, if_neg, r1, e, s1, z]
  · simp (disch := omega) only [bl_lit, lgl, lgg, lgl0, lgg0, lglm, lggm, az_us, az_un, az_ue, az_urn, az_ure, bz_lit, nI_leI, nI_ltI, nI_eq, nI_clamp, nI_add, pk_sub, pk_mul, bz_nlt, bz_nle, bz_ltn, bz_len, bz_neq, bz_eqn, bz_nn, ↓reduceIte, Bool.false_eq_true, if_pos, if_neg, r1, e, s1, z]
  · simp (disch := omega) only [bl_lit, lgl, lgg, lgl0, lgg0, lglm, lggm, az_us, az_un, az_ue, az_urn, az_ure, bz_lit, nI_leI, nI_ltI, nI_eq, nI_clamp, nI_add, pk_sub, pk_mul, bz_nlt, bz_nle, bz_ltn, bz_len, bz_neq, bz_eqn, bz_nn, ↓reduceIte, Bool.false_eq_true, if_pos, if_neg, r1, e, s1, z]
theorem mg_a {I : Nat → Nat → Int32} {b K r k : Nat} (h : aM I b K r) (hr : r ≤ 500) (hk : k < 8) (hK : K < 8) (n : Nat) (x : Int32) : rs_G4 (n + 5) 240 (nI k) x (nI 0) (nI 0) I = some ((ac_g (nI b) K k x).1, tx 73 36 95 I r (ac_g (nI b) K k x).2) := by
  by_cases q : k = 0 ∨ k = 1 ∨ k = 4 ∨ k = 6
  · rw [mg_0 h (by omega) hK q (n + 2)]
    unfold ac_g
    rw [if_neg (by omega), if_neg (by omega), if_neg (by omega)]
  · have g2 : ∀ (I : Nat → Nat → Int32) (r : Nat), aM I b K r → r ≤ 550 → ∀ m x, rs_G4 (m + 4) 240 (nI 2) x (nI 0) (nI 0) I = some (-(ac_g0 (nI b) K x).1, tx 73 36 95 I r ([30] ++ (ac_g0 (nI b) K x).2)) := by
      intro I r h hr m x
      show rs_M_growsAs (rs_G4 (m + 3)) I (nI 2) x = _
      unfold rs_M_growsAs
      have r1 := mr_1 h (by omega) 30
      have s1 := mg_0 (h.tx [30]) (k := 0) (by dsimp only [List.length]; omega) hK (by omega) m x
      have z : tx 73 36 95 (tx 73 36 95 I r [30]) (r + [30].length) (ac_g0 (nI b) K x).2 = tx 73 36 95 I r ([30] ++ (ac_g0 (nI b) K x).2) := by
        rw [tx_app]
      simp (disch := omega) only [bl_lit, lgl, lgg, lgl0, lgg0, lglm, lggm, az_us, az_un, az_ue, az_urn, az_ure, bz_lit, nI_leI, nI_ltI, nI_eq, nI_clamp, nI_add, pk_sub, pk_mul, bz_nlt, bz_nle, bz_ltn, bz_len, bz_neq, bz_eqn, bz_nn, ↓reduceIte, Bool.false_eq_true, if_pos, if_neg, r1, s1, z]
    have k4 : k = 2 ∨ (k = 3 ∨ k = 5) ∨ k = 7 := by omega
    rcases k4 with rfl | k4 | rfl
    · rw [g2 I r h (by omega) (n + 1)]
      rfl
    · show rs_M_growsAs (rs_G4 (n + 4)) I (nI k) x = _
      unfold rs_M_growsAs rs_M_growsAs_10 ac_g
      rw [if_pos k4]
      have r1 := mr_1 h (by omega) 41
      have s1 := g2 _ _ (h.tx [41]) (by dsimp only [List.length]; omega) n (x + nI 1)
      have z : tx 73 36 95 (tx 73 36 95 I r [41]) (r + [41].length) ([30] ++ (ac_g0 (nI b) K (x + nI 1)).2) = tx 73 36 95 I r ([41, 30] ++ (ac_g0 (nI b) K (x + nI 1)).2) := by
        rw [← tx_app]; rfl
      rcases k4 with rfl | rfl
      · simp (disch := omega) only [bl_lit, lgl, lgg, lgl0, lgg0, lglm, lggm, az_us, az_un, az_ue, az_urn, az_ure, bz_lit, nI_leI, nI_ltI, nI_eq, nI_clamp, nI_add, pk_sub, pk_mul, bz_nlt, bz_nle, bz_ltn, bz_len, bz_neq, bz_eqn, bz_nn, ↓reduceIte, Bool.false_eq_true, if_pos, if_neg, r1, s1, z]
      · simp (disch := omega) only [bl_lit, lgl, lgg, lgl0, lgg0, lglm, lggm, az_us, az_un, az_ue, az_urn, az_ure, bz_lit, nI_leI, nI_ltI, nI_eq, nI_clamp, nI_add, pk_sub, pk_mul, bz_nlt, bz_nle, bz_ltn, bz_len, bz_neq, bz_eqn, bz_nn, ↓reduceIte, Bool.false_eq_true, if_pos, if_neg, r1, s1, z]
    · show rs_M_growsAs (rs_G4 (n + 4)) I (nI 7) x = _
      unfold rs_M_growsAs ac_g
      rw [if_neg (show ¬ (7 = 3 ∨ 7 = 5) by omega), if_neg (show ¬ 7 = 2 by omega), if_pos rfl]
      have l0 := ac_0l (nI b) K x
      have r1 := mr_1 h (by omega) 80
      have s1 := mg_0 (h.tx [80]) (k := 4) (by dsimp only [List.length]; omega) hK (by omega) (n + 1) x
      have h2 := (h.tx [80]).tx (ac_g0 (nI b) K x).2
      have e := h2.1
      have s2 := mt_a h2 (by dsimp only [List.length]; omega) hK hK (n + 1) (nI 2)
      have z : tx 73 36 95 (tx 73 36 95 (tx 73 36 95 I r [80]) (r + [80].length) (ac_g0 (nI b) K x).2) (r + [80].length + (ac_g0 (nI b) K x).2.length) (ac_t (nI b) K K (nI 2)).2 = tx 73 36 95 I r ([80] ++ (ac_g0 (nI b) K x).2 ++ (ac_t (nI b) K K (nI 2)).2) := by
        rw [tx_app, tx_app, List.length_append, Nat.add_assoc]
      simp (disch := omega) only [bl_lit, lgl, lgg, lgl0, lgg0, lglm, lggm, az_us, az_un, az_ue, az_urn, az_ure, bz_lit, nI_leI, nI_ltI, nI_eq, nI_clamp, nI_add, pk_sub, pk_mul, bz_nlt, bz_nle, bz_ltn, bz_len, bz_neq, bz_eqn, bz_nn, ↓reduceIte, Bool.false_eq_true, if_pos, if_neg, r1, s1, e, s2, z]
theorem mr_0 {I : Nat → Nat → Int32} {b K r k : Nat} (h : aM I b K r) (hr : r ≤ 400) (hK : K < 8) (hk : k < 8 ∧ k ≠ 5 ∧ k ≠ 7) (n : Nat) (x : Int32) : rs_G4 (n + 6) 242 (nI k) x (nI 0) (nI 0) I = some ((ac_r0 (nI b) K x).1, tx 73 36 95 I r (ac_r0 (nI b) K x).2) := by
  show rs_M_readsAs (rs_G4 (n + 5)) I (nI k) x = _
  unfold rs_M_readsAs ac_r0
  have l0 := ac_gl (nI b) K K x
  have e1 := (h.tx [2]).1
  have r1 := mr_1 h (by omega) 2
  have s1 := mg_a (h.tx [2]) (by dsimp only [List.length]; omega) hK hK n x
  have h2 := (h.tx [2]).tx (ac_g (nI b) K K x).2
  have e2 := h2.1
  have s2 := mt_a h2 (by dsimp only [List.length]; omega) hK hK (n + 2) (nI 1)
  have z : tx 73 36 95 (tx 73 36 95 (tx 73 36 95 I r [2]) (r + [2].length) (ac_g (nI b) K K x).2) (r + [2].length + (ac_g (nI b) K K x).2.length) (ac_t (nI b) K K (nI 1)).2 = tx 73 36 95 I r ([2] ++ (ac_g (nI b) K K x).2 ++ (ac_t (nI b) K K (nI 1)).2) := by
    rw [tx_app, tx_app, List.length_append, Nat.add_assoc]
  simp (disch := omega) only [bl_lit, lgl, lgg, lgl0, lgg0, lglm, lggm, az_us, az_un, az_ue, az_urn, az_ure, bz_lit, nI_leI, nI_ltI, nI_eq, nI_clamp, nI_add, pk_sub, pk_mul, bz_nlt, bz_nle, bz_ltn, bz_len, bz_neq, bz_eqn, bz_nn, ↓reduceIte, Bool.false_eq_true, if_pos, if_neg, r1, e1, s1, e2, s2, z]
theorem mr_a {I : Nat → Nat → Int32} {b K r k : Nat} (h : aM I b K r) (hr : r ≤ 300) (hk : k < 8) (hK : K < 8) (n : Nat) (x : Int32) : rs_G4 (n + 7) 242 (nI k) x (nI 0) (nI 0) I = some ((ac_r (nI b) K k x).1, tx 73 36 95 I r (ac_r (nI b) K k x).2) := by
  by_cases q : k ≠ 5 ∧ k ≠ 7
  · rw [mr_0 h (by omega) hK ⟨hk, q⟩ (n + 1)]
    unfold ac_r
    rw [if_neg q.1, if_neg q.2]
  · show rs_M_readsAs (rs_G4 (n + 6)) I (nI k) x = _
    unfold rs_M_readsAs ac_r
    have r1 := mr_1 h (by omega) 60
    have r2 := mr_1 h (by omega) 81
    have s1 := mr_0 (h.tx [60]) (k := 3) (by dsimp only [List.length]; omega) hK (by omega) n x
    have s2 := mr_0 (h.tx [81]) (k := 4) (by dsimp only [List.length]; omega) hK (by omega) n x
    have z1 : tx 73 36 95 (tx 73 36 95 I r [60]) (r + [60].length) (ac_r0 (nI b) K x).2 = tx 73 36 95 I r ([60] ++ (ac_r0 (nI b) K x).2) := by
      rw [tx_app]
    have z2 : tx 73 36 95 (tx 73 36 95 I r [81]) (r + [81].length) (ac_r0 (nI b) K x).2 = tx 73 36 95 I r ([81] ++ (ac_r0 (nI b) K x).2) := by
      rw [tx_app]
    have k4 : k = 5 ∨ k = 7 := by omega
    rcases k4 with rfl | rfl
    · simp (disch := omega) only [bl_lit, lgl, lgg, lgl0, lgg0, lglm, lggm, az_us, az_un, az_ue, az_urn, az_ure, bz_lit, nI_leI, nI_ltI, nI_eq, nI_clamp, nI_add, pk_sub, pk_mul, bz_nlt, bz_nle, bz_ltn, bz_len, bz_neq, bz_eqn, bz_nn, ↓reduceIte, Bool.false_eq_true, if_pos, if_neg, r1, s1, z1]
    · simp (disch := omega) only [bl_lit, lgl, lgg, lgl0, lgg0, lglm, lggm, az_us, az_un, az_ue, az_urn, az_ure, bz_lit, nI_leI, nI_ltI, nI_eq, nI_clamp, nI_add, pk_sub, pk_mul, bz_nlt, bz_nle, bz_ltn, bz_len, bz_neq, bz_eqn, bz_nn, ↓reduceIte, Bool.false_eq_true, if_pos, if_neg, r2, s2, z2]

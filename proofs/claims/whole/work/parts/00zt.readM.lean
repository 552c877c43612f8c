/-! THE LAW: the reference reads and works -/
section
variable {n : Nat} {B : Nat → Int32}
def F_m : Nat → Nat → Prop := fun r k => r = 73 ∧ (k = 15 ∨ k = 17 ∨ k = 18)
def mb (n : Nat) (B : Nat → Int32) (I : Nat → Nat → Int32) : Prop := ((I 73 14 = -nI 1 ∧ ∀ k, k < n → I 80 k = B k) ∨ (I 73 14 = nI 0 ∧ ∀ k, k < n → I 81 k = B k)) ∧ I 73 16 = nI n
theorem mb.fr {I I' : Nat → Nat → Int32} (h : mb n B I) (f : az_fr F_m I I') : mb n B I' := by
  obtain ⟨h1, h2⟩ := h
  refine ⟨?_, by rw [f 73 16 (by unfold F_m; omega)]; exact h2⟩
  rcases h1 with ⟨a, b⟩ | ⟨a, b⟩
  · exact Or.inl ⟨by rw [f 73 14 (by unfold F_m; omega)]; exact a, fun k hk => by rw [f 80 k (by unfold F_m; omega)]; exact b k hk⟩
  · exact Or.inr ⟨by rw [f 73 14 (by unfold F_m; omega)]; exact a, fun k hk => by rw [f 81 k (by unfold F_m; omega)]; exact b k hk⟩
def mst (n : Nat) (B : Nat → Int32) (I : Nat → Nat → Int32) (p d : Nat) : Prop := mb n B I ∧ I 73 15 = nI p ∧ I 73 17 = -nI 1 ∧ I 73 18 = nI d
def mer (n : Nat) (B : Nat → Int32) (I : Nat → Nat → Int32) (e : Nat) : Prop := mb n B I ∧ I 73 17 = nI e ∧ e ≤ n ∧ ∃ q, q ≤ 121 ∧ I 73 15 = nI q
def mqq (n : Nat) (B : Nat → Int32) (I0 : Nat → Nat → Int32) (d : Nat) (r : pr_T) (x : Int32) (I : Nat → Nat → Int32) : Prop := match r with
  | .error e => az_fr F_m I0 I ∧ mer n B I e
  | .ok (q, _, v) => az_fr F_m I0 I ∧ mst n B I q d ∧ x = v (f6 (I0 82))
def MP (n : Nat) (B : Nat → Int32) (d : Nat) (f : (Nat → Nat → Int32) → Option (Int32 × (Nat → Nat → Int32))) (sub : Nat → pr_T) : Prop := ∀ I p, mst n B I p d → p ≤ n → ∃ x I', f I = some (x, I') ∧ mqq n B I d (sub p) x I'
theorem ms_take {A : Nat → Nat → Int32} {p d : Nat} (h : mst n B A p d) : mst n B (az_u A 73 15 (nI (p + 1))) (p + 1) d :=
  ⟨h.1.fr ((az_fr.refl (S := F_m)).u (by unfold F_m; omega)), az_us, by rw [az_un (by omega)]; exact h.2.2.1, by rw [az_un (by omega)]; exact h.2.2.2⟩
theorem mk_takes {A : Nat → Nat → Int32} {p d : Nat} (hn : n ≤ 120) (h : mst n B A p d) (hp : p ≤ n) {c : Int32} (hc : ¬ nI 0 = c) : rs_M_takesByte A c = if p < n ∧ B p = c then some (nI 1, az_u A 73 15 (nI (p + 1))) else some (nI 0, A) := by
  obtain ⟨⟨h1, h2⟩, h3, h4, h5⟩ := h
  have m1 : ¬ nI 0 ≤ -nI 1 := by decide
  unfold rs_M_takesByte
  rcases Nat.lt_or_ge p n with w | w
  · rcases h1 with ⟨a, b⟩ | ⟨a, b⟩
    · have b := b p w
      by_cases e : B p = c
      · rw [if_pos (show p < n ∧ B p = c from ⟨w, e⟩)]
        simp (disch := omega) only [bl_lit, lgl, lgg, lgl0, lgg0, lglm, lggm, az_us, az_un, az_ue, az_urn, az_ure, bz_lit, nI_leI, nI_ltI, nI_eq, nI_clamp, nI_add, pk_sub, pk_mul, bz_nlt, bz_nle, bz_ltn, bz_len, bz_neq, bz_eqn, bz_nn, ↓reduceIte, Bool.false_eq_true, if_pos, if_neg, h2, h3, h4, m1, a, b, e]
      · rw [if_neg (show ¬ (p < n ∧ B p = c) from fun z => e z.2)]
        simp (disch := omega) only [bl_lit, lgl, lgg, lgl0, lgg0, lglm, lggm, az_us, az_un, az_ue, az_urn, az_ure, bz_lit, nI_leI, nI_ltI, nI_eq, nI_clamp, nI_add, pk_sub, pk_mul, bz_nlt, bz_nle, bz_ltn, bz_len, bz_neq, bz_eqn, bz_nn, ↓reduceIte, Bool.false_eq_true, if_pos, if_neg, h2, h3, h4, m1, a, b, e]
    · have b := b p w
      have z0 : nI 0 + nI p = nI p := by rw [nI_add, Nat.zero_add]
      by_cases e : B p = c
      · rw [if_pos (show p < n ∧ B p = c from ⟨w, e⟩)]
        simp only [h2, h3, h4, a, z0, show (0 : Int32) = nI 0 from rfl]
        simp (disch := omega) only [bl_lit, lgl, lgg, lgl0, lgg0, lglm, lggm, az_us, az_un, az_ue, az_urn, az_ure, bz_lit, nI_leI, nI_ltI, nI_eq, nI_clamp, nI_add, pk_sub, pk_mul, bz_nlt, bz_nle, bz_ltn, bz_len, bz_neq, bz_eqn, bz_nn, ↓reduceIte, Bool.false_eq_true, if_pos, if_neg, m1, b, e]
      · rw [if_neg (show ¬ (p < n ∧ B p = c) from fun z => e z.2)]
        simp only [h2, h3, h4, a, z0, show (0 : Int32) = nI 0 from rfl]
        simp (disch := omega) only [bl_lit, lgl, lgg, lgl0, lgg0, lglm, lggm, az_us, az_un, az_ue, az_urn, az_ure, bz_lit, nI_leI, nI_ltI, nI_eq, nI_clamp, nI_add, pk_sub, pk_mul, bz_nlt, bz_nle, bz_ltn, bz_len, bz_neq, bz_eqn, bz_nn, ↓reduceIte, Bool.false_eq_true, if_pos, if_neg, m1, b, e]
  · rw [if_neg (show ¬ (p < n ∧ B p = c) from fun z => by omega)]
    simp (disch := omega) only [bl_lit, lgl, lgg, lgl0, lgg0, lglm, lggm, az_us, az_un, az_ue, az_urn, az_ure, bz_lit, nI_leI, nI_ltI, nI_eq, nI_clamp, nI_add, pk_sub, pk_mul, bz_nlt, bz_nle, bz_ltn, bz_len, bz_neq, bz_eqn, bz_nn, ↓reduceIte, Bool.false_eq_true, if_pos, if_neg, h2, h3, h4, m1, hc]
theorem mk_takesE {A : Nat → Nat → Int32} {e : Nat} (hn : n ≤ 120) (h : mer n B A e) (c : Int32) : rs_M_takesByte A c = some (nI 0, A) := by
  obtain ⟨h1, h2, h3, h4⟩ := h
  unfold rs_M_takesByte
  rw [h2, if_pos (nI_pos' (by omega))]
  rfl
/-- a level's loop, whatever its state is called -/
theorem mp_loop {S : Type} {b : S → Option (S ⊕ (Int32 × (Nat → Nat → Int32)))} {pk : Int32 → (Nat → Nat → Int32) → S} {f : (Nat → Nat → Int32) → Option (Int32 × (Nat → Nat → Int32))} {H d lv : Nat} {sub : Nat → pr_T} (hlv : lv ≠ 2) (hs : pg n H sub) (hx : MP n B d f sub)
    (S1 : ∀ A p x, mst n B A p d → p ≤ n → ¬ (p < n ∧ jl lv (B p) = true) → b (pk x A) = some (.inr (x, A)))
    (S2 : ∀ A p x y A1, mst n B A p d → p < n → jl lv (B p) = true → f (az_u A 73 15 (nI (p + 1))) = some (y, A1) → mb n B A1 → (∃ q, q ≤ 121 ∧ A1 73 15 = nI q) → b (pk x A) = some (.inl (pk (jn x (B p) y) A1)))
    (S3 : ∀ A e x, mer n B A e → b (pk x A) = some (.inr (x, A))) {I0 : Nat → Nat → Int32} (hn : n ≤ 120) :
    ∀ k p A c v N, n ≤ p + k → p ≤ n → mst n B A p d → az_fr F_m I0 A → k + 1 < N → ∃ x' A', az_lp b N (pk (v (f6 (I0 82))) A) = some (x', A') ∧ mqq n B I0 d (plp n B lv sub k p c v) x' A' := by
  intro k
  induction k with
  | zero =>
    intro p A c v N h1 h2 h3 h4 hN
    obtain ⟨N, rfl⟩ : ∃ N', N = N' + 1 := ⟨N - 1, by omega⟩
    exact ⟨_, A, az_lp_r (S1 A p _ h3 h2 (by omega)), h4, h3, rfl⟩
  | succ k ih =>
    intro p A c v N h1 h2 h3 h4 hN
    obtain ⟨N, rfl⟩ : ∃ N', N = N' + 1 + 1 := ⟨N - 2, by omega⟩
    unfold plp
    by_cases w : p < n ∧ jl lv (B p) = true
    · rw [if_pos w]
      obtain ⟨y, A1, r1, q1⟩ := hx (az_u A 73 15 (nI (p + 1))) (p + 1) (ms_take h3) (by omega)
      have gd := hs (p + 1) (by omega)
      have f0 : az_fr F_m I0 (az_u A 73 15 (nI (p + 1))) := h4.u (by unfold F_m; omega)
      have e82 : az_u A 73 15 (nI (p + 1)) 82 = I0 82 := funext (fun j => f0 82 j (by unfold F_m; omega))
      cases e : sub (p + 1) with
      | error x =>
        rw [e] at q1
        obtain ⟨t1, t2⟩ := q1
        rw [az_lp_l (S2 A p (v (f6 (I0 82))) y A1 h3 w.1 w.2 r1 t2.1 t2.2.2.2)]
        exact ⟨_, A1, az_lp_r (S3 A1 x _ t2), f0.trans t1, t2⟩
      | ok r =>
        obtain ⟨q, c', v'⟩ := r
        rw [e] at q1 gd
        obtain ⟨t1, t2, t3⟩ := q1
        obtain ⟨d1, d2, d3, d4⟩ := gd
        rw [az_lp_l (S2 A p (v (f6 (I0 82))) y A1 h3 w.1 w.2 r1 t2.1 ⟨q, by omega, t2.2.1⟩)]
        (try dsimp only)
        rw [if_neg hlv, t3, e82]
        exact ih q A1 _ (fun f => jn (v f) (B p) (v' f)) (N + 1) (by omega) d2 t2 (f0.trans t1) (by omega)
    · rw [if_neg w]
      exact ⟨_, A, az_lp_r (S1 A p _ h3 h2 w), h4, h3, rfl⟩
theorem jl_0 (c : Int32) : jl 0 c = true ↔ c = nI 124 := by show (c == 124) = true ↔ _; rw [beq_iff_eq]; rfl
theorem jl_1 (c : Int32) : jl 1 c = true ↔ c = nI 38 := by show (c == 38) = true ↔ _; rw [beq_iff_eq]; rfl
theorem mp_either {g H d : Nat} {sub : Nat → pr_T} (hn : n ≤ 120) (hs : pg n H sub) (hx : MP n B d (fun I => rs_G3 g 180 0 0 0 0 I) sub) : MP n B d (fun I => rs_G3 (g + 1) 179 0 0 0 0 I) (plv n B 0 sub) := by
  intro I p h hp
  obtain ⟨x, A, r, q⟩ := hx I p h hp
  have gd := hs p hp
  show ∃ x I', rs_M_either (rs_G3 g) I = some (x, I') ∧ _
  unfold rs_M_either plv
  rw [show rs_G3 g 180 0 0 0 0 I = some (x, A) from r]
  (try dsimp only)
  unfold rs_M_either_5
  have S3 : ∀ (A : Nat → Nat → Int32) (e : Nat) (x : Int32), mer n B A e → rs_M_either_5_b (rs_G3 g) x A = some (.inr (x, A)) := by
    intro A e x h
    unfold rs_M_either_5_b
    rw [mk_takesE hn h]
    rfl
  cases e : sub p with
  | error y =>
    rw [e] at q
    exact ⟨x, A, az_lp_r (S3 A y x q.2), q⟩
  | ok y =>
    obtain ⟨q', c, v⟩ := y
    rw [e] at q gd
    obtain ⟨t1, t2, t3⟩ := q
    rw [t3]
    refine mp_loop (b := fun s : (Int32 × (Nat → Nat → Int32)) => rs_M_either_5_b (rs_G3 g) s.1 s.2) (pk := fun x A => (x, A)) (lv := 0) (by omega) hs hx ?_ ?_ (fun A e x h => S3 A e x h) hn 120 q' A c v 100000 (by omega) gd.2.1 t2 t1 (by omega)
    · intro A p x h hp hj
      (try dsimp only)
      unfold rs_M_either_5_b
      rw [show rs_M_takesByte A 124 = _ from mk_takes hn h hp (c := nI 124) (by decide), if_neg (fun z => hj ⟨z.1, (jl_0 _).mpr z.2⟩)]
      rfl
    · intro A p x y A1 h hp hj hr _ _
      have b := (jl_0 _).mp hj
      (try dsimp only)
      unfold rs_M_either_5_b
      rw [show rs_M_takesByte A 124 = _ from mk_takes hn h (by omega) (c := nI 124) (by decide), if_pos ⟨hp, b⟩]
      (try dsimp only)
      rw [if_neg (by decide), show rs_G3 g 180 0 0 0 0 (az_u A 73 15 (nI (p + 1))) = some (y, A1) from hr, b]
      (try dsimp only)
      unfold jn rs_La_joined
      by_cases x0 : x = nI 0
      · by_cases y0 : y = nI 0
        · simp (disch := omega) only [bl_lit, lgl, lgg, lgl0, lgg0, lglm, lggm, az_us, az_un, az_ue, az_urn, az_ure, bz_lit, nI_leI, nI_ltI, nI_eq, nI_clamp, nI_add, pk_sub, pk_mul, bz_nlt, bz_nle, bz_ltn, bz_len, bz_neq, bz_eqn, bz_nn, ↓reduceIte, Bool.false_eq_true, if_pos, if_neg, x0, y0, Option.getD_some]
        · simp (disch := omega) only [bl_lit, lgl, lgg, lgl0, lgg0, lglm, lggm, az_us, az_un, az_ue, az_urn, az_ure, bz_lit, nI_leI, nI_ltI, nI_eq, nI_clamp, nI_add, pk_sub, pk_mul, bz_nlt, bz_nle, bz_ltn, bz_len, bz_neq, bz_eqn, bz_nn, ↓reduceIte, Bool.false_eq_true, if_pos, if_neg, x0, y0, Option.getD_some]
      · simp (disch := omega) only [bl_lit, lgl, lgg, lgl0, lgg0, lglm, lggm, az_us, az_un, az_ue, az_urn, az_ure, bz_lit, nI_leI, nI_ltI, nI_eq, nI_clamp, nI_add, pk_sub, pk_mul, bz_nlt, bz_nle, bz_ltn, bz_len, bz_neq, bz_eqn, bz_nn, ↓reduceIte, Bool.false_eq_true, if_pos, if_neg, x0, Option.getD_some]
theorem mp_both {g H d : Nat} {sub : Nat → pr_T} (hn : n ≤ 120) (hs : pg n H sub) (hx : MP n B d (fun I => rs_G3 g 181 0 0 0 0 I) sub) : MP n B d (fun I => rs_G3 (g + 1) 180 0 0 0 0 I) (plv n B 1 sub) := by
  intro I p h hp
  obtain ⟨x, A, r, q⟩ := hx I p h hp
  have gd := hs p hp
  show ∃ x I', rs_M_both (rs_G3 g) I = some (x, I') ∧ _
  unfold rs_M_both plv
  rw [show rs_G3 g 181 0 0 0 0 I = some (x, A) from r]
  (try dsimp only)
  unfold rs_M_both_5
  have S3 : ∀ (A : Nat → Nat → Int32) (e : Nat) (x : Int32), mer n B A e → rs_M_both_5_b (rs_G3 g) x A = some (.inr (x, A)) := by
    intro A e x h
    unfold rs_M_both_5_b
    rw [mk_takesE hn h]
    rfl
  cases e : sub p with
  | error y =>
    rw [e] at q
    exact ⟨x, A, az_lp_r (S3 A y x q.2), q⟩
  | ok y =>
    obtain ⟨q', c, v⟩ := y
    rw [e] at q gd
    obtain ⟨t1, t2, t3⟩ := q
    rw [t3]
    refine mp_loop (b := fun s : (Int32 × (Nat → Nat → Int32)) => rs_M_both_5_b (rs_G3 g) s.1 s.2) (pk := fun x A => (x, A)) (lv := 1) (by omega) hs hx ?_ ?_ (fun A e x h => S3 A e x h) hn 120 q' A c v 100000 (by omega) gd.2.1 t2 t1 (by omega)
    · intro A p x h hp hj
      (try dsimp only)
      unfold rs_M_both_5_b
      rw [show rs_M_takesByte A 38 = _ from mk_takes hn h hp (c := nI 38) (by decide), if_neg (fun z => hj ⟨z.1, (jl_1 _).mpr z.2⟩)]
      rfl
    · intro A p x y A1 h hp hj hr _ _
      have b := (jl_1 _).mp hj
      (try dsimp only)
      unfold rs_M_both_5_b
      rw [show rs_M_takesByte A 38 = _ from mk_takes hn h (by omega) (c := nI 38) (by decide), if_pos ⟨hp, b⟩]
      (try dsimp only)
      rw [if_neg (by decide), show rs_G3 g 181 0 0 0 0 (az_u A 73 15 (nI (p + 1))) = some (y, A1) from hr, b]
      (try dsimp only)
      unfold jn rs_La_joined
      by_cases x0 : x = nI 0
      · simp (disch := omega) only [bl_lit, lgl, lgg, lgl0, lgg0, lglm, lggm, az_us, az_un, az_ue, az_urn, az_ure, bz_lit, nI_leI, nI_ltI, nI_eq, nI_clamp, nI_add, pk_sub, pk_mul, bz_nlt, bz_nle, bz_ltn, bz_len, bz_neq, bz_eqn, bz_nn, ↓reduceIte, Bool.false_eq_true, if_pos, if_neg, x0, Option.getD_some]
      · by_cases y0 : y = nI 0
        · simp (disch := omega) only [bl_lit, lgl, lgg, lgl0, lgg0, lglm, lggm, az_us, az_un, az_ue, az_urn, az_ure, bz_lit, nI_leI, nI_ltI, nI_eq, nI_clamp, nI_add, pk_sub, pk_mul, bz_nlt, bz_nle, bz_ltn, bz_len, bz_neq, bz_eqn, bz_nn, ↓reduceIte, Bool.false_eq_true, if_pos, if_neg, x0, y0, Option.getD_some]
        · simp (disch := omega) only [bl_lit, lgl, lgg, lgl0, lgg0, lglm, lggm, az_us, az_un, az_ue, az_urn, az_ure, bz_lit, nI_leI, nI_ltI, nI_eq, nI_clamp, nI_add, pk_sub, pk_mul, bz_nlt, bz_nle, bz_ltn, bz_len, bz_neq, bz_eqn, bz_nn, ↓reduceIte, Bool.false_eq_true, if_pos, if_neg, x0, y0, Option.getD_some]
end

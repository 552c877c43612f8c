/-! ROUNDS: both -/
theorem tp_lt {s n : Nat} (hs : s < 256) (hn : gd_n (rb s) 8 = n) (h5 : n ≤ 5) : ∀ u v, 1 ≤ u → v ≤ n → u < v → tp s u < tp s v := by
  intro u v h1 h2 h3
  obtain ⟨u, rfl⟩ : ∃ u', u = u' + 1 := ⟨u - 1, by omega⟩
  obtain ⟨v, rfl⟩ : ∃ v', v = v' + 1 := ⟨v - 1, by omega⟩
  exact ps_lt s hs u (by omega) v (by omega) (by omega)
theorem tp_9 (s x : Nat) : tp s x < 9 := by
  cases x with
  | zero => exact (by decide : 8 < 9)
  | succ x => have := ps_8 s x; show ps s x < 9; omega
theorem od_step {A : Nat → Nat → Int32} {P : Nat → Nat} {n i : Nat} (hn : n < 6) (hi : i < (comps n n []).length) (hP : ∀ u v, 1 ≤ u → v ≤ n → u < v → P u < P v) (hPb : ∀ u, P u < 100) (hA : ∀ k, k < n → A 88 k = nI (P (((comps n n []).getD i []).getD k 0))) :
    ∃ A', rs_M_nextOrder A (nI n) = some (nI (if i + 1 < (comps n n []).length then 1 else 0), A') ∧ az_fr (fun r _ => r = 88) A A' ∧ (i + 1 < (comps n n []).length → ∀ k, k < n → A' 88 k = nI (P (((comps n n []).getD (i + 1) []).getD k 0))) := by
  have t := toy_ok n hn i hi
  have tl := toy_len n hn i hi
  have R : od_R n P A (toy ((comps n n []).getD i [])) := fun k hk => ⟨_, (tl.2 k hk).1, (tl.2 k hk).2, rfl, hA k hk⟩
  unfold toyn at t
  cases e : rs_M_nextOrder (toy ((comps n n []).getD i [])) (nI n) with
  | none =>
    rw [e] at t
    split at t <;> cases t
  | some x' =>
    rw [e] at t
    obtain ⟨x, hx, q1, q2, q3⟩ := od_next (by omega) R hP hPb e
    obtain ⟨v, A'⟩ := x
    obtain ⟨v', B'⟩ := x'
    (try dsimp only at q1 q2 q3 t)
    subst q1
    rw [Option.map_some] at t
    by_cases z : i + 1 < (comps n n []).length
    · rw [if_pos z] at t
      have t1 := Option.some.inj t
      have t2 : v = 1 := congrArg Prod.fst t1
      have t3 : (List.range n).map (fun k => B' 88 k) = ((comps n n []).getD (i + 1) []).map nI := congrArg Prod.snd t1
      have tl2 := toy_len n hn (i + 1) z
      refine ⟨A', by rw [hx, if_pos z, t2]; rfl, q3, fun _ k hk => ?_⟩
      obtain ⟨u, u1, u2, u3, u4⟩ := q2 k hk
      have t4 : ((List.range n).map (fun k => B' 88 k))[k]? = (((comps n n []).getD (i + 1) []).map nI)[k]? := by rw [t3]
      rw [List.getElem?_map, List.getElem?_map, List.getElem?_range hk, List.getElem?_eq_getElem (by omega)] at t4
      have t5 : B' 88 k = nI (((comps n n []).getD (i + 1) [])[k]'(by omega)) := Option.some.inj t4
      have t6 : ((comps n n []).getD (i + 1) []).getD k 0 = ((comps n n []).getD (i + 1) [])[k]'(by omega) := by
        rw [List.getD_eq_getElem?_getD, List.getElem?_eq_getElem (by omega)]; rfl
      have t7 := tl2.2 k hk
      rw [t6] at t7 ⊢
      rw [u3, nI_eq (by omega) (by omega)] at t5
      rw [u4, t5]
    · rw [if_neg z] at t
      have t1 := Option.some.inj t
      have t2 : v = 0 := congrArg Prod.fst t1
      exact ⟨A', by rw [hx, if_neg z, t2]; rfl, q3, fun q => absurd q z⟩
theorem bs_in2 {C : List Nat → Nat} {n : Nat} (hn : n < 6) (hC : ∀ l : List Nat, l.length = n → C l < 2147483647) : ∀ i, i < (comps n n []).length → ∀ k, k < n → 1 ≤ (bs C (comps n n []) (2147483647, []) (i + 1)).2.getD k 0 := by
  intro i
  induction i with
  | zero =>
    intro hi k hk
    have a := toy_len n hn 0 hi
    show 1 ≤ (tstep C (2147483647, []) ((comps n n []).getD 0 [])).2.getD k 0
    unfold tstep
    rw [if_pos (hC _ a.1)]
    exact (a.2 k hk).1
  | succ i ih =>
    intro hi k hk
    have a := toy_len n hn (i + 1) hi
    have b := ih (by omega) k hk
    show 1 ≤ (tstep C (bs C (comps n n []) (2147483647, []) (i + 1)) ((comps n n []).getD (i + 1) [])).2.getD k 0
    unfold tstep
    split
    · exact (a.2 k hk).1
    · exact b
/-- which post of the order -/
def rd_ans (a : Int32) (n s : Nat) (l : List Nat) : Int32 := if a < nI 0 then -nI 2 else if nI n ≤ a then -nI 2 else nI (tp s (l.getD a.toNatClampNeg 0))
theorem pm_201 {A0 A : Nat → Nat → Int32} {m : Nat → Nat → Nat} {s n : Nat} {a : Int32} (hs : s < 256) (hg : gd_n (rb s) 8 = n) (hn : n ≤ 5) (hm : ∀ i j, m i j ≤ 2178) (m0 : m 0 0 = 0) (fA : az_fr scM A0 A) (e9 : ∀ x y, x ≤ n → y ≤ n → A 89 (9 * tp s x + tp s y) = nI (m x y)) (e8 : ∀ k, k < n → A 88 k = nI (tp s (((comps n n []).getD 0 []).getD k 0))) :
    ∃ A', rs_M_round_201 A a (nI n) (nI (bs (cst m 0) (comps n n []) (2147483647, []) 1).1) (rd_ans a n s (bs (cst m 0) (comps n n []) (2147483647, []) 1).2) = some ((if a = -nI 1 then nI (bs (cst m 0) (comps n n []) (2147483647, []) (comps n n []).length).1 else rd_ans a n s (bs (cst m 0) (comps n n []) (2147483647, []) (comps n n []).length).2), A') ∧ az_fr scM A0 A' := by
  have len := toy_0 n (by omega)
  have hC : ∀ l : List Nat, l.length = n → cst m 0 l < 2147483647 := fun l hl => by have := cst_le hm l 0; rw [hl] at this; omega
  have bsi := bs_in (C := cst m 0) (n := n) (by omega) hC
  have hP := tp_lt hs hg hn
  have hPb : ∀ u, tp s u < 100 := fun u => by have := tp_9 s u; omega
  have stp := fun (i : Nat) (B : Nat → Nat → Int32) (hi : i < (comps n n []).length) hB => od_step (A := B) (P := tp s) (n := n) (i := i) (by omega) hi hP hPb hB
  have tln := toy_len n (by omega)
  have bs1 : ∀ i, bs (cst m 0) (comps n n []) (2147483647, []) (i + 1) = tstep (cst m 0) (bs (cst m 0) (comps n n []) (2147483647, []) i) ((comps n n []).getD i []) := fun i => rfl
  generalize hl : comps n n [] = cs at *
  generalize hb : bs (cst m 0) cs (2147483647, []) = b at *
  unfold rs_M_round_201
  have main : ∃ x, az_lp (fun z : (Int32 × Int32 × (Nat → Nat → Int32)) => rs_M_round_201_b a (nI n) z.1 z.2.1 z.2.2) 100000 (nI (b 1).1, rd_ans a n s (b 1).2, A) = some x ∧ ∃ A', x = ((if a = -nI 1 then nI (b cs.length).1 else rd_ans a n s (b cs.length).2), A') ∧ az_fr scM A0 A' := by
    refine az_for0 (fun k (z : Int32 × Int32 × (Nat → Nat → Int32)) => z.1 = nI (b (k + 1)).1 ∧ z.2.1 = rd_ans a n s (b (k + 1)).2 ∧ az_fr scM A0 z.2.2 ∧ (∀ x y, x ≤ n → y ≤ n → z.2.2 89 (9 * tp s x + tp s y) = nI (m x y)) ∧ ∀ j, j < n → z.2.2 88 j = nI (tp s ((cs.getD k []).getD j 0))) (cs.length - 1) (by omega) ⟨rfl, rfl, fA, e9, e8⟩ ?_ ?_
    · intro k z hk hz
      obtain ⟨v6, v7, B⟩ := z
      obtain ⟨z1, z2, z3, z4, z5⟩ := hz
      (try dsimp only at z1 z2 z3 z4 z5)
      subst z1 z2
      obtain ⟨B1, r1, f1, k1⟩ := stp k B (by omega) z5
      rw [if_pos (by omega)] at r1
      have k1 := k1 (by omega)
      have z4' : ∀ x y, x ≤ n → y ≤ n → B1 89 (9 * tp s x + tp s y) = nI (m x y) := fun x y hx hy => by rw [f1 89 _ (by omega)]; exact z4 x y hx hy
      have tl := tln (k + 1) (by omega)
      have r2 := pm_of (I := B1) hn tl.1 tl.2 hm m0 k1 z4'
      have bb := (bsi k (by omega)).2
      have cc := hC _ tl.1
      have bn := bs1 (k + 1)
      unfold tstep at bn
      have f1' := z3.trans (f1.mono (fun r k z => by unfold scM; omega))
      generalize hlk : cs.getD (k + 1) [] = lk at *
      refine az_nxt (nI (b (k + 1 + 1)).1, rd_ans a n s (b (k + 1 + 1)).2, B1) ?_ ⟨rfl, rfl, f1', z4', k1⟩
      (try dsimp only)
      rw [bn]
      unfold rs_M_round_201_b
      rw [r1]
      (try dsimp only)
      rw [if_neg (show ¬ nI 1 = 0 by decide), r2]
      (try dsimp only)
      by_cases z : cst m 0 lk < (b (k + 1)).1
      · rw [if_pos z, if_neg (by rw [nI_leI (by omega) (by omega)]; omega)]
        (try dsimp only)
        unfold rd_ans
        by_cases a0 : a < nI 0
        · rw [if_pos (show a < 0 from a0), if_pos a0]; rfl
        · rw [if_neg (show ¬ a < 0 from a0), if_neg a0]
          by_cases a1 : nI n ≤ a
          · rw [if_pos a1, if_pos a1]; rfl
          · rw [if_neg a1, if_neg a1]
            obtain ⟨j, hj, rfl⟩ := nI_of (show ¬ a < 0 from a0)
            rw [nI_leI (by omega) (by omega)] at a1
            have kk := k1 j (by omega)
            simp (disch := omega) only [bl_lit, lgl, lgg, lgl0, lgg0, lglm, lggm, az_us, az_un, az_ue, az_urn, az_ure, bz_lit, nI_leI, nI_ltI, nI_eq, nI_clamp, nI_add, pk_sub, pk_mul, bz_nlt, bz_nle, bz_ltn, bz_len, bz_neq, bz_eqn, bz_nn, ↓reduceIte, Bool.false_eq_true, if_pos, if_neg, kk]
      · rw [if_neg z, if_pos (by rw [nI_leI (by omega) (by omega)]; omega)]
    · intro z hz
      obtain ⟨v6, v7, B⟩ := z
      obtain ⟨z1, z2, z3, z4, z5⟩ := hz
      (try dsimp only at z1 z2 z3 z4 z5)
      rw [show cs.length - 1 + 1 = cs.length by omega] at z1 z2
      subst z1 z2
      obtain ⟨B1, r1, f1, _⟩ := stp (cs.length - 1) B (by omega) z5
      rw [if_neg (by omega)] at r1
      refine ⟨_, ?_, B1, rfl, z3.trans (f1.mono (fun r k z => by unfold scM; omega))⟩
      (try dsimp only)
      unfold rs_M_round_201_b rs_M_round_255
      rw [r1]
      (try dsimp only)
      rw [if_pos (show nI 0 = 0 from rfl)]
      by_cases z : a = -nI 1
      · rw [if_pos z, if_pos (show a = -1 from z)]; rfl
      · rw [if_neg z, if_neg (show ¬ a = -1 from z)]; rfl
  obtain ⟨x, hx, A', rfl, f'⟩ := main
  exact ⟨A', hx, f'⟩
section
variable {I : Nat → Nat → Int32} {J : Nat → Nat → Int64} {rl rd : Nat}
/-- the reference's round, from its first loop -/
theorem pm_round {L : lw_T} {h pc pt : Nat → Nat} (hB : lw_B L) (q : wM I L h pc pt) (ok : ∀ he lo sh we, th_ok h (tt L he lo sh we)) {w s c0 np n : Nat} (hw : w < 6) (hnp : np ≤ 8) (c2 : I 73 6 = nI np) (hs : s < 2 ^ np) (h0 : c0 < 144) (hg : gd_n (rb s) 8 = n) (a1 a : Int32) (ea : a1 / 1000 = nI c0) :
    (5 < n → rs_M_round_67 I a1 (nI w) a (nI s) 0 0 = some (-nI 5, I)) ∧ (n ≤ 5 → ∀ m, m = (fun i j => am h (tt L (I 74 (160 + w)) (I 74 (166 + w)) (I 74 (172 + w)) (I 74 178)) (tc c0 pc s i) (tc c0 pc s j)) →
      ∃ I', rs_M_round_67 I a1 (nI w) a (nI s) 0 0 = some ((if a = -nI 1 then nI (bs (cst m 0) (comps n n []) (2147483647, []) (comps n n []).length).1 else rd_ans a n s (bs (cst m 0) (comps n n []) (2147483647, []) (comps n n []).length).2), I') ∧ az_fr scM I I') := by
  have hs8 : s < 256 := Nat.lt_of_lt_of_le hs (Nat.pow_le_pow_right (by omega) hnp)
  obtain ⟨npn, npb⟩ := ps_np np (by omega) s hs
  rw [hg] at npn
  have l67 : ∀ y, rs_M_round_102 I a1 (nI w) a (nI s) (nI n) = some y → rs_M_round_67 I a1 (nI w) a (nI s) 0 0 = some y := by
    intro y hy
    unfold rs_M_round_67
    have main : ∃ x, az_lp (fun z : (Int32 × Int32) => rs_M_round_67_b I a1 (nI w) a (nI s) z.1 z.2) 100000 (0, 0) = some x ∧ x = y := by
      refine az_for0 (fun k (z : Int32 × Int32) => z = (nI (gd_n (rb s) k), nI k)) np (by omega) rfl ?_ ?_
      · intro k z hk hz
        subst hz
        have sh := rb_sh s hs8 k (by omega)
        have le := gd_n_le (rb s) k
        cases hb : rb s k with
        | false =>
          rw [hb, if_neg (by decide)] at sh
          refine az_nxt (nI (gd_n (rb s) (k + 1)), nI (k + 1)) ?_ rfl
          have e : gd_n (rb s) (k + 1) = gd_n (rb s) k + 0 := by show gd_n (rb s) k + _ = _; rw [hb, if_neg (by decide)]
          rw [e]
          (try dsimp only)
          unfold rs_M_round_67_b
          simp (disch := omega) only [bl_lit, lgl, lgg, lgl0, lgg0, lglm, lggm, az_us, az_un, az_ue, az_urn, az_ure, bz_lit, nI_leI, nI_ltI, nI_eq, nI_clamp, nI_add, pk_sub, pk_mul, bz_nlt, bz_nle, bz_ltn, bz_len, bz_neq, bz_eqn, bz_nn, ↓reduceIte, Bool.false_eq_true, if_pos, if_neg, c2, sh]
        | true =>
          rw [hb, if_pos rfl] at sh
          refine az_nxt (nI (gd_n (rb s) (k + 1)), nI (k + 1)) ?_ rfl
          have e : gd_n (rb s) (k + 1) = gd_n (rb s) k + 1 := by show gd_n (rb s) k + _ = _; rw [hb, if_pos rfl]
          rw [e]
          (try dsimp only)
          unfold rs_M_round_67_b
          simp (disch := omega) only [bl_lit, lgl, lgg, lgl0, lgg0, lglm, lggm, az_us, az_un, az_ue, az_urn, az_ure, bz_lit, nI_leI, nI_ltI, nI_eq, nI_clamp, nI_add, pk_sub, pk_mul, bz_nlt, bz_nle, bz_ltn, bz_len, bz_neq, bz_eqn, bz_nn, ↓reduceIte, Bool.false_eq_true, if_pos, if_neg, c2, sh]
      · intro z hz
        subst hz
        refine ⟨y, ?_, rfl⟩
        (try dsimp only)
        unfold rs_M_round_67_b
        rw [npn, c2, if_pos (Int32.le_refl _), hy]
        rfl
    obtain ⟨x, hx, rfl⟩ := main
    exact hx
  have n8 : n ≤ 8 := by have := gd_n_le (rb s) 8; omega
  constructor
  · intro n5
    refine l67 _ ?_
    unfold rs_M_round_102
    simp (disch := omega) only [bl_lit, lgl, lgg, lgl0, lgg0, lglm, lggm, az_us, az_un, az_ue, az_urn, az_ure, bz_lit, nI_leI, nI_ltI, nI_eq, nI_clamp, nI_add, pk_sub, pk_mul, bz_nlt, bz_nle, bz_ltn, bz_len, bz_neq, bz_eqn, bz_nn, ↓reduceIte, Bool.false_eq_true, if_pos, if_neg]
  · intro n5 m em
    have hce : ∀ i, tc c0 pc s i < 144 := tc_lt h0 (fun k hk => (q.2.2 k hk).2.1)
    have ok' := ok (I 74 (160 + w)) (I 74 (166 + w)) (I 74 (172 + w)) (I 74 178)
    have hm : ∀ i j, m i j ≤ 2178 := fun i j => by rw [em]; exact gd_d_le ok' true (hce i) (hce j)
    have m0 : m 0 0 = 0 := by rw [em]; exact (gd_is ok' true h0).1
    have l117 : ∃ x, rs_M_round_117 I a1 (nI w) a (nI s) 0 0 = some x ∧ ∃ I', x = ((if a = -nI 1 then nI (bs (cst m 0) (comps n n []) (2147483647, []) (comps n n []).length).1 else rd_ans a n s (bs (cst m 0) (comps n n []) (2147483647, []) (comps n n []).length).2), I') ∧ az_fr scM I I' := by
      unfold rs_M_round_117
      refine az_for0 (fun k (z : Int32 × Int32 × (Nat → Nat → Int32)) => z.1 = nI (gd_n (rb s) k) ∧ z.2.1 = nI k ∧ az_fr (fun r _ => r = 88) I z.2.2 ∧ ∀ i, i < gd_n (rb s) k → z.2.2 88 i = nI (ps s i)) np (by omega) ⟨rfl, rfl, az_fr.refl, fun _ q => absurd q (by show ¬ _ < 0; omega)⟩ ?_ ?_
      · intro k z hk hz
        obtain ⟨v5, v6, B⟩ := z
        obtain ⟨z1, z2, z3, z4⟩ := hz
        (try dsimp only at z1 z2 z3 z4)
        subst z1 z2
        have sh := rb_sh s hs8 k (by omega)
        have a1' : B 73 6 = nI np := by rw [z3 73 6 (by omega)]; exact c2
        have mo := gd_n_mo (rb s) (k + 1) 8 (by omega)
        cases hb : rb s k with
        | false =>
          rw [hb, if_neg (by decide)] at sh
          have e : gd_n (rb s) (k + 1) = gd_n (rb s) k := by show gd_n (rb s) k + _ = _; rw [hb, if_neg (by decide)]; rfl
          refine az_nxt (nI (gd_n (rb s) k), nI (k + 1), B) ?_ ⟨by rw [e], rfl, z3, by rw [e]; exact z4⟩
          (try dsimp only)
          unfold rs_M_round_117_b
          simp (disch := omega) only [bl_lit, lgl, lgg, lgl0, lgg0, lglm, lggm, az_us, az_un, az_ue, az_urn, az_ure, bz_lit, nI_leI, nI_ltI, nI_eq, nI_clamp, nI_add, pk_sub, pk_mul, bz_nlt, bz_nle, bz_ltn, bz_len, bz_neq, bz_eqn, bz_nn, ↓reduceIte, Bool.false_eq_true, if_pos, if_neg, a1', sh]
        | true =>
          rw [hb, if_pos rfl] at sh
          have e : gd_n (rb s) (k + 1) = gd_n (rb s) k + 1 := by show gd_n (rb s) k + _ = _; rw [hb, if_pos rfl]
          have pa := (ps_at s hs8 k (by omega) hb).1
          generalize hgk : gd_n (rb s) k = g at *
          rw [e, hg] at mo
          refine az_nxt (nI (g + 1), nI (k + 1), az_u B 88 g (nI k)) ?_ ⟨by rw [e], rfl, z3.u rfl, ?_⟩
          · (try dsimp only)
            unfold rs_M_round_117_b
            simp (disch := omega) only [bl_lit, lgl, lgg, lgl0, lgg0, lglm, lggm, az_us, az_un, az_ue, az_urn, az_ure, bz_lit, nI_leI, nI_ltI, nI_eq, nI_clamp, nI_add, pk_sub, pk_mul, bz_nlt, bz_nle, bz_ltn, bz_len, bz_neq, bz_eqn, bz_nn, ↓reduceIte, Bool.false_eq_true, if_pos, if_neg, a1', sh]
          · (try dsimp only)
            rw [e]
            intro i hi
            rcases Nat.lt_or_ge i g with x | x
            · rw [az_un (by omega)]; exact z4 i x
            · rw [show i = g by omega, az_us, pa]
      · intro z hz
        obtain ⟨v5, v6, B⟩ := z
        obtain ⟨z1, z2, z3, z4⟩ := hz
        (try dsimp only at z1 z2 z3 z4)
        rw [npn] at z1 z4
        subst z1 z2
        have a1' : B 73 6 = nI np := by rw [z3 73 6 (by omega)]; exact c2
        have fB : az_fr scM I B := z3.mono (fun r k z => by unfold scM; omega)
        have qB := q.fr (scM_sc fB)
        obtain ⟨I4, r4, f4, p4⟩ := pm_forS qB hB hw
        rw [fB 74 (160 + w) (by unfold scM; omega), fB 74 (166 + w) (by unfold scM; omega), fB 74 (172 + w) (by unfold scM; omega), fB 74 178 (by unfold scM; omega)] at p4
        obtain ⟨I5, r5, f5, f5', v5⟩ := pm_apart ok' q (fB.trans (dkS_M f4)) p4 (s := s) hs8 h0
        have e88 : ∀ k, k < n → I5 88 k = nI (tp s (((comps n n []).getD 0 []).getD k 0)) := by
          intro k hk
          rw [f5' 88 k (by omega), f4 88 k (by unfold dk_S; omega), (toy_0 n (by omega)).2.2 k hk]
          exact z4 k hk
        have e9 : ∀ x y, x ≤ n → y ≤ n → I5 89 (9 * tp s x + tp s y) = nI (m x y) := by
          have tcc : ∀ x, x ≤ n → ton s (tp s x) ∧ tcl c0 pc (tp s x) = tc c0 pc s x := by
            intro x hx
            cases x with
            | zero => exact ⟨Or.inl rfl, if_pos rfl⟩
            | succ x =>
              have a := ps_ok s hs8 x (by omega)
              exact ⟨Or.inr a.2.1, if_neg (show ps s x ≠ 8 by omega)⟩
          intro x y hx hy
          have b := v5 (tp s x) (tp_9 s x) (tcc x hx).1 (tp s y) (tp_9 s y) (tcc y hy).1
          rw [(tcc x hx).2, (tcc y hy).2] at b
          rw [b, em]
        have tl := toy_len n (by omega) 0 (toy_0 n (by omega)).1
        have r6 := pm_of (I := I5) n5 tl.1 tl.2 hm m0 e88 e9
        have C0 : cst m 0 ((comps n n []).getD 0 []) < 2147483647 := by have := cst_le hm ((comps n n []).getD 0 []) 0; rw [tl.1] at this; omega
        have b1 : bs (cst m 0) (comps n n []) (2147483647, []) 1 = (cst m 0 ((comps n n []).getD 0 []), (comps n n []).getD 0 []) := by
          show tstep (cst m 0) (2147483647, []) ((comps n n []).getD 0 []) = _
          unfold tstep
          rw [if_pos C0]
        obtain ⟨I6, r7, f7⟩ := pm_201 (a := a) hs8 hg n5 hm m0 f5 e9 e88
        rw [b1] at r7
        refine ⟨_, ?_, I6, rfl, f7⟩
        (try dsimp only)
        unfold rs_M_round_117_b rs_M_round_154
        rw [a1', if_pos (Int32.le_refl _), r4]
        (try dsimp only)
        rw [ea, r5]
        (try dsimp only)
        rw [r6]
        (try dsimp only at r7 ⊢)
        generalize (if a = -nI 1 then nI (bs (cst m 0) (comps n n []) (2147483647, []) (comps n n []).length).1 else rd_ans a n s (bs (cst m 0) (comps n n []) (2147483647, []) (comps n n []).length).2) = V at r7 ⊢
        unfold rd_ans at r7
        by_cases a0 : a < nI 0
        · rw [if_pos a0] at r7
          rw [if_pos (show a < 0 from a0)]
          rw [show rs_M_round_201 I5 a (nI n) (nI (cst m 0 ((comps n n []).getD 0 []))) (-2) = rs_M_round_201 I5 a (nI n) (nI (cst m 0 ((comps n n []).getD 0 []))) (-nI 2) from rfl]
          rw [r7]
          rfl
        · rw [if_neg a0] at r7
          rw [if_neg (show ¬ a < 0 from a0)]
          by_cases a1 : nI n ≤ a
          · rw [if_pos a1] at r7
            rw [if_pos a1]
            rw [show rs_M_round_201 I5 a (nI n) (nI (cst m 0 ((comps n n []).getD 0 []))) (-2) = rs_M_round_201 I5 a (nI n) (nI (cst m 0 ((comps n n []).getD 0 []))) (-nI 2) from rfl]
            rw [r7]
            rfl
          · rw [if_neg a1] at r7
            rw [if_neg a1]
            obtain ⟨j, hj, rfl⟩ := nI_of (show ¬ a < 0 from a0)
            rw [nI_leI (by omega) (by omega)] at a1
            rw [nI_clamp (by omega)] at r7
            rw [if_neg (nI_in (show j < 5 by omega) (by decide)), nI_clamp (by omega), e88 j (by omega), r7]
            rfl
    obtain ⟨x, hx, I', rfl, f'⟩ := l117
    refine ⟨I', l67 _ ?_, f'⟩
    unfold rs_M_round_102
    rw [if_pos (show nI n ≤ 5 from nI_le (by omega) (by decide))]
    exact hx
theorem mt_round (h : Rel I J rl rd) (a b d : Int32) : mt (rs_X_round rd rl I a b d) (fun I => rs_M_round I a b d) J rl rd := by
  obtain ⟨np, nw, L, hh, pc, pt, n1, n2, ⟨c1, c2, c3, c4⟩, hrl, hB, qX, qM, hw, hwe⟩ := h.w
  unfold rs_X_round rs_M_round
  by_cases a0 : a < nI 0
  · exact ⟨-nI 1, I, I, by simp (disch := omega) only [bl_lit, lgl, lgg, lgl0, lgg0, lglm, lggm, az_us, az_un, az_ue, az_urn, az_ure, bz_lit, nI_leI, nI_ltI, nI_eq, nI_clamp, nI_add, pk_sub, pk_mul, bz_nlt, bz_nle, bz_ltn, bz_len, bz_neq, bz_eqn, bz_nn, ↓reduceIte, Bool.false_eq_true, if_pos, if_neg, a0], by simp (disch := omega) only [bl_lit, lgl, lgg, lgl0, lgg0, lglm, lggm, az_us, az_un, az_ue, az_urn, az_ure, bz_lit, nI_leI, nI_ltI, nI_eq, nI_clamp, nI_add, pk_sub, pk_mul, bz_nlt, bz_nle, bz_ltn, bz_len, bz_neq, bz_eqn, bz_nn, ↓reduceIte, Bool.false_eq_true, if_pos, if_neg, a0], h⟩
  obtain ⟨n, hn, rfl⟩ := nI_of (show ¬ a < 0 from a0)
  have ea : nI n / 1000 = nI (n / 1000) := pk_div (a := n) (d := 1000) (by omega) (by omega) (by omega)
  have eb : nI n - nI n / 1000 * 1000 = nI (n % 1000) := pk_rem (a := n) (d := 1000) (by omega) (by omega) (by omega)
  have shn := sh_np np (by omega)
  have le2 : 2 ^ np ≤ 256 := Nat.pow_le_pow_right (by omega) n1
  have ge2 : 1 ≤ 2 ^ np := Nat.one_le_two_pow
  rw [eb, ea]
  have hc0 : n / 1000 ≤ 143 ∨ 143 < n / 1000 := by omega
  have hs3 : n % 1000 < 1000 := by omega
  have hcb : n / 1000 < 2 ^ 31 := by omega
  have pmr := fun I' (q' : wM I' L hh pc pt) (c2' : I' 73 6 = nI np) w (hw' : w < 6) (hs : n % 1000 < 2 ^ np) (hc : n / 1000 < 144) => pm_round (I := I') hB q' (qX.ok hB) (w := w) (s := n % 1000) (c0 := n / 1000) hw' n1 c2' hs hc rfl (nI n) d ea
  have pxt := fun (he lo sh we : Int32) (I' : Nat → Nat → Int32) (f0 : az_fr scX I I') (p : pq I' L hh he lo sh we) (hs : n % 1000 < 2 ^ np) (hc : n / 1000 < 144) (h5 : gd_n (rb (n % 1000)) 8 ≤ 5) => px_tour hrl hB qX f0 p n1 c1 hs hc h5
  have bcn := fun (hs : n % 1000 < 256) => ps_bc (n % 1000) hs
  have n8 := gd_n_le (rb (n % 1000)) 8
  have hcel := fun (hc : n / 1000 < 144) => tc_lt (s := n % 1000) hc (fun k hk => (qX.2.2 k hk).2.1)
  have pso := fun (hs : n % 1000 < 256) => ps_ok (n % 1000) hs
  generalize nI n = av at *
  generalize n / 1000 = c0 at *
  generalize n % 1000 = s at *
  generalize hg : gd_n (rb s) 8 = g at *
  rcases hc0 with hc | hc
  · by_cases hset : s < 2 ^ np
    · rcases ix b nw (by omega) with x | ⟨x, y⟩ | ⟨w, hww, rfl⟩
      · exact ⟨-nI 1, I, I, by simp (disch := omega) only [bl_lit, lgl, lgg, lgl0, lgg0, lglm, lggm, az_us, az_un, az_ue, az_urn, az_ure, bz_lit, nI_leI, nI_ltI, nI_eq, nI_clamp, nI_add, pk_sub, pk_mul, bz_nlt, bz_nle, bz_ltn, bz_len, bz_neq, bz_eqn, bz_nn, ↓reduceIte, Bool.false_eq_true, if_pos, if_neg, a0, x], by simp (disch := omega) only [bl_lit, lgl, lgg, lgl0, lgg0, lglm, lggm, az_us, az_un, az_ue, az_urn, az_ure, bz_lit, nI_leI, nI_ltI, nI_eq, nI_clamp, nI_add, pk_sub, pk_mul, bz_nlt, bz_nle, bz_ltn, bz_len, bz_neq, bz_eqn, bz_nn, ↓reduceIte, Bool.false_eq_true, if_pos, if_neg, a0, x, c2, shn], h⟩
      · exact ⟨-nI 1, I, I, by simp (disch := omega) only [bl_lit, lgl, lgg, lgl0, lgg0, lglm, lggm, az_us, az_un, az_ue, az_urn, az_ure, bz_lit, nI_leI, nI_ltI, nI_eq, nI_clamp, nI_add, pk_sub, pk_mul, bz_nlt, bz_nle, bz_ltn, bz_len, bz_neq, bz_eqn, bz_nn, ↓reduceIte, Bool.false_eq_true, if_pos, if_neg, a0, x, y, c3], by simp (disch := omega) only [bl_lit, lgl, lgg, lgl0, lgg0, lglm, lggm, az_us, az_un, az_ue, az_urn, az_ure, bz_lit, nI_leI, nI_ltI, nI_eq, nI_clamp, nI_add, pk_sub, pk_mul, bz_nlt, bz_nle, bz_ltn, bz_len, bz_neq, bz_eqn, bz_nn, ↓reduceIte, Bool.false_eq_true, if_pos, if_neg, a0, x, y, c2, c4, shn], h⟩
      · by_cases d0 : -nI 1 ≤ d
        · have bc := bcn (by omega)
          obtain ⟨g1, g2, g3⟩ := hw w (by omega)
          by_cases g5 : g ≤ 5
          · by_cases dg : d < nI g
            · obtain ⟨I1, r1, f1, p1⟩ := px_set hrl hB qX (w := w) (by omega)
              obtain ⟨I2, r2, f2, t2⟩ := pxt _ _ _ _ I1 f1 p1 hset (by omega) g5
              have ok := qX.ok hB (I 8 w) (I 9 w) (I 10 w) (I 4 10)
              have hm : ∀ i j, am hh (tt L (I 8 w) (I 9 w) (I 10 w) (I 4 10)) (tc c0 pc s i) (tc c0 pc s j) ≤ 2178 := fun i j => gd_d_le ok true (hcel (by omega) i) (hcel (by omega) j)
              generalize hM : (fun i j => am hh (tt L (I 8 w) (I 9 w) (I 10 w) (I 4 10)) (tc c0 pc s i) (tc c0 pc s j)) = m at *
              have hm : ∀ i j, m i j ≤ 2178 := fun i j => by rw [← hM]; exact hm i j
              have t3 : tr_in (az_u I2 39 5 (nI 2147483647)) g (fun i => ps s (i - 1)) m := t2.fr (az_fr.refl.u (by unfold tr_F; omega))
              obtain ⟨I3, r3, f3, s3, _⟩ := tr_go g (az_u I2 39 5 (nI 2147483647)) (2147483647, []) [] 0 0 0 (59 - g) t3 ⟨az_us, Nat.le_refl _, fun k hk => absurd hk (by show ¬ _ < 0; omega)⟩ (by show 0 + g = g; omega) (Nat.zero_le g) (by omega) (by omega)
                (fun q _ _ => by show (0 / 2 ^ q % 2 == 1) = _; rw [Nat.zero_div]; rfl) (fun k hk => absurd hk (by show ¬ _ < 0; omega)) (fun l => by show cst m 0 l = 0 + cst m 0 l; omega)
              rw [show 59 - g + g + 1 = 60 by omega] at r3
              have r4 : rs_To_findBest I2 = some I3 := by
                unfold rs_To_findBest
                rw [show rs_G2 60 81 0 0 0 0 (az_u I2 39 5 2147483647) = some (0, I3) from r3]
              have mp : (comps g g []).map (fun l => [] ++ l) = comps g g [] := by
                rw [show (fun l : List Nat => [] ++ l) = id from rfl, List.map_id]
              rw [mp, bs_fold] at s3
              have f13 : az_fr scX I I3 := (f2.u (by unfold scX; omega)).trans (f3.mono (fun r k z => by unfold tr_F at z; unfold scX; omega))
              have c4' : I3 73 7 = nI nw := by rw [f13 73 7 (by unfold scX; omega)]; exact c4
              have c2' : I3 73 6 = nI np := by rw [f13 73 6 (by unfold scX; omega)]; exact c2
              have qM' := qM.fr (scX_sc f13)
              have em : m = (fun i j => am hh (tt L (I3 74 (160 + w)) (I3 74 (166 + w)) (I3 74 (172 + w)) (I3 74 178)) (tc c0 pc s i) (tc c0 pc s j)) := by
                rw [f13 74 (160 + w) (by unfold scX; omega), f13 74 (166 + w) (by unfold scX; omega), f13 74 (172 + w) (by unfold scX; omega), f13 74 178 (by unfold scX; omega), g1, g2, g3, hwe]
                exact hM.symm
              obtain ⟨I4, r5, f5⟩ := (pmr I3 qM' c2' w (by omega) hset (by omega)).2 g5 m em
              have len := toy_0 g (by omega)
              have hC : ∀ l : List Nat, l.length = g → cst m 0 l < 2147483647 := fun l hl => by have := cst_le hm l 0; rw [hl] at this; omega
              have bsi := bs_in (C := cst m 0) (n := g) (by omega) hC ((comps g g []).length - 1) (by omega)
              have bsj := bs_in2 (C := cst m 0) (n := g) (by omega) hC ((comps g g []).length - 1) (by omega)
              rw [show (comps g g []).length - 1 + 1 = (comps g g []).length by omega] at bsi bsj
              generalize bs (cst m 0) (comps g g []) (2147483647, []) (comps g g []).length = best at *
              obtain ⟨s31, s32, s33⟩ := s3
              replace r5 : rs_M_round_67 I3 av (nI w) d (nI s) (nI 0) (nI 0) = _ := r5
              by_cases dm : d = -nI 1
              · subst dm
                rw [if_pos rfl] at r5
                refine mt_mk (I1 := I3) (I2 := I4) h (nI best.1) ?_ f13 ?_ f5
                · simp (disch := omega) only [sub_lt, le_sub, bl_lit, lgl, lgg, lgl0, lgg0, lglm, lggm, az_us, az_un, az_ue, az_urn, az_ure, bz_lit, nI_leI, nI_ltI, nI_eq, nI_clamp, nI_add, pk_sub, pk_mul, bz_nlt, bz_nle, bz_ltn, bz_len, bz_neq, bz_eqn, bz_nn, ↓reduceIte, Bool.false_eq_true, if_pos, if_neg, a0, c1, c3, shn, d0, bc, dg, r1, r2, r4, s31]
                · (try dsimp only)
                  simp (disch := omega) only [sub_lt, le_sub, bl_lit, lgl, lgg, lgl0, lgg0, lglm, lggm, az_us, az_un, az_ue, az_urn, az_ure, bz_lit, nI_leI, nI_ltI, nI_eq, nI_clamp, nI_add, pk_sub, pk_mul, bz_nlt, bz_nle, bz_ltn, bz_len, bz_neq, bz_eqn, bz_nn, ↓reduceIte, Bool.false_eq_true, if_pos, if_neg, a0, c2', c4', shn, d0, r5]
              · have d1 : ¬ d < nI 0 := by
                  intro z
                  apply dm
                  apply Int32.toInt_inj.mp
                  rw [Int32.lt_iff_toInt_lt] at z
                  rw [Int32.le_iff_toInt_le] at d0
                  have e1 : (-nI 1).toInt = -1 := by decide
                  have e2 : (nI 0).toInt = 0 := by decide
                  omega
                obtain ⟨k, hk, rfl⟩ := nI_of (show ¬ d < 0 from d1)
                have dg' : k < g := by rw [nI_ltI (by omega) (by omega)] at dg; exact dg
                rw [if_neg dm] at r5
                unfold rd_ans at r5
                rw [if_neg d1, if_neg (by rw [nI_leI (by omega) (by omega)]; omega), nI_clamp (by omega)] at r5
                have x3 := s33 k (by omega)
                have tpe : tp s (best.2.getD k 0) = ps s (best.2.getD k 0 - 1) := by
                  have := bsj k dg'
                  obtain ⟨u, hu⟩ : ∃ u, best.2.getD k 0 = u + 1 := ⟨best.2.getD k 0 - 1, by omega⟩
                  rw [hu]
                  rfl
                refine mt_mk (I1 := I3) (I2 := I4) h (nI (tp s (best.2.getD k 0))) ?_ f13 ?_ f5
                · rw [tpe]
                  simp (disch := omega) only [sub_lt, le_sub, bl_lit, lgl, lgg, lgl0, lgg0, lglm, lggm, az_us, az_un, az_ue, az_urn, az_ure, bz_lit, nI_leI, nI_ltI, nI_eq, nI_clamp, nI_add, pk_sub, pk_mul, bz_nlt, bz_nle, bz_ltn, bz_len, bz_neq, bz_eqn, bz_nn, ↓reduceIte, Bool.false_eq_true, if_pos, if_neg, a0, c1, c3, shn, d0, bc, dm, r1, r2, r4, x3]
                · (try dsimp only)
                  simp (disch := omega) only [sub_lt, le_sub, bl_lit, lgl, lgg, lgl0, lgg0, lglm, lggm, az_us, az_un, az_ue, az_urn, az_ure, bz_lit, nI_leI, nI_ltI, nI_eq, nI_clamp, nI_add, pk_sub, pk_mul, bz_nlt, bz_nle, bz_ltn, bz_len, bz_neq, bz_eqn, bz_nn, ↓reduceIte, Bool.false_eq_true, if_pos, if_neg, a0, c2', c4', shn, d0, r5]
            · have c4' := c4
              obtain ⟨I4, r5, f5⟩ := (pmr I qM c2 w (by omega) hset (by omega)).2 g5 _ rfl
              replace r5 : rs_M_round_67 I av (nI w) d (nI s) (nI 0) (nI 0) = _ := r5
              have d1 : ¬ d < nI 0 := fun z => dg (by
                rw [Int32.lt_iff_toInt_lt] at z ⊢
                have e2 : (nI 0).toInt = 0 := by decide
                have e3 : (nI g).toInt = (g : Int) := nI_toInt (by omega)
                omega)
              have dm : ¬ d = -nI 1 := fun z => d1 (by rw [z]; decide)
              rw [if_neg dm] at r5
              unfold rd_ans at r5
              rw [if_neg d1, if_pos (Int32.not_lt.mp dg)] at r5
              refine mt_mk (I1 := I) (I2 := I4) h (-nI 2) ?_ az_fr.refl ?_ f5
              · simp (disch := omega) only [sub_lt, le_sub, bl_lit, lgl, lgg, lgl0, lgg0, lglm, lggm, az_us, az_un, az_ue, az_urn, az_ure, bz_lit, nI_leI, nI_ltI, nI_eq, nI_clamp, nI_add, pk_sub, pk_mul, bz_nlt, bz_nle, bz_ltn, bz_len, bz_neq, bz_eqn, bz_nn, ↓reduceIte, Bool.false_eq_true, if_pos, if_neg, a0, c1, c3, shn, d0, bc, dg]
              · (try dsimp only)
                simp (disch := omega) only [sub_lt, le_sub, bl_lit, lgl, lgg, lgl0, lgg0, lglm, lggm, az_us, az_un, az_ue, az_urn, az_ure, bz_lit, nI_leI, nI_ltI, nI_eq, nI_clamp, nI_add, pk_sub, pk_mul, bz_nlt, bz_nle, bz_ltn, bz_len, bz_neq, bz_eqn, bz_nn, ↓reduceIte, Bool.false_eq_true, if_pos, if_neg, a0, c2, c4, shn, d0, r5]
          · have r5 : rs_M_round_67 I av (nI w) d (nI s) (nI 0) (nI 0) = _ := (pmr I qM c2 w (by omega) hset (by omega)).1 (by omega)
            exact ⟨-nI 5, I, I, by simp (disch := omega) only [sub_lt, le_sub, bl_lit, lgl, lgg, lgl0, lgg0, lglm, lggm, az_us, az_un, az_ue, az_urn, az_ure, bz_lit, nI_leI, nI_ltI, nI_eq, nI_clamp, nI_add, pk_sub, pk_mul, bz_nlt, bz_nle, bz_ltn, bz_len, bz_neq, bz_eqn, bz_nn, ↓reduceIte, Bool.false_eq_true, if_pos, if_neg, a0, c1, c3, shn, d0, bc], by simp (disch := omega) only [sub_lt, le_sub, bl_lit, lgl, lgg, lgl0, lgg0, lglm, lggm, az_us, az_un, az_ue, az_urn, az_ure, bz_lit, nI_leI, nI_ltI, nI_eq, nI_clamp, nI_add, pk_sub, pk_mul, bz_nlt, bz_nle, bz_ltn, bz_len, bz_neq, bz_eqn, bz_nn, ↓reduceIte, Bool.false_eq_true, if_pos, if_neg, a0, c2, c4, shn, d0, r5], h⟩
        · exact ⟨-nI 1, I, I, by simp (disch := omega) only [sub_lt, le_sub, bl_lit, lgl, lgg, lgl0, lgg0, lglm, lggm, az_us, az_un, az_ue, az_urn, az_ure, bz_lit, nI_leI, nI_ltI, nI_eq, nI_clamp, nI_add, pk_sub, pk_mul, bz_nlt, bz_nle, bz_ltn, bz_len, bz_neq, bz_eqn, bz_nn, ↓reduceIte, Bool.false_eq_true, if_pos, if_neg, a0, c1, c3, shn, d0], by simp (disch := omega) only [sub_lt, le_sub, bl_lit, lgl, lgg, lgl0, lgg0, lglm, lggm, az_us, az_un, az_ue, az_urn, az_ure, bz_lit, nI_leI, nI_ltI, nI_eq, nI_clamp, nI_add, pk_sub, pk_mul, bz_nlt, bz_nle, bz_ltn, bz_len, bz_neq, bz_eqn, bz_nn, ↓reduceIte, Bool.false_eq_true, if_pos, if_neg, a0, c2, c4, shn, d0], h⟩
    · refine ⟨-nI 1, I, I, ?_, by simp (disch := omega) only [bl_lit, lgl, lgg, lgl0, lgg0, lglm, lggm, az_us, az_un, az_ue, az_urn, az_ure, bz_lit, nI_leI, nI_ltI, nI_eq, nI_clamp, nI_add, pk_sub, pk_mul, bz_nlt, bz_nle, bz_ltn, bz_len, bz_neq, bz_eqn, bz_nn, ↓reduceIte, Bool.false_eq_true, if_pos, if_neg, a0, c2, shn], h⟩
      rcases ix b nw (by omega) with x | ⟨x, y⟩ | ⟨w, hww, rfl⟩
      · simp (disch := omega) only [bl_lit, lgl, lgg, lgl0, lgg0, lglm, lggm, az_us, az_un, az_ue, az_urn, az_ure, bz_lit, nI_leI, nI_ltI, nI_eq, nI_clamp, nI_add, pk_sub, pk_mul, bz_nlt, bz_nle, bz_ltn, bz_len, bz_neq, bz_eqn, bz_nn, ↓reduceIte, Bool.false_eq_true, if_pos, if_neg, a0, x]
      · simp (disch := omega) only [bl_lit, lgl, lgg, lgl0, lgg0, lglm, lggm, az_us, az_un, az_ue, az_urn, az_ure, bz_lit, nI_leI, nI_ltI, nI_eq, nI_clamp, nI_add, pk_sub, pk_mul, bz_nlt, bz_nle, bz_ltn, bz_len, bz_neq, bz_eqn, bz_nn, ↓reduceIte, Bool.false_eq_true, if_pos, if_neg, a0, x, y, c3]
      · by_cases d0 : -nI 1 ≤ d
        · simp (disch := omega) only [sub_lt, le_sub, bl_lit, lgl, lgg, lgl0, lgg0, lglm, lggm, az_us, az_un, az_ue, az_urn, az_ure, bz_lit, nI_leI, nI_ltI, nI_eq, nI_clamp, nI_add, pk_sub, pk_mul, bz_nlt, bz_nle, bz_ltn, bz_len, bz_neq, bz_eqn, bz_nn, ↓reduceIte, Bool.false_eq_true, if_pos, if_neg, a0, c1, c3, shn, d0]
        · simp (disch := omega) only [sub_lt, le_sub, bl_lit, lgl, lgg, lgl0, lgg0, lglm, lggm, az_us, az_un, az_ue, az_urn, az_ure, bz_lit, nI_leI, nI_ltI, nI_eq, nI_clamp, nI_add, pk_sub, pk_mul, bz_nlt, bz_nle, bz_ltn, bz_len, bz_neq, bz_eqn, bz_nn, ↓reduceIte, Bool.false_eq_true, if_pos, if_neg, a0, c1, c3, shn, d0]
  · exact ⟨-nI 1, I, I, by simp (disch := omega) only [bl_lit, lgl, lgg, lgl0, lgg0, lglm, lggm, az_us, az_un, az_ue, az_urn, az_ure, bz_lit, nI_leI, nI_ltI, nI_eq, nI_clamp, nI_add, pk_sub, pk_mul, bz_nlt, bz_nle, bz_ltn, bz_len, bz_neq, bz_eqn, bz_nn, ↓reduceIte, Bool.false_eq_true, if_pos, if_neg, a0], by simp (disch := omega) only [bl_lit, lgl, lgg, lgl0, lgg0, lglm, lggm, az_us, az_un, az_ue, az_urn, az_ure, bz_lit, nI_leI, nI_ltI, nI_eq, nI_clamp, nI_add, pk_sub, pk_mul, bz_nlt, bz_nle, bz_ltn, bz_len, bz_neq, bz_eqn, bz_nn, ↓reduceIte, Bool.false_eq_true, if_pos, if_neg, a0], h⟩
end

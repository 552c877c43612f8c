theorem az_ai_ok {ex : az_X} {s : Nat} {I : Nat → Nat → Int32} {J : Nat → Nat → Int64} {R : Nat → Nat → Option Nat} {r n : Nat} {i : Int32} (h3 : Nat.blt r 3 = false) (hk : (az_k az_F s r).map (fun p => (p.1, p.2.1)) = some (1, n)) (hc : ¬ (i < 0 ∨ n ≤ i.toNatClampNeg)) : az_ai az_F ex (s, I, J, R) r i = some (I r i.toNatClampNeg) := by
  have h3 : ¬ r < 3 := by
    intro hl
    have := Nat.blt_eq.mpr hl
    rw [h3] at this
    cases this
  unfold az_ai
  rw [if_neg h3]
  show (match az_k az_F s r with | some (1, n, _) => if i < 0 ∨ n ≤ i.toNatClampNeg then none else some (I r i.toNatClampNeg) | _ => none) = _
  cases hq : az_k az_F s r with
  | none => rw [hq] at hk; cases hk
  | some p =>
    obtain ⟨a, b, c⟩ := p
    rw [hq] at hk
    cases hk
    exact if_neg hc
theorem az_si_ok {s : Nat} {I : Nat → Nat → Int32} {J : Nat → Nat → Int64} {R : Nat → Nat → Option Nat} {r n : Nat} {i x : Int32} (hk : (az_k az_F s r).map (fun p => (p.1, p.2.1)) = some (1, n)) (hc : ¬ (i < 0 ∨ n ≤ i.toNatClampNeg)) : az_si az_F (s, I, J, R) r i x = some (s, az_u I r i.toNatClampNeg x, J, R) := by
  unfold az_si
  show (match az_k az_F s r with | some (1, n, _) => if i < 0 ∨ n ≤ i.toNatClampNeg then none else some (s, az_u I r i.toNatClampNeg x, J, R) | _ => none) = _
  cases hq : az_k az_F s r with
  | none => rw [hq] at hk; cases hk
  | some p =>
    obtain ⟨a, b, c⟩ := p
    rw [hq] at hk
    cases hk
    exact if_neg hc
set_option maxRecDepth 100000 in
set_option maxHeartbeats 4000000 in
theorem re_G1_21 {ex : az_X} : ∀ n : Nat, (∀ (b1 b2 b3 b4 : Int32) (I : Nat → Nat → Int32) (o : Int32 × (Nat → Nat → Int32)), rs_G1 21 n 69 b1 b2 b3 b4 I = some o → ∀ {J : Nat → Nat → Int64} {R : Nat → Nat → Option Nat} {Q : Option Value → az_S → Prop}, R 14 4 = some 21 → Q none (97, o.2, J, R) → az_E az_F ex (n * 2) 69 0 [.ref 14, .int b1, .int b2, .retAddr 0, .retAddr 0] [] (97, I, J, R) Q) ∧ (∀ (b1 b2 b3 b4 : Int32) (I : Nat → Nat → Int32) (o : Int32 × (Nat → Nat → Int32)), rs_G1 21 n 71 b1 b2 b3 b4 I = some o → ∀ {J : Nat → Nat → Int64} {R : Nat → Nat → Option Nat} {Q : Option Value → az_S → Prop}, R 14 4 = some 21 → Q none (97, o.2, J, R) → az_E az_F ex (n * 2) 71 0 [.ref 14, .int b1, .retAddr 0] [] (97, I, J, R) Q) := by
  intro n
  induction n with
  | zero =>
    refine ⟨?_, ?_⟩
    all_goals (intro b1 b2 b3 b4 I o h; cases h)
  | succ n ih =>
    obtain ⟨hg_69, hg_71⟩ := ih
    have e : (n + 1) * 2 = n * 2 + 2 := by omega
    rw [e]
    refine ⟨?_, ?_⟩
    · intro b1 b2 b3 b4 I o h J R Q hR_14_4 hQ
      replace h : (rs_Ta_readLevel (rs_G1 21 n) 21 I b1 b2).map (fun I => ((0 : Int32), I)) = some o := h
      obtain ⟨I1, hI, rfl⟩ := Option.map_eq_some_iff.mp h
      exact re_Ta_readLevel_21 hg_69 hg_71 hR_14_4 hI hQ
    · intro b1 b2 b3 b4 I o h J R Q hR_14_4 hQ
      replace h : (rs_Ta_readOperand (rs_G1 21 n) 21 I b1).map (fun I => ((0 : Int32), I)) = some o := h
      obtain ⟨I1, hI, rfl⟩ := Option.map_eq_some_iff.mp h
      exact re_Ta_readOperand_21 hg_69 hg_71 hR_14_4 hI hQ
set_option maxRecDepth 100000 in
set_option maxHeartbeats 4000000 in
theorem re_G1_69_21 {ex : az_X} {n : Nat} : ∀ (b1 b2 b3 b4 : Int32) (I : Nat → Nat → Int32) (o : Int32 × (Nat → Nat → Int32)), rs_G1 21 n 69 b1 b2 b3 b4 I = some o → ∀ {J : Nat → Nat → Int64} {R : Nat → Nat → Option Nat} {Q : Option Value → az_S → Prop}, R 14 4 = some 21 → Q none (97, o.2, J, R) → az_E az_F ex (n * 2) 69 0 [.ref 14, .int b1, .int b2, .retAddr 0, .retAddr 0] [] (97, I, J, R) Q := (re_G1_21 n).1
set_option maxRecDepth 100000 in
set_option maxHeartbeats 4000000 in
theorem re_G1_71_21 {ex : az_X} {n : Nat} : ∀ (b1 b2 b3 b4 : Int32) (I : Nat → Nat → Int32) (o : Int32 × (Nat → Nat → Int32)), rs_G1 21 n 71 b1 b2 b3 b4 I = some o → ∀ {J : Nat → Nat → Int64} {R : Nat → Nat → Option Nat} {Q : Option Value → az_S → Prop}, R 14 4 = some 21 → Q none (97, o.2, J, R) → az_E az_F ex (n * 2) 71 0 [.ref 14, .int b1, .retAddr 0] [] (97, I, J, R) Q := (re_G1_21 n).2
set_option maxRecDepth 100000 in
set_option maxHeartbeats 4000000 in
theorem re_La_join_21 {ex : az_X} {I : Nat → Nat → Int32} {J : Nat → Nat → Int64} {R : Nat → Nat → Option Nat} {a1 : Int32} {a2 : Int32} {o : (Nat → Nat → Int32)} (h : rs_La_join 21 I a1 a2 = some o) {Q : Option Value → az_S → Prop} (hQ : Q none (97, o, J, R)) : az_E az_F ex 1 29 0 [.ref 21, .int a1, .int a2] [] (97, I, J, R) Q := by
  unfold rs_La_join at h
  refine az_E.sn 6 (pc' := 8) (L' := [.ref 21, .int a1, .int a2]) (S' := [.int ((I 21 4) - (1 : Int32)), .int (0 : Int32), .int a1]) (σ' := (97, I, J, R)) rfl ?_
  refine az_E.call (d := 0) (k' := 131) (vs := [.int a1, .int (0 : Int32), .int ((I 21 4) - (1 : Int32))]) (pc' := 11) (S' := []) rfl ?_ (fun _ _ hq => hq)
  show az_E az_F ex 0 131 0 [.int a1, .int (0 : Int32), .int ((I 21 4) - (1 : Int32))] [] (97, I, J, R) _
  refine az_E.sn 2 (pc' := 2) (L' := [.int a1, .int (0 : Int32), .int ((I 21 4) - (1 : Int32))]) (S' := [.int (0 : Int32), .int a1]) (σ' := (97, I, J, R)) rfl ?_
  refine az_E.br (c := a1 < (0 : Int32)) (tt := 14) (ff := 5) (L' := [.int a1, .int (0 : Int32), .int ((I 21 4) - (1 : Int32))]) (S' := []) (σ' := (97, I, J, R)) rfl (fun hc_1 => ?_) (fun hc_1 => ?_)
  · rw [if_pos hc_1] at h
    refine az_E.sn 1 (pc' := 15) (L' := [.int a1, .int (0 : Int32), .int ((I 21 4) - (1 : Int32))]) (S' := [.int (0 : Int32)]) (σ' := (97, I, J, R)) rfl ?_
    refine az_E.ret (v := some (.int (0 : Int32))) (σ' := (97, I, J, R)) rfl ?_
    show az_E az_F ex 1 29 11 [.ref 21, .int a1, .int a2] [.int (0 : Int32)] (97, I, J, R) _
    refine az_E.br (c := (0 : Int32) = 0) (tt := 26) (ff := 14) (L' := [.ref 21, .int a1, .int a2]) (S' := []) (σ' := (97, I, J, R)) rfl (fun _ => ?_) (fun hn => absurd (by decide) hn)
    have h := Option.some.inj h
    subst h
    exact az_E.ret (v := none) (σ' := (97, I, J, R)) rfl hQ
  · rw [if_neg hc_1] at h
    refine az_E.sn 2 (pc' := 7) (L' := [.int a1, .int (0 : Int32), .int ((I 21 4) - (1 : Int32))]) (S' := [.int ((I 21 4) - (1 : Int32)), .int a1]) (σ' := (97, I, J, R)) rfl ?_
    refine az_E.br (c := ((I 21 4) - (1 : Int32)) < a1) (tt := 14) (ff := 10) (L' := [.int a1, .int (0 : Int32), .int ((I 21 4) - (1 : Int32))]) (S' := []) (σ' := (97, I, J, R)) rfl (fun hc_2 => ?_) (fun hc_2 => ?_)
    · rw [if_pos hc_2] at h
      refine az_E.sn 1 (pc' := 15) (L' := [.int a1, .int (0 : Int32), .int ((I 21 4) - (1 : Int32))]) (S' := [.int (0 : Int32)]) (σ' := (97, I, J, R)) rfl ?_
      refine az_E.ret (v := some (.int (0 : Int32))) (σ' := (97, I, J, R)) rfl ?_
      show az_E az_F ex 1 29 11 [.ref 21, .int a1, .int a2] [.int (0 : Int32)] (97, I, J, R) _
      refine az_E.br (c := (0 : Int32) = 0) (tt := 26) (ff := 14) (L' := [.ref 21, .int a1, .int a2]) (S' := []) (σ' := (97, I, J, R)) rfl (fun _ => ?_) (fun hn => absurd (by decide) hn)
      have h := Option.some.inj h
      subst h
      exact az_E.ret (v := none) (σ' := (97, I, J, R)) rfl hQ
    · rw [if_neg hc_2] at h
      refine az_E.sn 2 (pc' := 15) (L' := [.int a1, .int (0 : Int32), .int ((I 21 4) - (1 : Int32))]) (S' := [.int (1 : Int32)]) (σ' := (97, I, J, R)) rfl ?_
      refine az_E.ret (v := some (.int (1 : Int32))) (σ' := (97, I, J, R)) rfl ?_
      show az_E az_F ex 1 29 11 [.ref 21, .int a1, .int a2] [.int (1 : Int32)] (97, I, J, R) _
      refine az_E.br (c := (1 : Int32) = 0) (tt := 26) (ff := 14) (L' := [.ref 21, .int a1, .int a2]) (S' := []) (σ' := (97, I, J, R)) rfl (fun hn => absurd hn (by decide)) (fun _ => ?_)
      refine az_E.sn 2 (pc' := 16) (L' := [.ref 21, .int a1, .int a2]) (S' := [.int a2, .int a1]) (σ' := (97, I, J, R)) rfl ?_
      refine az_E.br (c := a2 ≤ a1) (tt := 26) (ff := 19) (L' := [.ref 21, .int a1, .int a2]) (S' := []) (σ' := (97, I, J, R)) rfl (fun hc_3 => ?_) (fun hc_3 => ?_)
      · rw [if_pos hc_3] at h
        have h := Option.some.inj h
        subst h
        exact az_E.ret (v := none) (σ' := (97, I, J, R)) rfl hQ
      · rw [if_neg hc_3] at h
        refine az_E.sn 4 (pc' := 25) (L' := [.ref 21, .int a1, .int a2]) (S' := [.int a2, .int a1, .ref (21 + 2)]) (σ' := (97, I, J, R)) rfl ?_
        by_cases hc_4 : a1 < 0 ∨ 121 ≤ a1.toNatClampNeg
        · rw [if_pos hc_4] at h; cases h
        · rw [if_neg hc_4] at h
          refine az_E.o (o := az_si az_F (97, I, J, R) (21 + 2) a1 a2) (pc' := 26) (L' := [.ref 21, .int a1, .int a2]) (S' := []) (x := (97, (az_u I (21 + 2) a1.toNatClampNeg a2), J, R)) rfl (if_neg hc_4) ?_
          have h := Option.some.inj h
          subst h
          exact az_E.ret (v := none) (σ' := (97, (az_u I (21 + 2) a1.toNatClampNeg a2), J, R)) rfl hQ
set_option maxRecDepth 100000 in
set_option maxHeartbeats 4000000 in
theorem re_Ta_readLine_70_21 {ex : az_X} {I : Nat → Nat → Int32} {J : Nat → Nat → Int64} {R : Nat → Nat → Option Nat} (hR_14_4 : R 14 4 = some 21) {x : (Nat → Nat → Int32)} (h : rs_Ta_readLine_70 21 I = some x) {Q : Option Value → az_S → Prop} (hQ : Q none (97, x, J, R)) : az_E az_F ex 121 68 70 [.ref 14, .retAddr 0] [] (97, I, J, R) Q := by
  unfold rs_Ta_readLine_70 at h
  refine az_E.sn 1 (pc' := 71) (L' := [.ref 14, .retAddr 0]) (S' := [.ref 14]) (σ' := (97, I, J, R)) rfl ?_
  refine az_E.ov (pc' := 74) (L' := [.ref 14, .retAddr 0]) (S' := []) (σ' := (97, I, J, R)) (x := .ref 21) rfl (congrArg (fun z => some (va_rf z)) hR_14_4) ?_
  refine az_E.sn 2 (pc' := 77) (L' := [.ref 14, .retAddr 0]) (S' := [.int (0 : Int32), .int (59 : Int32), .ref 21]) (σ' := (97, I, J, R)) rfl ?_
  cases hx_7 : rs_La_add 21 I (59 : Int32) (0 : Int32) with
  | none => rw [hx_7] at h; cases h
  | some o =>
    rw [hx_7] at h
    obtain ⟨x_5, I_6⟩ := o
    dsimp only at h
    refine az_E.call (d := 120) (k' := 28) (vs := [.ref 21, .int (59 : Int32), .int (0 : Int32)]) (pc' := 80) (S' := []) (Q1 := fun v s => v = some (.int x_5) ∧ s = (97, I_6, J, R)) rfl (az_E.deep (by omega) (re_La_add_21 (J := J) (R := R)  hx_7 ⟨rfl, rfl⟩)) (fun v s hq => ?_)
    obtain ⟨rfl, rfl⟩ := hq
    show az_E az_F ex 121 68 80 [.ref 14, .retAddr 0] [.int x_5] (97, I_6, J, R) _
    refine az_E.sn 1 (pc' := 81) (L' := [.ref 14, .retAddr 0]) (S' := []) (σ' := (97, I_6, J, R)) rfl ?_
    have h := Option.some.inj h
    subst h
    exact az_E.ret (v := none) (σ' := (97, I_6, J, R)) rfl hQ
set_option maxRecDepth 100000 in
set_option maxHeartbeats 4000000 in
theorem re_Ta_readLine_21 {ex : az_X} {I : Nat → Nat → Int32} {J : Nat → Nat → Int64} {R : Nat → Nat → Option Nat} (hR_14_4 : R 14 4 = some 21) {o : (Nat → Nat → Int32)} (h : rs_Ta_readLine 21 I = some o) {Q : Option Value → az_S → Prop} (hQ : Q none (97, o, J, R)) : az_E az_F ex 121 68 0 [.ref 14, .retAddr 0] [] (97, I, J, R) Q := by
  unfold rs_Ta_readLine at h
  refine az_E.sn 3 (pc' := 3) (L' := [.ref 14, .retAddr 0]) (S' := [.int (0 : Int32), .int (0 : Int32), .ref 14]) (σ' := (97, I, J, R)) rfl ?_
  cases hx_3 : rs_G1 21 60 69 (0 : Int32) (0 : Int32) 0 0 I with
  | none => rw [hx_3] at h; cases h
  | some o =>
    rw [hx_3] at h
    obtain ⟨x_1, I_2⟩ := o
    dsimp only at h
    refine az_E.call (d := 120) (k' := 69) (vs := [.ref 14, .int (0 : Int32), .int (0 : Int32)]) (pc' := 6) (S' := []) (Q1 := fun v s => v = none ∧ s = (97, I_2, J, R)) rfl (az_E.deep (by omega) (re_G1_69_21 (n := 60) _ _ _ _ _ _ hx_3 (J := J) (R := R) hR_14_4 ⟨rfl, rfl⟩)) (fun v s hq => ?_)
    obtain ⟨rfl, rfl⟩ := hq
    show az_E az_F ex 121 68 6 [.ref 14, .retAddr 0] [] (97, I_2, J, R) _
    refine az_E.sn 2 (pc' := 10) (L' := [.ref 14, .retAddr 0]) (S' := [.int (I_2 14 3)]) (σ' := (97, I_2, J, R)) rfl ?_
    refine az_E.br (c := 0 ≤ (I_2 14 3)) (tt := 70) (ff := 13) (L' := [.ref 14, .retAddr 0]) (S' := []) (σ' := (97, I_2, J, R)) rfl (fun hc_4 => ?_) (fun hc_4 => ?_)
    · rw [if_pos hc_4] at h
      exact az_E.forget (L := [.ref 14, .retAddr 0]) ⟨rfl, trivial, trivial⟩ (re_Ta_readLine_70_21 (I := I_2) (J := J) (R := R) hR_14_4 h hQ)
    · rw [if_neg hc_4] at h
      refine az_E.sn 1 (pc' := 14) (L' := [.ref 14, .retAddr 0]) (S' := [.ref 14]) (σ' := (97, I_2, J, R)) rfl ?_
      refine az_E.call (d := 120) (k' := 66) (vs := [.ref 14]) (pc' := 17) (S' := []) rfl ?_ (fun _ _ hq => hq)
      show az_E az_F ex 120 66 0 [.ref 14] [] (97, I_2, J, R) _
      refine az_E.sn 2 (pc' := 4) (L' := [.ref 14]) (S' := [.int (I_2 14 2)]) (σ' := (97, I_2, J, R)) rfl ?_
      refine az_E.br (c := (I_2 14 2) < 0) (tt := 30) (ff := 7) (L' := [.ref 14]) (S' := []) (σ' := (97, I_2, J, R)) rfl (fun hc_8 => ?_) (fun hc_8 => ?_)
      · rw [if_pos hc_8] at h
        refine az_E.sn 1 (pc' := 31) (L' := [.ref 14]) (S' := [.int (-1 : Int32)]) (σ' := (97, I_2, J, R)) rfl ?_
        refine az_E.ret (v := some (.int (-1 : Int32))) (σ' := (97, I_2, J, R)) rfl ?_
        show az_E az_F ex 121 68 17 [.ref 14, .retAddr 0] [.int (-1 : Int32)] (97, I_2, J, R) _
        refine az_E.sn 1 (pc' := 19) (L' := [.ref 14, .retAddr 0]) (S' := [.int (63 : Int32), .int (-1 : Int32)]) (σ' := (97, I_2, J, R)) rfl ?_
        refine az_E.br (c := (-1 : Int32) = (63 : Int32)) (tt := 22) (ff := 70) (L' := [.ref 14, .retAddr 0]) (S' := []) (σ' := (97, I_2, J, R)) rfl (fun hn => absurd hn (by decide)) (fun _ => ?_)
        exact az_E.forget (L := [.ref 14, .retAddr 0]) ⟨rfl, trivial, trivial⟩ (re_Ta_readLine_70_21 (I := I_2) (J := J) (R := R) hR_14_4 h hQ)
      · rw [if_neg hc_8] at h
        refine az_E.sn 4 (pc' := 15) (L' := [.ref 14]) (S' := [.int (I_2 14 1), .int (I_2 14 2)]) (σ' := (97, I_2, J, R)) rfl ?_
        refine az_E.br (c := (I_2 14 1) ≤ (I_2 14 2)) (tt := 30) (ff := 18) (L' := [.ref 14]) (S' := []) (σ' := (97, I_2, J, R)) rfl (fun hc_9 => ?_) (fun hc_9 => ?_)
        · rw [if_pos hc_9] at h
          refine az_E.sn 1 (pc' := 31) (L' := [.ref 14]) (S' := [.int (-1 : Int32)]) (σ' := (97, I_2, J, R)) rfl ?_
          refine az_E.ret (v := some (.int (-1 : Int32))) (σ' := (97, I_2, J, R)) rfl ?_
          show az_E az_F ex 121 68 17 [.ref 14, .retAddr 0] [.int (-1 : Int32)] (97, I_2, J, R) _
          refine az_E.sn 1 (pc' := 19) (L' := [.ref 14, .retAddr 0]) (S' := [.int (63 : Int32), .int (-1 : Int32)]) (σ' := (97, I_2, J, R)) rfl ?_
          refine az_E.br (c := (-1 : Int32) = (63 : Int32)) (tt := 22) (ff := 70) (L' := [.ref 14, .retAddr 0]) (S' := []) (σ' := (97, I_2, J, R)) rfl (fun hn => absurd hn (by decide)) (fun _ => ?_)
          exact az_E.forget (L := [.ref 14, .retAddr 0]) ⟨rfl, trivial, trivial⟩ (re_Ta_readLine_70_21 (I := I_2) (J := J) (R := R) hR_14_4 h hQ)
        · rw [if_neg hc_9] at h
          refine az_E.sn 4 (pc' := 26) (L' := [.ref 14]) (S' := [.int (I_2 14 2), .ref 15]) (σ' := (97, I_2, J, R)) rfl ?_
          by_cases hc_10 : (I_2 14 2) < 0 ∨ 120 ≤ (I_2 14 2).toNatClampNeg
          · rw [if_pos hc_10] at h; cases h
          · rw [if_neg hc_10] at h
            refine az_E.oi (o := az_ai az_F ex (97, I_2, J, R) 15 (I_2 14 2)) (pc' := 27) (L' := [.ref 14]) (S' := []) (σ' := (97, I_2, J, R)) (x := (I_2 15 (I_2 14 2).toNatClampNeg)) rfl (if_neg hc_10) ?_
            refine az_E.sn 1 (pc' := 31) (L' := [.ref 14]) (S' := [.int (I_2 15 (I_2 14 2).toNatClampNeg)]) (σ' := (97, I_2, J, R)) rfl ?_
            refine az_E.ret (v := some (.int (I_2 15 (I_2 14 2).toNatClampNeg))) (σ' := (97, I_2, J, R)) rfl ?_
            show az_E az_F ex 121 68 17 [.ref 14, .retAddr 0] [.int (I_2 15 (I_2 14 2).toNatClampNeg)] (97, I_2, J, R) _
            refine az_E.sn 1 (pc' := 19) (L' := [.ref 14, .retAddr 0]) (S' := [.int (63 : Int32), .int (I_2 15 (I_2 14 2).toNatClampNeg)]) (σ' := (97, I_2, J, R)) rfl ?_
            refine az_E.br (c := (I_2 15 (I_2 14 2).toNatClampNeg) = (63 : Int32)) (tt := 22) (ff := 70) (L' := [.ref 14, .retAddr 0]) (S' := []) (σ' := (97, I_2, J, R)) rfl (fun hc_11 => ?_) (fun hc_11 => ?_)
            · rw [if_pos hc_11] at h
              refine az_E.sn 7 (pc' := 33) (L' := [.ref 14, .retAddr 0]) (S' := [.ref 14]) (σ' := (97, (az_u I_2 14 2 ((I_2 14 2) + (1 : Int32))), J, R)) rfl ?_
              refine az_E.ov (pc' := 36) (L' := [.ref 14, .retAddr 0]) (S' := []) (σ' := (97, (az_u I_2 14 2 ((I_2 14 2) + (1 : Int32))), J, R)) (x := .ref 21) rfl (congrArg (fun z => some (va_rf z)) hR_14_4) ?_
              refine az_E.sn 2 (pc' := 39) (L' := [.ref 14, .retAddr 0]) (S' := [.int (0 : Int32), .int (63 : Int32), .ref 21]) (σ' := (97, (az_u I_2 14 2 ((I_2 14 2) + (1 : Int32))), J, R)) rfl ?_
              cases hx_14 : rs_La_add 21 (az_u I_2 14 2 ((I_2 14 2) + (1 : Int32))) (63 : Int32) (0 : Int32) with
              | none => rw [hx_14] at h; cases h
              | some o =>
                rw [hx_14] at h
                obtain ⟨x_12, I_13⟩ := o
                dsimp only at h
                refine az_E.call (d := 120) (k' := 28) (vs := [.ref 21, .int (63 : Int32), .int (0 : Int32)]) (pc' := 42) (S' := []) (Q1 := fun v s => v = some (.int x_12) ∧ s = (97, I_13, J, R)) rfl (az_E.deep (by omega) (re_La_add_21 (J := J) (R := R)  hx_14 ⟨rfl, rfl⟩)) (fun v s hq => ?_)
                obtain ⟨rfl, rfl⟩ := hq
                show az_E az_F ex 121 68 42 [.ref 14, .retAddr 0] [.int x_12] (97, I_13, J, R) _
                refine az_E.sn 4 (pc' := 46) (L' := [.ref 14, .int x_12]) (S' := [.int (0 : Int32), .int (0 : Int32), .ref 14]) (σ' := (97, I_13, J, R)) rfl ?_
                cases hx_17 : rs_G1 21 60 69 (0 : Int32) (0 : Int32) 0 0 I_13 with
                | none => rw [hx_17] at h; cases h
                | some o =>
                  rw [hx_17] at h
                  obtain ⟨x_15, I_16⟩ := o
                  dsimp only at h
                  refine az_E.call (d := 120) (k' := 69) (vs := [.ref 14, .int (0 : Int32), .int (0 : Int32)]) (pc' := 49) (S' := []) (Q1 := fun v s => v = none ∧ s = (97, I_16, J, R)) rfl (az_E.deep (by omega) (re_G1_69_21 (n := 60) _ _ _ _ _ _ hx_17 (J := J) (R := R) hR_14_4 ⟨rfl, rfl⟩)) (fun v s hq => ?_)
                  obtain ⟨rfl, rfl⟩ := hq
                  show az_E az_F ex 121 68 49 [.ref 14, .int x_12] [] (97, I_16, J, R) _
                  refine az_E.sn 1 (pc' := 50) (L' := [.ref 14, .int x_12]) (S' := [.ref 14]) (σ' := (97, I_16, J, R)) rfl ?_
                  refine az_E.ov (pc' := 53) (L' := [.ref 14, .int x_12]) (S' := []) (σ' := (97, I_16, J, R)) (x := .ref 21) rfl (congrArg (fun z => some (va_rf z)) hR_14_4) ?_
                  refine az_E.sn 2 (pc' := 55) (L' := [.ref 14, .int x_12]) (S' := [.ref 14, .int x_12, .ref 21]) (σ' := (97, I_16, J, R)) rfl ?_
                  refine az_E.ov (pc' := 58) (L' := [.ref 14, .int x_12]) (S' := [.int x_12, .ref 21]) (σ' := (97, I_16, J, R)) (x := .ref 21) rfl (congrArg (fun z => some (va_rf z)) hR_14_4) ?_
                  refine az_E.sn 2 (pc' := 61) (L' := [.ref 14, .int x_12]) (S' := [.int (0 : Int32), .int (59 : Int32), .ref 21, .int x_12, .ref 21]) (σ' := (97, I_16, J, R)) rfl ?_
                  cases hx_20 : rs_La_add 21 I_16 (59 : Int32) (0 : Int32) with
                  | none => rw [hx_20] at h; cases h
                  | some o =>
                    rw [hx_20] at h
                    obtain ⟨x_18, I_19⟩ := o
                    dsimp only at h
                    refine az_E.call (d := 120) (k' := 28) (vs := [.ref 21, .int (59 : Int32), .int (0 : Int32)]) (pc' := 64) (S' := [.int x_12, .ref 21]) (Q1 := fun v s => v = some (.int x_18) ∧ s = (97, I_19, J, R)) rfl (az_E.deep (by omega) (re_La_add_21 (J := J) (R := R)  hx_20 ⟨rfl, rfl⟩)) (fun v s hq => ?_)
                    obtain ⟨rfl, rfl⟩ := hq
                    show az_E az_F ex 121 68 64 [.ref 14, .int x_12] [.int x_18, .int x_12, .ref 21] (97, I_19, J, R) _
                    cases hx_22 : rs_La_join 21 I_19 x_12 x_18 with
                    | none => rw [hx_22] at h; cases h
                    | some I_21 =>
                      rw [hx_22] at h
                      dsimp only at h
                      refine az_E.call (d := 120) (k' := 29) (vs := [.ref 21, .int x_12, .int x_18]) (pc' := 67) (S' := []) (Q1 := fun v s => v = none ∧ s = (97, I_21, J, R)) rfl (az_E.deep (by omega) (re_La_join_21 (J := J) (R := R)  hx_22 ⟨rfl, rfl⟩)) (fun v s hq => ?_)
                      obtain ⟨rfl, rfl⟩ := hq
                      show az_E az_F ex 121 68 67 [.ref 14, .int x_12] [] (97, I_21, J, R) _
                      refine az_E.sn 1 (pc' := 81) (L' := [.ref 14, .int x_12]) (S' := []) (σ' := (97, I_21, J, R)) rfl ?_
                      have h := Option.some.inj h
                      subst h
                      exact az_E.ret (v := none) (σ' := (97, I_21, J, R)) rfl hQ
            · rw [if_neg hc_11] at h
              exact az_E.forget (L := [.ref 14, .retAddr 0]) ⟨rfl, trivial, trivial⟩ (re_Ta_readLine_70_21 (I := I_2) (J := J) (R := R) hR_14_4 h hQ)
set_option maxRecDepth 100000 in
set_option maxHeartbeats 4000000 in
theorem re_Ta_readInto_70_21 {ex : az_X} {I : Nat → Nat → Int32} {J : Nat → Nat → Int64} {R : Nat → Nat → Option Nat} {x : Int32 × (Nat → Nat → Int32)} (h : rs_Ta_readInto_70 21 I = some x) {Q : Option Value → az_S → Prop} (hQ : Q (some (.int x.1)) (97, x.2, J, (az_u R 14 4 (some 21)))) : az_E az_F ex 122 65 70 [.ref 14, .retAddr 0, .retAddr 0] [] (97, I, J, (az_u R 14 4 (some 21))) Q := by
  unfold rs_Ta_readInto_70 at h
  refine az_E.sn 4 (pc' := 78) (L' := [.ref 14, .retAddr 0, .retAddr 0]) (S' := [.int (I 14 1), .int (I 14 2)]) (σ' := (97, I, J, (az_u R 14 4 (some 21)))) rfl ?_
  refine az_E.br (c := (I 14 1) ≤ (I 14 2)) (tt := 85) (ff := 81) (L' := [.ref 14, .retAddr 0, .retAddr 0]) (S' := []) (σ' := (97, I, J, (az_u R 14 4 (some 21)))) rfl (fun hc_6 => ?_) (fun hc_6 => ?_)
  · rw [if_pos hc_6] at h
    refine az_E.sn 2 (pc' := 89) (L' := [.ref 14, .retAddr 0, .retAddr 0]) (S' := [.int (I 14 3)]) (σ' := (97, I, J, (az_u R 14 4 (some 21)))) rfl ?_
    have h := Option.some.inj h
    subst h
    exact az_E.ret (v := some (.int (I 14 3))) (σ' := (97, I, J, (az_u R 14 4 (some 21)))) rfl hQ
  · rw [if_neg hc_6] at h
    refine az_E.sn 1 (pc' := 82) (L' := [.ref 14, .retAddr 0, .retAddr 0]) (S' := [.ref 14]) (σ' := (97, I, J, (az_u R 14 4 (some 21)))) rfl ?_
    cases hx_8 : rs_Ta_fail I with
    | none => rw [hx_8] at h; cases h
    | some I_7 =>
      rw [hx_8] at h
      dsimp only at h
      refine az_E.call (d := 121) (k' := 67) (vs := [.ref 14]) (pc' := 85) (S' := []) (Q1 := fun v s => v = none ∧ s = (97, I_7, J, (az_u R 14 4 (some 21)))) rfl (az_E.deep (by omega) (re_Ta_fail (J := J) (R := (az_u R 14 4 (some 21)))  hx_8 ⟨rfl, rfl⟩)) (fun v s hq => ?_)
      obtain ⟨rfl, rfl⟩ := hq
      show az_E az_F ex 122 65 85 [.ref 14, .retAddr 0, .retAddr 0] [] (97, I_7, J, (az_u R 14 4 (some 21))) _
      refine az_E.sn 2 (pc' := 89) (L' := [.ref 14, .retAddr 0, .retAddr 0]) (S' := [.int (I_7 14 3)]) (σ' := (97, I_7, J, (az_u R 14 4 (some 21)))) rfl ?_
      have h := Option.some.inj h
      subst h
      exact az_E.ret (v := some (.int (I_7 14 3))) (σ' := (97, I_7, J, (az_u R 14 4 (some 21)))) rfl hQ
set_option maxRecDepth 100000 in
set_option maxHeartbeats 4000000 in
theorem re_Ta_readInto_28_b_21 {ex : az_X} {I : Nat → Nat → Int32} {J : Nat → Nat → Int64} {R : Nat → Nat → Option Nat} {v2 : Int32} {x : ((Int32 × (Nat → Nat → Int32)) ⊕ (Int32 × (Nat → Nat → Int32)))} (h : rs_Ta_readInto_28_b 21 v2 I = some x) {Q : Option Value → az_S → Prop} (hQ : Sum.elim (fun s => az_E az_F ex 122 65 28 [.ref 14, .retAddr 0, .int s.1] [] (97, s.2, J, (az_u R 14 4 (some 21))) Q) (fun x => Q (some (.int x.1)) (97, x.2, J, (az_u R 14 4 (some 21)))) x) : az_E az_F ex 122 65 28 [.ref 14, .retAddr 0, .int v2] [] (97, I, J, (az_u R 14 4 (some 21))) Q := by
  unfold rs_Ta_readInto_28_b at h
  refine az_E.sn 2 (pc' := 31) (L' := [.ref 14, .retAddr 0, .int v2]) (S' := [.int (120 : Int32), .int v2]) (σ' := (97, I, J, (az_u R 14 4 (some 21)))) rfl ?_
  refine az_E.br (c := (120 : Int32) ≤ v2) (tt := 70) (ff := 34) (L' := [.ref 14, .retAddr 0, .int v2]) (S' := []) (σ' := (97, I, J, (az_u R 14 4 (some 21)))) rfl (fun hc_5 => ?_) (fun hc_5 => ?_)
  · rw [if_pos hc_5] at h
    obtain ⟨x, hx, rfl⟩ := Option.map_eq_some_iff.mp h
    exact az_E.forget (L := [.ref 14, .retAddr 0, .retAddr 0]) ⟨rfl, trivial, trivial, trivial⟩ (re_Ta_readInto_70_21 (I := I) (J := J) (R := R)  hx hQ)
  · rw [if_neg hc_5] at h
    refine az_E.sn 2 (pc' := 38) (L' := [.ref 14, .retAddr 0, .int v2]) (S' := [.int (I 14 3)]) (σ' := (97, I, J, (az_u R 14 4 (some 21)))) rfl ?_
    refine az_E.br (c := 0 ≤ (I 14 3)) (tt := 70) (ff := 41) (L' := [.ref 14, .retAddr 0, .int v2]) (S' := []) (σ' := (97, I, J, (az_u R 14 4 (some 21)))) rfl (fun hc_9 => ?_) (fun hc_9 => ?_)
    · rw [if_pos hc_9] at h
      obtain ⟨x, hx, rfl⟩ := Option.map_eq_some_iff.mp h
      exact az_E.forget (L := [.ref 14, .retAddr 0, .retAddr 0]) ⟨rfl, trivial, trivial, trivial⟩ (re_Ta_readInto_70_21 (I := I) (J := J) (R := R)  hx hQ)
    · rw [if_neg hc_9] at h
      refine az_E.sn 1 (pc' := 42) (L' := [.ref 14, .retAddr 0, .int v2]) (S' := [.ref 14]) (σ' := (97, I, J, (az_u R 14 4 (some 21)))) rfl ?_
      refine az_E.call (d := 121) (k' := 66) (vs := [.ref 14]) (pc' := 45) (S' := []) rfl ?_ (fun _ _ hq => hq)
      show az_E az_F ex 121 66 0 [.ref 14] [] (97, I, J, (az_u R 14 4 (some 21))) _
      refine az_E.sn 2 (pc' := 4) (L' := [.ref 14]) (S' := [.int (I 14 2)]) (σ' := (97, I, J, (az_u R 14 4 (some 21)))) rfl ?_
      refine az_E.br (c := (I 14 2) < 0) (tt := 30) (ff := 7) (L' := [.ref 14]) (S' := []) (σ' := (97, I, J, (az_u R 14 4 (some 21)))) rfl (fun hc_10 => ?_) (fun hc_10 => ?_)
      · rw [if_pos hc_10] at h
        refine az_E.sn 1 (pc' := 31) (L' := [.ref 14]) (S' := [.int (-1 : Int32)]) (σ' := (97, I, J, (az_u R 14 4 (some 21)))) rfl ?_
        refine az_E.ret (v := some (.int (-1 : Int32))) (σ' := (97, I, J, (az_u R 14 4 (some 21)))) rfl ?_
        show az_E az_F ex 122 65 45 [.ref 14, .retAddr 0, .int v2] [.int (-1 : Int32)] (97, I, J, (az_u R 14 4 (some 21))) _
        refine az_E.sn 1 (pc' := 47) (L' := [.ref 14, .retAddr 0, .int v2]) (S' := [.int (59 : Int32), .int (-1 : Int32)]) (σ' := (97, I, J, (az_u R 14 4 (some 21)))) rfl ?_
        refine az_E.br (c := (-1 : Int32) = (59 : Int32)) (tt := 50) (ff := 70) (L' := [.ref 14, .retAddr 0, .int v2]) (S' := []) (σ' := (97, I, J, (az_u R 14 4 (some 21)))) rfl (fun hn => absurd hn (by decide)) (fun _ => ?_)
        obtain ⟨x, hx, rfl⟩ := Option.map_eq_some_iff.mp h
        exact az_E.forget (L := [.ref 14, .retAddr 0, .retAddr 0]) ⟨rfl, trivial, trivial, trivial⟩ (re_Ta_readInto_70_21 (I := I) (J := J) (R := R)  hx hQ)
      · rw [if_neg hc_10] at h
        refine az_E.sn 4 (pc' := 15) (L' := [.ref 14]) (S' := [.int (I 14 1), .int (I 14 2)]) (σ' := (97, I, J, (az_u R 14 4 (some 21)))) rfl ?_
        refine az_E.br (c := (I 14 1) ≤ (I 14 2)) (tt := 30) (ff := 18) (L' := [.ref 14]) (S' := []) (σ' := (97, I, J, (az_u R 14 4 (some 21)))) rfl (fun hc_11 => ?_) (fun hc_11 => ?_)
        · rw [if_pos hc_11] at h
          refine az_E.sn 1 (pc' := 31) (L' := [.ref 14]) (S' := [.int (-1 : Int32)]) (σ' := (97, I, J, (az_u R 14 4 (some 21)))) rfl ?_
          refine az_E.ret (v := some (.int (-1 : Int32))) (σ' := (97, I, J, (az_u R 14 4 (some 21)))) rfl ?_
          show az_E az_F ex 122 65 45 [.ref 14, .retAddr 0, .int v2] [.int (-1 : Int32)] (97, I, J, (az_u R 14 4 (some 21))) _
          refine az_E.sn 1 (pc' := 47) (L' := [.ref 14, .retAddr 0, .int v2]) (S' := [.int (59 : Int32), .int (-1 : Int32)]) (σ' := (97, I, J, (az_u R 14 4 (some 21)))) rfl ?_
          refine az_E.br (c := (-1 : Int32) = (59 : Int32)) (tt := 50) (ff := 70) (L' := [.ref 14, .retAddr 0, .int v2]) (S' := []) (σ' := (97, I, J, (az_u R 14 4 (some 21)))) rfl (fun hn => absurd hn (by decide)) (fun _ => ?_)
          obtain ⟨x, hx, rfl⟩ := Option.map_eq_some_iff.mp h
          exact az_E.forget (L := [.ref 14, .retAddr 0, .retAddr 0]) ⟨rfl, trivial, trivial, trivial⟩ (re_Ta_readInto_70_21 (I := I) (J := J) (R := R)  hx hQ)
        · rw [if_neg hc_11] at h
          refine az_E.sn 4 (pc' := 26) (L' := [.ref 14]) (S' := [.int (I 14 2), .ref 15]) (σ' := (97, I, J, (az_u R 14 4 (some 21)))) rfl ?_
          by_cases hc_12 : (I 14 2) < 0 ∨ 120 ≤ (I 14 2).toNatClampNeg
          · rw [if_pos hc_12] at h; cases h
          · rw [if_neg hc_12] at h
            refine az_E.oi (o := az_ai az_F ex (97, I, J, (az_u R 14 4 (some 21))) 15 (I 14 2)) (pc' := 27) (L' := [.ref 14]) (S' := []) (σ' := (97, I, J, (az_u R 14 4 (some 21)))) (x := (I 15 (I 14 2).toNatClampNeg)) rfl (if_neg hc_12) ?_
            refine az_E.sn 1 (pc' := 31) (L' := [.ref 14]) (S' := [.int (I 15 (I 14 2).toNatClampNeg)]) (σ' := (97, I, J, (az_u R 14 4 (some 21)))) rfl ?_
            refine az_E.ret (v := some (.int (I 15 (I 14 2).toNatClampNeg))) (σ' := (97, I, J, (az_u R 14 4 (some 21)))) rfl ?_
            show az_E az_F ex 122 65 45 [.ref 14, .retAddr 0, .int v2] [.int (I 15 (I 14 2).toNatClampNeg)] (97, I, J, (az_u R 14 4 (some 21))) _
            refine az_E.sn 1 (pc' := 47) (L' := [.ref 14, .retAddr 0, .int v2]) (S' := [.int (59 : Int32), .int (I 15 (I 14 2).toNatClampNeg)]) (σ' := (97, I, J, (az_u R 14 4 (some 21)))) rfl ?_
            refine az_E.br (c := (I 15 (I 14 2).toNatClampNeg) = (59 : Int32)) (tt := 50) (ff := 70) (L' := [.ref 14, .retAddr 0, .int v2]) (S' := []) (σ' := (97, I, J, (az_u R 14 4 (some 21)))) rfl (fun hc_13 => ?_) (fun hc_13 => ?_)
            · rw [if_pos hc_13] at h
              refine az_E.sn 7 (pc' := 61) (L' := [.ref 14, .retAddr 0, .int v2]) (S' := [.ref 14]) (σ' := (97, (az_u I 14 2 ((I 14 2) + (1 : Int32))), J, (az_u R 14 4 (some 21)))) rfl ?_
              cases hx_15 : rs_Ta_readLine 21 (az_u I 14 2 ((I 14 2) + (1 : Int32))) with
              | none => rw [hx_15] at h; cases h
              | some I_14 =>
                rw [hx_15] at h
                dsimp only at h
                refine az_E.call (d := 121) (k' := 68) (vs := [.ref 14]) (pc' := 64) (S' := []) (Q1 := fun v s => v = none ∧ s = (97, I_14, J, (az_u R 14 4 (some 21)))) rfl (az_E.deep (by omega) (re_Ta_readLine_21 (J := J) (R := (az_u R 14 4 (some 21))) rfl hx_15 ⟨rfl, rfl⟩)) (fun v s hq => ?_)
                obtain ⟨rfl, rfl⟩ := hq
                show az_E az_F ex 122 65 64 [.ref 14, .retAddr 0, .int v2] [] (97, I_14, J, (az_u R 14 4 (some 21))) _
                refine az_E.sn 2 (pc' := 28) (L' := [.ref 14, .retAddr 0, .int (v2 + (1 : Int32))]) (S' := []) (σ' := (97, I_14, J, (az_u R 14 4 (some 21)))) rfl ?_
                have h := Option.some.inj h
                subst h
                exact az_E.forget (L := [.ref 14, .retAddr 0, .int (v2 + (1 : Int32))]) ⟨rfl, trivial, rfl, trivial⟩ hQ
            · rw [if_neg hc_13] at h
              obtain ⟨x, hx, rfl⟩ := Option.map_eq_some_iff.mp h
              exact az_E.forget (L := [.ref 14, .retAddr 0, .retAddr 0]) ⟨rfl, trivial, trivial, trivial⟩ (re_Ta_readInto_70_21 (I := I) (J := J) (R := R)  hx hQ)
set_option maxRecDepth 100000 in
set_option maxHeartbeats 4000000 in
theorem re_Ta_readInto_28_21 {ex : az_X} {I : Nat → Nat → Int32} {J : Nat → Nat → Int64} {R : Nat → Nat → Option Nat} {v2 : Int32} {x : Int32 × (Nat → Nat → Int32)} (h : rs_Ta_readInto_28 21 I v2 = some x) {Q : Option Value → az_S → Prop} (hQ : Q (some (.int x.1)) (97, x.2, J, (az_u R 14 4 (some 21)))) : az_E az_F ex 122 65 28 [.ref 14, .retAddr 0, .int v2] [] (97, I, J, (az_u R 14 4 (some 21))) Q := by
  unfold rs_Ta_readInto_28 at h
  refine az_lp_E (G := fun s => az_E az_F ex 122 65 28 [.ref 14, .retAddr 0, .int s.1] [] (97, s.2, J, (az_u R 14 4 (some 21))) Q) (H := fun x => Q (some (.int x.1)) (97, x.2, J, (az_u R 14 4 (some 21)))) (fun s o hb ho => ?_) _ _ _ h hQ
  exact re_Ta_readInto_28_b_21  hb ho
set_option maxRecDepth 100000 in
set_option maxHeartbeats 4000000 in
theorem re_Ta_readInto_21 {ex : az_X} {I : Nat → Nat → Int32} {J : Nat → Nat → Int64} {R : Nat → Nat → Option Nat} {o : Int32 × (Nat → Nat → Int32)} (h : rs_Ta_readInto 21 I = some o) {Q : Option Value → az_S → Prop} (hQ : Q (some (.int o.1)) (97, o.2, J, (az_u R 14 4 (some 21)))) : az_E az_F ex 122 65 0 [.ref 14, .ref 21, .retAddr 0] [] (97, I, J, R) Q := by
  unfold rs_Ta_readInto at h
  refine az_E.sn 5 (pc' := 9) (L' := [.ref 14, .ref 21, .retAddr 0]) (S' := [.ref 21]) (σ' := (97, I, J, (az_u R 14 4 (some 21)))) rfl ?_
  cases hx_2 : rs_La_beginText 21 I with
  | none => rw [hx_2] at h; cases h
  | some I_1 =>
    rw [hx_2] at h
    dsimp only at h
    refine az_E.call (d := 121) (k' := 27) (vs := [.ref 21]) (pc' := 12) (S' := []) (Q1 := fun v s => v = none ∧ s = (97, I_1, J, (az_u R 14 4 (some 21)))) rfl (az_E.deep (by omega) (re_La_beginText_21 (J := J) (R := (az_u R 14 4 (some 21)))  hx_2 ⟨rfl, rfl⟩)) (fun v s hq => ?_)
    obtain ⟨rfl, rfl⟩ := hq
    show az_E az_F ex 122 65 12 [.ref 14, .ref 21, .retAddr 0] [] (97, I_1, J, (az_u R 14 4 (some 21))) _
    refine az_E.sn 7 (pc' := 23) (L' := [.ref 14, .ref 21, .retAddr 0]) (S' := [.ref 14]) (σ' := (97, (az_u (az_u I_1 14 2 (0 : Int32)) 14 3 (-1 : Int32)), J, (az_u R 14 4 (some 21)))) rfl ?_
    cases hx_4 : rs_Ta_readLine 21 (az_u (az_u I_1 14 2 (0 : Int32)) 14 3 (-1 : Int32)) with
    | none => rw [hx_4] at h; cases h
    | some I_3 =>
      rw [hx_4] at h
      dsimp only at h
      refine az_E.call (d := 121) (k' := 68) (vs := [.ref 14]) (pc' := 26) (S' := []) (Q1 := fun v s => v = none ∧ s = (97, I_3, J, (az_u R 14 4 (some 21)))) rfl (az_E.deep (by omega) (re_Ta_readLine_21 (J := J) (R := (az_u R 14 4 (some 21))) rfl hx_4 ⟨rfl, rfl⟩)) (fun v s hq => ?_)
      obtain ⟨rfl, rfl⟩ := hq
      show az_E az_F ex 122 65 26 [.ref 14, .ref 21, .retAddr 0] [] (97, I_3, J, (az_u R 14 4 (some 21))) _
      refine az_E.sn 2 (pc' := 28) (L' := [.ref 14, .ref 21, .int (0 : Int32)]) (S' := []) (σ' := (97, I_3, J, (az_u R 14 4 (some 21)))) rfl ?_
      exact az_E.forget (L := [.ref 14, .retAddr 0, .int (0 : Int32)]) ⟨rfl, trivial, rfl, trivial⟩ (re_Ta_readInto_28_21 (I := I_3) (J := J) (R := R)  h hQ)
set_option maxRecDepth 100000 in
set_option maxHeartbeats 4000000 in
theorem re_X_law_16_21 {ex : az_X} {I : Nat → Nat → Int32} {J : Nat → Nat → Int64} {R : Nat → Nat → Option Nat} (hR_3_2 : R 3 2 = some 16) (hR_3_3 : R 3 3 = some 21) {o : Int32 × (Nat → Nat → Int32) × Nat × Nat} (h : rs_X_law 21 16 I = some o) {Q : Option Value → az_S → Prop} (hQ : ∀ R' : Nat → Nat → Option Nat, R' 3 2 = some o.2.2.1 → R' 3 3 = some o.2.2.2 → Q (some (.int o.1)) (97, o.2.1, J, R')) : az_E az_F ex 123 90 0 [.ref 3, .retAddr 0, .retAddr 0] [] (97, I, J, R) Q := by
  unfold rs_X_law at h
  refine az_E.sn 3 (pc' := 5) (L' := [.ref 3, .retAddr 0, .retAddr 0]) (S' := [.ref 3, .ref 14]) (σ' := (97, I, J, R)) rfl ?_
  refine az_E.ov (pc' := 8) (L' := [.ref 3, .retAddr 0, .retAddr 0]) (S' := [.ref 14]) (σ' := (97, I, J, R)) (x := .ref 21) rfl (congrArg (fun z => some (va_rf z)) hR_3_3) ?_
  cases hx_3 : rs_Ta_readInto 21 I with
  | none => rw [hx_3] at h; cases h
  | some o =>
    rw [hx_3] at h
    obtain ⟨x_1, I_2⟩ := o
    dsimp only at h
    refine az_E.call (d := 122) (k' := 65) (vs := [.ref 14, .ref 21]) (pc' := 11) (S' := []) (Q1 := fun v s => v = some (.int x_1) ∧ s = (97, I_2, J, (az_u R 14 4 (some 21)))) rfl (az_E.deep (by omega) (re_Ta_readInto_21 (J := J) (R := R)  hx_3 ⟨rfl, rfl⟩)) (fun v s hq => ?_)
    obtain ⟨rfl, rfl⟩ := hq
    show az_E az_F ex 123 90 11 [.ref 3, .retAddr 0, .retAddr 0] [.int x_1] (97, I_2, J, (az_u R 14 4 (some 21))) _
    refine az_E.sn 6 (pc' := 21) (L' := [.ref 3, .int x_1, .retAddr 0]) (S' := [.int x_1]) (σ' := (97, (az_u I_2 14 1 (0 : Int32)), J, (az_u R 14 4 (some 21)))) rfl ?_
    refine az_E.br (c := x_1 < 0) (tt := 29) (ff := 24) (L' := [.ref 3, .int x_1, .retAddr 0]) (S' := []) (σ' := (97, (az_u I_2 14 1 (0 : Int32)), J, (az_u R 14 4 (some 21)))) rfl (fun hc_4 => ?_) (fun hc_4 => ?_)
    · rw [if_pos hc_4] at h
      refine az_E.sn 1 (pc' := 30) (L' := [.ref 3, .int x_1, .retAddr 0]) (S' := [.ref 3]) (σ' := (97, (az_u I_2 14 1 (0 : Int32)), J, (az_u R 14 4 (some 21)))) rfl ?_
      refine az_E.ov (pc' := 33) (L' := [.ref 3, .int x_1, .retAddr 0]) (S' := []) (σ' := (97, (az_u I_2 14 1 (0 : Int32)), J, (az_u R 14 4 (some 21)))) (x := .ref 16) rfl (congrArg (fun z => some (va_rf z)) hR_3_2) ?_
      refine az_E.sn 3 (pc' := 36) (L' := [.ref 3, .int x_1, .ref 16]) (S' := [.ref 3, .ref 3]) (σ' := (97, (az_u I_2 14 1 (0 : Int32)), J, (az_u R 14 4 (some 21)))) rfl ?_
      refine az_E.ov (pc' := 39) (L' := [.ref 3, .int x_1, .ref 16]) (S' := [.ref 3]) (σ' := (97, (az_u I_2 14 1 (0 : Int32)), J, (az_u R 14 4 (some 21)))) (x := .ref 21) rfl (congrArg (fun z => some (va_rf z)) hR_3_3) ?_
      refine az_E.sn 5 (pc' := 48) (L' := [.ref 3, .int x_1, .ref 16]) (S' := [.int (1 : Int32)]) (σ' := (97, (az_u I_2 14 1 (0 : Int32)), J, (az_u (az_u (az_u R 14 4 (some 21)) 3 2 (some 21)) 3 3 (some 16)))) rfl ?_
      have h := Option.some.inj h
      subst h
      exact az_E.ret (v := some (.int (1 : Int32))) (σ' := (97, (az_u I_2 14 1 (0 : Int32)), J, (az_u (az_u (az_u R 14 4 (some 21)) 3 2 (some 21)) 3 3 (some 16)))) rfl (hQ _ rfl rfl)
    · rw [if_neg hc_4] at h
      refine az_E.sn 3 (pc' := 28) (L' := [.ref 3, .int x_1, .retAddr 0]) (S' := [.int ((-100 : Int32) - x_1)]) (σ' := (97, (az_u I_2 14 1 (0 : Int32)), J, (az_u R 14 4 (some 21)))) rfl ?_
      have h := Option.some.inj h
      subst h
      exact az_E.ret (v := some (.int ((-100 : Int32) - x_1))) (σ' := (97, (az_u I_2 14 1 (0 : Int32)), J, (az_u R 14 4 (some 21)))) rfl (hQ _ hR_3_2 hR_3_3)
set_option maxRecDepth 100000 in
set_option maxHeartbeats 4000000 in
theorem re_M_wrong {ex : az_X} {I : Nat → Nat → Int32} {J : Nat → Nat → Int64} {R : Nat → Nat → Option Nat} {o : Int32 × (Nat → Nat → Int32)} (h : rs_M_wrong I = some o) {Q : Option Value → az_S → Prop} (hQ : Q (some (.int o.1)) (97, o.2, J, R)) : az_E az_F ex 0 177 0 [.ref 73] [] (97, I, J, R) Q := by
  unfold rs_M_wrong at h
  refine az_E.sn 3 (pc' := 5) (L' := [.ref 73]) (S' := [.int (I 73 17), .ref 73]) (σ' := (97, I, J, R)) rfl ?_
  refine az_E.br (c := 0 ≤ (I 73 17)) (tt := 15) (ff := 8) (L' := [.ref 73]) (S' := [.ref 73]) (σ' := (97, I, J, R)) rfl (fun hc_1 => ?_) (fun hc_1 => ?_)
  · rw [if_pos hc_1] at h
    refine az_E.sn 4 (pc' := 23) (L' := [.ref 73]) (S' := [.int (0 : Int32)]) (σ' := (97, (az_u I 73 17 (I 73 17)), J, R)) rfl ?_
    have h := Option.some.inj h
    subst h
    exact az_E.ret (v := some (.int (0 : Int32))) (σ' := (97, (az_u I 73 17 (I 73 17)), J, R)) rfl hQ
  · rw [if_neg hc_1] at h
    refine az_E.sn 5 (pc' := 23) (L' := [.ref 73]) (S' := [.int (0 : Int32)]) (σ' := (97, (az_u I 73 17 (I 73 15)), J, R)) rfl ?_
    have h := Option.some.inj h
    subst h
    exact az_E.ret (v := some (.int (0 : Int32))) (σ' := (97, (az_u I 73 17 (I 73 15)), J, R)) rfl hQ
set_option maxRecDepth 100000 in
set_option maxHeartbeats 4000000 in
theorem re_M_takesByte {ex : az_X} {I : Nat → Nat → Int32} {J : Nat → Nat → Int64} {R : Nat → Nat → Option Nat} {a1 : Int32} {o : Int32 × (Nat → Nat → Int32)} (h : rs_M_takesByte I a1 = some o) {Q : Option Value → az_S → Prop} (hQ : Q (some (.int o.1)) (97, o.2, J, R)) : az_E az_F ex 1 178 0 [.ref 73, .int a1] [] (97, I, J, R) Q := by
  unfold rs_M_takesByte at h
  refine az_E.sn 2 (pc' := 4) (L' := [.ref 73, .int a1]) (S' := [.int (I 73 17)]) (σ' := (97, I, J, R)) rfl ?_
  refine az_E.br (c := 0 ≤ (I 73 17)) (tt := 15) (ff := 7) (L' := [.ref 73, .int a1]) (S' := []) (σ' := (97, I, J, R)) rfl (fun hc_1 => ?_) (fun hc_1 => ?_)
  · rw [if_pos hc_1] at h
    refine az_E.sn 1 (pc' := 16) (L' := [.ref 73, .int a1]) (S' := [.int (0 : Int32)]) (σ' := (97, I, J, R)) rfl ?_
    have h := Option.some.inj h
    subst h
    exact az_E.ret (v := some (.int (0 : Int32))) (σ' := (97, I, J, R)) rfl hQ
  · rw [if_neg hc_1] at h
    refine az_E.sn 1 (pc' := 8) (L' := [.ref 73, .int a1]) (S' := [.ref 73]) (σ' := (97, I, J, R)) rfl ?_
    refine az_E.call (d := 0) (k' := 176) (vs := [.ref 73]) (pc' := 11) (S' := []) rfl ?_ (fun _ _ hq => hq)
    show az_E az_F ex 0 176 0 [.ref 73] [] (97, I, J, R) _
    refine az_E.sn 4 (pc' := 8) (L' := [.ref 73]) (S' := [.int (I 73 16), .int (I 73 15)]) (σ' := (97, I, J, R)) rfl ?_
    refine az_E.br (c := (I 73 16) ≤ (I 73 15)) (tt := 47) (ff := 11) (L' := [.ref 73]) (S' := []) (σ' := (97, I, J, R)) rfl (fun hc_2 => ?_) (fun hc_2 => ?_)
    · rw [if_pos hc_2] at h
      refine az_E.sn 1 (pc' := 48) (L' := [.ref 73]) (S' := [.int (0 : Int32)]) (σ' := (97, I, J, R)) rfl ?_
      refine az_E.ret (v := some (.int (0 : Int32))) (σ' := (97, I, J, R)) rfl ?_
      show az_E az_F ex 1 178 11 [.ref 73, .int a1] [.int (0 : Int32)] (97, I, J, R) _
      refine az_E.sn 1 (pc' := 12) (L' := [.ref 73, .int a1]) (S' := [.int a1, .int (0 : Int32)]) (σ' := (97, I, J, R)) rfl ?_
      refine az_E.br (c := (0 : Int32) = a1) (tt := 17) (ff := 15) (L' := [.ref 73, .int a1]) (S' := []) (σ' := (97, I, J, R)) rfl (fun hc_3 => ?_) (fun hc_3 => ?_)
      · rw [if_pos hc_3] at h
        refine az_E.sn 7 (pc' := 28) (L' := [.ref 73, .int a1]) (S' := [.int (1 : Int32)]) (σ' := (97, (az_u I 73 15 ((I 73 15) + (1 : Int32))), J, R)) rfl ?_
        have h := Option.some.inj h
        subst h
        exact az_E.ret (v := some (.int (1 : Int32))) (σ' := (97, (az_u I 73 15 ((I 73 15) + (1 : Int32))), J, R)) rfl hQ
      · rw [if_neg hc_3] at h
        refine az_E.sn 1 (pc' := 16) (L' := [.ref 73, .int a1]) (S' := [.int (0 : Int32)]) (σ' := (97, I, J, R)) rfl ?_
        have h := Option.some.inj h
        subst h
        exact az_E.ret (v := some (.int (0 : Int32))) (σ' := (97, I, J, R)) rfl hQ
    · rw [if_neg hc_2] at h
      refine az_E.sn 2 (pc' := 15) (L' := [.ref 73]) (S' := [.int (I 73 14)]) (σ' := (97, I, J, R)) rfl ?_
      refine az_E.br (c := 0 ≤ (I 73 14)) (tt := 30) (ff := 18) (L' := [.ref 73]) (S' := []) (σ' := (97, I, J, R)) rfl (fun hc_4 => ?_) (fun hc_4 => ?_)
      · rw [if_pos hc_4] at h
        refine az_E.sn 7 (pc' := 43) (L' := [.ref 73]) (S' := [.int ((I 73 14) + (I 73 15)), .ref 81]) (σ' := (97, I, J, R)) rfl ?_
        by_cases hc_5 : ((I 73 14) + (I 73 15)) < 0 ∨ 120 ≤ ((I 73 14) + (I 73 15)).toNatClampNeg
        · rw [if_pos hc_5] at h; cases h
        · rw [if_neg hc_5] at h
          refine az_E.oi (o := az_ai az_F ex (97, I, J, R) 81 ((I 73 14) + (I 73 15))) (pc' := 44) (L' := [.ref 73]) (S' := []) (σ' := (97, I, J, R)) (x := (I 81 ((I 73 14) + (I 73 15)).toNatClampNeg)) rfl (if_neg hc_5) ?_
          refine az_E.sn 1 (pc' := 48) (L' := [.ref 73]) (S' := [.int (I 81 ((I 73 14) + (I 73 15)).toNatClampNeg)]) (σ' := (97, I, J, R)) rfl ?_
          refine az_E.ret (v := some (.int (I 81 ((I 73 14) + (I 73 15)).toNatClampNeg))) (σ' := (97, I, J, R)) rfl ?_
          show az_E az_F ex 1 178 11 [.ref 73, .int a1] [.int (I 81 ((I 73 14) + (I 73 15)).toNatClampNeg)] (97, I, J, R) _
          refine az_E.sn 1 (pc' := 12) (L' := [.ref 73, .int a1]) (S' := [.int a1, .int (I 81 ((I 73 14) + (I 73 15)).toNatClampNeg)]) (σ' := (97, I, J, R)) rfl ?_
          refine az_E.br (c := (I 81 ((I 73 14) + (I 73 15)).toNatClampNeg) = a1) (tt := 17) (ff := 15) (L' := [.ref 73, .int a1]) (S' := []) (σ' := (97, I, J, R)) rfl (fun hc_6 => ?_) (fun hc_6 => ?_)
          · rw [if_pos hc_6] at h
            refine az_E.sn 7 (pc' := 28) (L' := [.ref 73, .int a1]) (S' := [.int (1 : Int32)]) (σ' := (97, (az_u I 73 15 ((I 73 15) + (1 : Int32))), J, R)) rfl ?_
            have h := Option.some.inj h
            subst h
            exact az_E.ret (v := some (.int (1 : Int32))) (σ' := (97, (az_u I 73 15 ((I 73 15) + (1 : Int32))), J, R)) rfl hQ
          · rw [if_neg hc_6] at h
            refine az_E.sn 1 (pc' := 16) (L' := [.ref 73, .int a1]) (S' := [.int (0 : Int32)]) (σ' := (97, I, J, R)) rfl ?_
            have h := Option.some.inj h
            subst h
            exact az_E.ret (v := some (.int (0 : Int32))) (σ' := (97, I, J, R)) rfl hQ
      · rw [if_neg hc_4] at h
        refine az_E.sn 4 (pc' := 26) (L' := [.ref 73]) (S' := [.int (I 73 15), .ref 80]) (σ' := (97, I, J, R)) rfl ?_
        by_cases hc_7 : (I 73 15) < 0 ∨ 120 ≤ (I 73 15).toNatClampNeg
        · rw [if_pos hc_7] at h; cases h
        · rw [if_neg hc_7] at h
          refine az_E.oi (o := az_ai az_F ex (97, I, J, R) 80 (I 73 15)) (pc' := 27) (L' := [.ref 73]) (S' := []) (σ' := (97, I, J, R)) (x := (I 80 (I 73 15).toNatClampNeg)) rfl (if_neg hc_7) ?_
          refine az_E.sn 1 (pc' := 48) (L' := [.ref 73]) (S' := [.int (I 80 (I 73 15).toNatClampNeg)]) (σ' := (97, I, J, R)) rfl ?_
          refine az_E.ret (v := some (.int (I 80 (I 73 15).toNatClampNeg))) (σ' := (97, I, J, R)) rfl ?_
          show az_E az_F ex 1 178 11 [.ref 73, .int a1] [.int (I 80 (I 73 15).toNatClampNeg)] (97, I, J, R) _
          refine az_E.sn 1 (pc' := 12) (L' := [.ref 73, .int a1]) (S' := [.int a1, .int (I 80 (I 73 15).toNatClampNeg)]) (σ' := (97, I, J, R)) rfl ?_
          refine az_E.br (c := (I 80 (I 73 15).toNatClampNeg) = a1) (tt := 17) (ff := 15) (L' := [.ref 73, .int a1]) (S' := []) (σ' := (97, I, J, R)) rfl (fun hc_8 => ?_) (fun hc_8 => ?_)
          · rw [if_pos hc_8] at h
            refine az_E.sn 7 (pc' := 28) (L' := [.ref 73, .int a1]) (S' := [.int (1 : Int32)]) (σ' := (97, (az_u I 73 15 ((I 73 15) + (1 : Int32))), J, R)) rfl ?_
            have h := Option.some.inj h
            subst h
            exact az_E.ret (v := some (.int (1 : Int32))) (σ' := (97, (az_u I 73 15 ((I 73 15) + (1 : Int32))), J, R)) rfl hQ
          · rw [if_neg hc_8] at h
            refine az_E.sn 1 (pc' := 16) (L' := [.ref 73, .int a1]) (S' := [.int (0 : Int32)]) (σ' := (97, I, J, R)) rfl ?_
            have h := Option.some.inj h
            subst h
            exact az_E.ret (v := some (.int (0 : Int32))) (σ' := (97, I, J, R)) rfl hQ
set_option maxRecDepth 100000 in
set_option maxHeartbeats 4000000 in
theorem re_M_either_5_b {rec : az_GT} {d : Nat} {ex : az_X} {I : Nat → Nat → Int32} {J : Nat → Nat → Int64} {R : Nat → Nat → Option Nat} {v1 : Int32} (hg_179 : ∀ (b1 b2 b3 b4 : Int32) (I : Nat → Nat → Int32) (o : Int32 × (Nat → Nat → Int32)), rec 179 b1 b2 b3 b4 I = some o → ∀ {J : Nat → Nat → Int64} {R : Nat → Nat → Option Nat} {Q : Option Value → az_S → Prop}, Q (some (.int o.1)) (97, o.2, J, R) → az_E az_F ex d 179 0 [.ref 73, .retAddr 0, .retAddr 0] [] (97, I, J, R) Q) (hg_180 : ∀ (b1 b2 b3 b4 : Int32) (I : Nat → Nat → Int32) (o : Int32 × (Nat → Nat → Int32)), rec 180 b1 b2 b3 b4 I = some o → ∀ {J : Nat → Nat → Int64} {R : Nat → Nat → Option Nat} {Q : Option Value → az_S → Prop}, Q (some (.int o.1)) (97, o.2, J, R) → az_E az_F ex d 180 0 [.ref 73, .retAddr 0, .retAddr 0] [] (97, I, J, R) Q) (hg_181 : ∀ (b1 b2 b3 b4 : Int32) (I : Nat → Nat → Int32) (o : Int32 × (Nat → Nat → Int32)), rec 181 b1 b2 b3 b4 I = some o → ∀ {J : Nat → Nat → Int64} {R : Nat → Nat → Option Nat} {Q : Option Value → az_S → Prop}, Q (some (.int o.1)) (97, o.2, J, R) → az_E az_F ex d 181 0 [.ref 73, .retAddr 0, .retAddr 0, .retAddr 0] [] (97, I, J, R) Q) (hg_182 : ∀ (b1 b2 b3 b4 : Int32) (I : Nat → Nat → Int32) (o : Int32 × (Nat → Nat → Int32)), rec 182 b1 b2 b3 b4 I = some o → ∀ {J : Nat → Nat → Int64} {R : Nat → Nat → Option Nat} {Q : Option Value → az_S → Prop}, Q (some (.int o.1)) (97, o.2, J, R) → az_E az_F ex d 182 0 [.ref 73, .retAddr 0, .retAddr 0, .retAddr 0] [] (97, I, J, R) Q) (hg_183 : ∀ (b1 b2 b3 b4 : Int32) (I : Nat → Nat → Int32) (o : Int32 × (Nat → Nat → Int32)), rec 183 b1 b2 b3 b4 I = some o → ∀ {J : Nat → Nat → Int64} {R : Nat → Nat → Option Nat} {Q : Option Value → az_S → Prop}, Q (some (.int o.1)) (97, o.2, J, R) → az_E az_F ex d 183 0 [.ref 73, .retAddr 0, .retAddr 0, .retAddr 0] [] (97, I, J, R) Q) (hg_185 : ∀ (b1 b2 b3 b4 : Int32) (I : Nat → Nat → Int32) (o : Int32 × (Nat → Nat → Int32)), rec 185 b1 b2 b3 b4 I = some o → ∀ {J : Nat → Nat → Int64} {R : Nat → Nat → Option Nat} {Q : Option Value → az_S → Prop}, Q (some (.int o.1)) (97, o.2, J, R) → az_E az_F ex d 185 0 [.ref 73, .retAddr 0, .retAddr 0, .retAddr 0, .retAddr 0] [] (97, I, J, R) Q) {x : ((Int32 × (Nat → Nat → Int32)) ⊕ (Int32 × (Nat → Nat → Int32)))} (h : rs_M_either_5_b rec v1 I = some x) {Q : Option Value → az_S → Prop} (hQ : Sum.elim (fun s => az_E az_F ex (d + 2) 179 5 [.ref 73, .int s.1, .retAddr 0] [] (97, s.2, J, R) Q) (fun x => Q (some (.int x.1)) (97, x.2, J, R)) x) : az_E az_F ex (d + 2) 179 5 [.ref 73, .int v1, .retAddr 0] [] (97, I, J, R) Q := by
  unfold rs_M_either_5_b at h
  refine az_E.sn 2 (pc' := 8) (L' := [.ref 73, .int v1, .retAddr 0]) (S' := [.int (124 : Int32), .ref 73]) (σ' := (97, I, J, R)) rfl ?_
  cases hx_6 : rs_M_takesByte I (124 : Int32) with
  | none => rw [hx_6] at h; cases h
  | some o =>
    rw [hx_6] at h
    obtain ⟨x_4, I_5⟩ := o
    dsimp only at h
    refine az_E.call (d := (d + 1)) (k' := 178) (vs := [.ref 73, .int (124 : Int32)]) (pc' := 11) (S' := []) (Q1 := fun v s => v = some (.int x_4) ∧ s = (97, I_5, J, R)) rfl (az_E.deep (by omega) (re_M_takesByte (J := J) (R := R)  hx_6 ⟨rfl, rfl⟩)) (fun v s hq => ?_)
    obtain ⟨rfl, rfl⟩ := hq
    show az_E az_F ex (d + 2) 179 11 [.ref 73, .int v1, .retAddr 0] [.int x_4] (97, I_5, J, R) _
    refine az_E.br (c := x_4 = 0) (tt := 36) (ff := 14) (L' := [.ref 73, .int v1, .retAddr 0]) (S' := []) (σ' := (97, I_5, J, R)) rfl (fun hc_7 => ?_) (fun hc_7 => ?_)
    · rw [if_pos hc_7] at h
      refine az_E.sn 1 (pc' := 37) (L' := [.ref 73, .int v1, .retAddr 0]) (S' := [.int v1]) (σ' := (97, I_5, J, R)) rfl ?_
      have h := Option.some.inj h
      subst h
      exact az_E.ret (v := some (.int v1)) (σ' := (97, I_5, J, R)) rfl hQ
    · rw [if_neg hc_7] at h
      refine az_E.sn 1 (pc' := 15) (L' := [.ref 73, .int v1, .retAddr 0]) (S' := [.ref 73]) (σ' := (97, I_5, J, R)) rfl ?_
      cases hx_10 : rec 180 0 0 0 0 I_5 with
      | none => rw [hx_10] at h; cases h
      | some o =>
        rw [hx_10] at h
        obtain ⟨x_8, I_9⟩ := o
        dsimp only at h
        refine az_E.call (d := (d + 1)) (k' := 180) (vs := [.ref 73]) (pc' := 18) (S' := []) (Q1 := fun v s => v = some (.int x_8) ∧ s = (97, I_9, J, R)) rfl (az_E.deep (by omega) (hg_180 _ _ _ _ _ _ hx_10 (J := J) (R := R)  ⟨rfl, rfl⟩)) (fun v s hq => ?_)
        obtain ⟨rfl, rfl⟩ := hq
        show az_E az_F ex (d + 2) 179 18 [.ref 73, .int v1, .retAddr 0] [.int x_8] (97, I_9, J, R) _
        refine az_E.sn 2 (pc' := 20) (L' := [.ref 73, .int v1, .int x_8]) (S' := [.int v1]) (σ' := (97, I_9, J, R)) rfl ?_
        refine az_E.br (c := v1 = 0) (tt := 23) (ff := 27) (L' := [.ref 73, .int v1, .int x_8]) (S' := []) (σ' := (97, I_9, J, R)) rfl (fun hc_11 => ?_) (fun hc_11 => ?_)
        · rw [if_pos hc_11] at h
          refine az_E.sn 1 (pc' := 24) (L' := [.ref 73, .int v1, .int x_8]) (S' := [.int x_8]) (σ' := (97, I_9, J, R)) rfl ?_
          refine az_E.br (c := x_8 = 0) (tt := 31) (ff := 27) (L' := [.ref 73, .int v1, .int x_8]) (S' := []) (σ' := (97, I_9, J, R)) rfl (fun hc_12 => ?_) (fun hc_12 => ?_)
          · rw [if_pos hc_12] at h
            refine az_E.sn 3 (pc' := 5) (L' := [.ref 73, .int (0 : Int32), .int x_8]) (S' := []) (σ' := (97, I_9, J, R)) rfl ?_
            have h := Option.some.inj h
            subst h
            exact az_E.forget (L := [.ref 73, .int (0 : Int32), .retAddr 0]) ⟨rfl, rfl, trivial, trivial⟩ hQ
          · rw [if_neg hc_12] at h
            refine az_E.sn 4 (pc' := 5) (L' := [.ref 73, .int (1 : Int32), .int x_8]) (S' := []) (σ' := (97, I_9, J, R)) rfl ?_
            have h := Option.some.inj h
            subst h
            exact az_E.forget (L := [.ref 73, .int (1 : Int32), .retAddr 0]) ⟨rfl, rfl, trivial, trivial⟩ hQ
        · rw [if_neg hc_11] at h
          refine az_E.sn 4 (pc' := 5) (L' := [.ref 73, .int (1 : Int32), .int x_8]) (S' := []) (σ' := (97, I_9, J, R)) rfl ?_
          have h := Option.some.inj h
          subst h
          exact az_E.forget (L := [.ref 73, .int (1 : Int32), .retAddr 0]) ⟨rfl, rfl, trivial, trivial⟩ hQ
set_option maxRecDepth 100000 in
set_option maxHeartbeats 4000000 in
theorem re_M_either_5 {rec : az_GT} {d : Nat} {ex : az_X} {I : Nat → Nat → Int32} {J : Nat → Nat → Int64} {R : Nat → Nat → Option Nat} {v1 : Int32} (hg_179 : ∀ (b1 b2 b3 b4 : Int32) (I : Nat → Nat → Int32) (o : Int32 × (Nat → Nat → Int32)), rec 179 b1 b2 b3 b4 I = some o → ∀ {J : Nat → Nat → Int64} {R : Nat → Nat → Option Nat} {Q : Option Value → az_S → Prop}, Q (some (.int o.1)) (97, o.2, J, R) → az_E az_F ex d 179 0 [.ref 73, .retAddr 0, .retAddr 0] [] (97, I, J, R) Q) (hg_180 : ∀ (b1 b2 b3 b4 : Int32) (I : Nat → Nat → Int32) (o : Int32 × (Nat → Nat → Int32)), rec 180 b1 b2 b3 b4 I = some o → ∀ {J : Nat → Nat → Int64} {R : Nat → Nat → Option Nat} {Q : Option Value → az_S → Prop}, Q (some (.int o.1)) (97, o.2, J, R) → az_E az_F ex d 180 0 [.ref 73, .retAddr 0, .retAddr 0] [] (97, I, J, R) Q) (hg_181 : ∀ (b1 b2 b3 b4 : Int32) (I : Nat → Nat → Int32) (o : Int32 × (Nat → Nat → Int32)), rec 181 b1 b2 b3 b4 I = some o → ∀ {J : Nat → Nat → Int64} {R : Nat → Nat → Option Nat} {Q : Option Value → az_S → Prop}, Q (some (.int o.1)) (97, o.2, J, R) → az_E az_F ex d 181 0 [.ref 73, .retAddr 0, .retAddr 0, .retAddr 0] [] (97, I, J, R) Q) (hg_182 : ∀ (b1 b2 b3 b4 : Int32) (I : Nat → Nat → Int32) (o : Int32 × (Nat → Nat → Int32)), rec 182 b1 b2 b3 b4 I = some o → ∀ {J : Nat → Nat → Int64} {R : Nat → Nat → Option Nat} {Q : Option Value → az_S → Prop}, Q (some (.int o.1)) (97, o.2, J, R) → az_E az_F ex d 182 0 [.ref 73, .retAddr 0, .retAddr 0, .retAddr 0] [] (97, I, J, R) Q) (hg_183 : ∀ (b1 b2 b3 b4 : Int32) (I : Nat → Nat → Int32) (o : Int32 × (Nat → Nat → Int32)), rec 183 b1 b2 b3 b4 I = some o → ∀ {J : Nat → Nat → Int64} {R : Nat → Nat → Option Nat} {Q : Option Value → az_S → Prop}, Q (some (.int o.1)) (97, o.2, J, R) → az_E az_F ex d 183 0 [.ref 73, .retAddr 0, .retAddr 0, .retAddr 0] [] (97, I, J, R) Q) (hg_185 : ∀ (b1 b2 b3 b4 : Int32) (I : Nat → Nat → Int32) (o : Int32 × (Nat → Nat → Int32)), rec 185 b1 b2 b3 b4 I = some o → ∀ {J : Nat → Nat → Int64} {R : Nat → Nat → Option Nat} {Q : Option Value → az_S → Prop}, Q (some (.int o.1)) (97, o.2, J, R) → az_E az_F ex d 185 0 [.ref 73, .retAddr 0, .retAddr 0, .retAddr 0, .retAddr 0] [] (97, I, J, R) Q) {x : Int32 × (Nat → Nat → Int32)} (h : rs_M_either_5 rec I v1 = some x) {Q : Option Value → az_S → Prop} (hQ : Q (some (.int x.1)) (97, x.2, J, R)) : az_E az_F ex (d + 2) 179 5 [.ref 73, .int v1, .retAddr 0] [] (97, I, J, R) Q := by
  unfold rs_M_either_5 at h
  refine az_lp_E (G := fun s => az_E az_F ex (d + 2) 179 5 [.ref 73, .int s.1, .retAddr 0] [] (97, s.2, J, R) Q) (H := fun x => Q (some (.int x.1)) (97, x.2, J, R)) (fun s o hb ho => ?_) _ _ _ h hQ
  exact re_M_either_5_b hg_179 hg_180 hg_181 hg_182 hg_183 hg_185 hb ho
set_option maxRecDepth 100000 in
set_option maxHeartbeats 4000000 in
theorem re_M_either {rec : az_GT} {d : Nat} {ex : az_X} {I : Nat → Nat → Int32} {J : Nat → Nat → Int64} {R : Nat → Nat → Option Nat} (hg_179 : ∀ (b1 b2 b3 b4 : Int32) (I : Nat → Nat → Int32) (o : Int32 × (Nat → Nat → Int32)), rec 179 b1 b2 b3 b4 I = some o → ∀ {J : Nat → Nat → Int64} {R : Nat → Nat → Option Nat} {Q : Option Value → az_S → Prop}, Q (some (.int o.1)) (97, o.2, J, R) → az_E az_F ex d 179 0 [.ref 73, .retAddr 0, .retAddr 0] [] (97, I, J, R) Q) (hg_180 : ∀ (b1 b2 b3 b4 : Int32) (I : Nat → Nat → Int32) (o : Int32 × (Nat → Nat → Int32)), rec 180 b1 b2 b3 b4 I = some o → ∀ {J : Nat → Nat → Int64} {R : Nat → Nat → Option Nat} {Q : Option Value → az_S → Prop}, Q (some (.int o.1)) (97, o.2, J, R) → az_E az_F ex d 180 0 [.ref 73, .retAddr 0, .retAddr 0] [] (97, I, J, R) Q) (hg_181 : ∀ (b1 b2 b3 b4 : Int32) (I : Nat → Nat → Int32) (o : Int32 × (Nat → Nat → Int32)), rec 181 b1 b2 b3 b4 I = some o → ∀ {J : Nat → Nat → Int64} {R : Nat → Nat → Option Nat} {Q : Option Value → az_S → Prop}, Q (some (.int o.1)) (97, o.2, J, R) → az_E az_F ex d 181 0 [.ref 73, .retAddr 0, .retAddr 0, .retAddr 0] [] (97, I, J, R) Q) (hg_182 : ∀ (b1 b2 b3 b4 : Int32) (I : Nat → Nat → Int32) (o : Int32 × (Nat → Nat → Int32)), rec 182 b1 b2 b3 b4 I = some o → ∀ {J : Nat → Nat → Int64} {R : Nat → Nat → Option Nat} {Q : Option Value → az_S → Prop}, Q (some (.int o.1)) (97, o.2, J, R) → az_E az_F ex d 182 0 [.ref 73, .retAddr 0, .retAddr 0, .retAddr 0] [] (97, I, J, R) Q) (hg_183 : ∀ (b1 b2 b3 b4 : Int32) (I : Nat → Nat → Int32) (o : Int32 × (Nat → Nat → Int32)), rec 183 b1 b2 b3 b4 I = some o → ∀ {J : Nat → Nat → Int64} {R : Nat → Nat → Option Nat} {Q : Option Value → az_S → Prop}, Q (some (.int o.1)) (97, o.2, J, R) → az_E az_F ex d 183 0 [.ref 73, .retAddr 0, .retAddr 0, .retAddr 0] [] (97, I, J, R) Q) (hg_185 : ∀ (b1 b2 b3 b4 : Int32) (I : Nat → Nat → Int32) (o : Int32 × (Nat → Nat → Int32)), rec 185 b1 b2 b3 b4 I = some o → ∀ {J : Nat → Nat → Int64} {R : Nat → Nat → Option Nat} {Q : Option Value → az_S → Prop}, Q (some (.int o.1)) (97, o.2, J, R) → az_E az_F ex d 185 0 [.ref 73, .retAddr 0, .retAddr 0, .retAddr 0, .retAddr 0] [] (97, I, J, R) Q) {o : Int32 × (Nat → Nat → Int32)} (h : rs_M_either rec I = some o) {Q : Option Value → az_S → Prop} (hQ : Q (some (.int o.1)) (97, o.2, J, R)) : az_E az_F ex (d + 2) 179 0 [.ref 73, .retAddr 0, .retAddr 0] [] (97, I, J, R) Q := by
  unfold rs_M_either at h
  refine az_E.sn 1 (pc' := 1) (L' := [.ref 73, .retAddr 0, .retAddr 0]) (S' := [.ref 73]) (σ' := (97, I, J, R)) rfl ?_
  cases hx_3 : rec 180 0 0 0 0 I with
  | none => rw [hx_3] at h; cases h
  | some o =>
    rw [hx_3] at h
    obtain ⟨x_1, I_2⟩ := o
    dsimp only at h
    refine az_E.call (d := (d + 1)) (k' := 180) (vs := [.ref 73]) (pc' := 4) (S' := []) (Q1 := fun v s => v = some (.int x_1) ∧ s = (97, I_2, J, R)) rfl (az_E.deep (by omega) (hg_180 _ _ _ _ _ _ hx_3 (J := J) (R := R)  ⟨rfl, rfl⟩)) (fun v s hq => ?_)
    obtain ⟨rfl, rfl⟩ := hq
    show az_E az_F ex (d + 2) 179 4 [.ref 73, .retAddr 0, .retAddr 0] [.int x_1] (97, I_2, J, R) _
    refine az_E.sn 1 (pc' := 5) (L' := [.ref 73, .int x_1, .retAddr 0]) (S' := []) (σ' := (97, I_2, J, R)) rfl ?_
    exact az_E.forget (L := [.ref 73, .int x_1, .retAddr 0]) ⟨rfl, rfl, trivial, trivial⟩ (re_M_either_5 (I := I_2) (J := J) (R := R) hg_179 hg_180 hg_181 hg_182 hg_183 hg_185 h hQ)
set_option maxRecDepth 100000 in
set_option maxHeartbeats 4000000 in
theorem re_M_both_5_b {rec : az_GT} {d : Nat} {ex : az_X} {I : Nat → Nat → Int32} {J : Nat → Nat → Int64} {R : Nat → Nat → Option Nat} {v1 : Int32} (hg_179 : ∀ (b1 b2 b3 b4 : Int32) (I : Nat → Nat → Int32) (o : Int32 × (Nat → Nat → Int32)), rec 179 b1 b2 b3 b4 I = some o → ∀ {J : Nat → Nat → Int64} {R : Nat → Nat → Option Nat} {Q : Option Value → az_S → Prop}, Q (some (.int o.1)) (97, o.2, J, R) → az_E az_F ex d 179 0 [.ref 73, .retAddr 0, .retAddr 0] [] (97, I, J, R) Q) (hg_180 : ∀ (b1 b2 b3 b4 : Int32) (I : Nat → Nat → Int32) (o : Int32 × (Nat → Nat → Int32)), rec 180 b1 b2 b3 b4 I = some o → ∀ {J : Nat → Nat → Int64} {R : Nat → Nat → Option Nat} {Q : Option Value → az_S → Prop}, Q (some (.int o.1)) (97, o.2, J, R) → az_E az_F ex d 180 0 [.ref 73, .retAddr 0, .retAddr 0] [] (97, I, J, R) Q) (hg_181 : ∀ (b1 b2 b3 b4 : Int32) (I : Nat → Nat → Int32) (o : Int32 × (Nat → Nat → Int32)), rec 181 b1 b2 b3 b4 I = some o → ∀ {J : Nat → Nat → Int64} {R : Nat → Nat → Option Nat} {Q : Option Value → az_S → Prop}, Q (some (.int o.1)) (97, o.2, J, R) → az_E az_F ex d 181 0 [.ref 73, .retAddr 0, .retAddr 0, .retAddr 0] [] (97, I, J, R) Q) (hg_182 : ∀ (b1 b2 b3 b4 : Int32) (I : Nat → Nat → Int32) (o : Int32 × (Nat → Nat → Int32)), rec 182 b1 b2 b3 b4 I = some o → ∀ {J : Nat → Nat → Int64} {R : Nat → Nat → Option Nat} {Q : Option Value → az_S → Prop}, Q (some (.int o.1)) (97, o.2, J, R) → az_E az_F ex d 182 0 [.ref 73, .retAddr 0, .retAddr 0, .retAddr 0] [] (97, I, J, R) Q) (hg_183 : ∀ (b1 b2 b3 b4 : Int32) (I : Nat → Nat → Int32) (o : Int32 × (Nat → Nat → Int32)), rec 183 b1 b2 b3 b4 I = some o → ∀ {J : Nat → Nat → Int64} {R : Nat → Nat → Option Nat} {Q : Option Value → az_S → Prop}, Q (some (.int o.1)) (97, o.2, J, R) → az_E az_F ex d 183 0 [.ref 73, .retAddr 0, .retAddr 0, .retAddr 0] [] (97, I, J, R) Q) (hg_185 : ∀ (b1 b2 b3 b4 : Int32) (I : Nat → Nat → Int32) (o : Int32 × (Nat → Nat → Int32)), rec 185 b1 b2 b3 b4 I = some o → ∀ {J : Nat → Nat → Int64} {R : Nat → Nat → Option Nat} {Q : Option Value → az_S → Prop}, Q (some (.int o.1)) (97, o.2, J, R) → az_E az_F ex d 185 0 [.ref 73, .retAddr 0, .retAddr 0, .retAddr 0, .retAddr 0] [] (97, I, J, R) Q) {x : ((Int32 × (Nat → Nat → Int32)) ⊕ (Int32 × (Nat → Nat → Int32)))} (h : rs_M_both_5_b rec v1 I = some x) {Q : Option Value → az_S → Prop} (hQ : Sum.elim (fun s => az_E az_F ex (d + 2) 180 5 [.ref 73, .int s.1, .retAddr 0] [] (97, s.2, J, R) Q) (fun x => Q (some (.int x.1)) (97, x.2, J, R)) x) : az_E az_F ex (d + 2) 180 5 [.ref 73, .int v1, .retAddr 0] [] (97, I, J, R) Q := by
  unfold rs_M_both_5_b at h
  refine az_E.sn 2 (pc' := 8) (L' := [.ref 73, .int v1, .retAddr 0]) (S' := [.int (38 : Int32), .ref 73]) (σ' := (97, I, J, R)) rfl ?_
  cases hx_6 : rs_M_takesByte I (38 : Int32) with
  | none => rw [hx_6] at h; cases h
  | some o =>
    rw [hx_6] at h
    obtain ⟨x_4, I_5⟩ := o
    dsimp only at h
    refine az_E.call (d := (d + 1)) (k' := 178) (vs := [.ref 73, .int (38 : Int32)]) (pc' := 11) (S' := []) (Q1 := fun v s => v = some (.int x_4) ∧ s = (97, I_5, J, R)) rfl (az_E.deep (by omega) (re_M_takesByte (J := J) (R := R)  hx_6 ⟨rfl, rfl⟩)) (fun v s hq => ?_)
    obtain ⟨rfl, rfl⟩ := hq
    show az_E az_F ex (d + 2) 180 11 [.ref 73, .int v1, .retAddr 0] [.int x_4] (97, I_5, J, R) _
    refine az_E.br (c := x_4 = 0) (tt := 36) (ff := 14) (L' := [.ref 73, .int v1, .retAddr 0]) (S' := []) (σ' := (97, I_5, J, R)) rfl (fun hc_7 => ?_) (fun hc_7 => ?_)
    · rw [if_pos hc_7] at h
      refine az_E.sn 1 (pc' := 37) (L' := [.ref 73, .int v1, .retAddr 0]) (S' := [.int v1]) (σ' := (97, I_5, J, R)) rfl ?_
      have h := Option.some.inj h
      subst h
      exact az_E.ret (v := some (.int v1)) (σ' := (97, I_5, J, R)) rfl hQ
    · rw [if_neg hc_7] at h
      refine az_E.sn 1 (pc' := 15) (L' := [.ref 73, .int v1, .retAddr 0]) (S' := [.ref 73]) (σ' := (97, I_5, J, R)) rfl ?_
      cases hx_10 : rec 181 0 0 0 0 I_5 with
      | none => rw [hx_10] at h; cases h
      | some o =>
        rw [hx_10] at h
        obtain ⟨x_8, I_9⟩ := o
        dsimp only at h
        refine az_E.call (d := (d + 1)) (k' := 181) (vs := [.ref 73]) (pc' := 18) (S' := []) (Q1 := fun v s => v = some (.int x_8) ∧ s = (97, I_9, J, R)) rfl (az_E.deep (by omega) (hg_181 _ _ _ _ _ _ hx_10 (J := J) (R := R)  ⟨rfl, rfl⟩)) (fun v s hq => ?_)
        obtain ⟨rfl, rfl⟩ := hq
        show az_E az_F ex (d + 2) 180 18 [.ref 73, .int v1, .retAddr 0] [.int x_8] (97, I_9, J, R) _
        refine az_E.sn 2 (pc' := 20) (L' := [.ref 73, .int v1, .int x_8]) (S' := [.int v1]) (σ' := (97, I_9, J, R)) rfl ?_
        refine az_E.br (c := v1 = 0) (tt := 31) (ff := 23) (L' := [.ref 73, .int v1, .int x_8]) (S' := []) (σ' := (97, I_9, J, R)) rfl (fun hc_11 => ?_) (fun hc_11 => ?_)
        · rw [if_pos hc_11] at h
          refine az_E.sn 3 (pc' := 5) (L' := [.ref 73, .int (0 : Int32), .int x_8]) (S' := []) (σ' := (97, I_9, J, R)) rfl ?_
          have h := Option.some.inj h
          subst h
          exact az_E.forget (L := [.ref 73, .int (0 : Int32), .retAddr 0]) ⟨rfl, rfl, trivial, trivial⟩ hQ
        · rw [if_neg hc_11] at h
          refine az_E.sn 1 (pc' := 24) (L' := [.ref 73, .int v1, .int x_8]) (S' := [.int x_8]) (σ' := (97, I_9, J, R)) rfl ?_
          refine az_E.br (c := x_8 = 0) (tt := 31) (ff := 27) (L' := [.ref 73, .int v1, .int x_8]) (S' := []) (σ' := (97, I_9, J, R)) rfl (fun hc_12 => ?_) (fun hc_12 => ?_)
          · rw [if_pos hc_12] at h
            refine az_E.sn 3 (pc' := 5) (L' := [.ref 73, .int (0 : Int32), .int x_8]) (S' := []) (σ' := (97, I_9, J, R)) rfl ?_
            have h := Option.some.inj h
            subst h
            exact az_E.forget (L := [.ref 73, .int (0 : Int32), .retAddr 0]) ⟨rfl, rfl, trivial, trivial⟩ hQ
          · rw [if_neg hc_12] at h
            refine az_E.sn 4 (pc' := 5) (L' := [.ref 73, .int (1 : Int32), .int x_8]) (S' := []) (σ' := (97, I_9, J, R)) rfl ?_
            have h := Option.some.inj h
            subst h
            exact az_E.forget (L := [.ref 73, .int (1 : Int32), .retAddr 0]) ⟨rfl, rfl, trivial, trivial⟩ hQ
set_option maxRecDepth 100000 in
set_option maxHeartbeats 4000000 in
theorem re_M_both_5 {rec : az_GT} {d : Nat} {ex : az_X} {I : Nat → Nat → Int32} {J : Nat → Nat → Int64} {R : Nat → Nat → Option Nat} {v1 : Int32} (hg_179 : ∀ (b1 b2 b3 b4 : Int32) (I : Nat → Nat → Int32) (o : Int32 × (Nat → Nat → Int32)), rec 179 b1 b2 b3 b4 I = some o → ∀ {J : Nat → Nat → Int64} {R : Nat → Nat → Option Nat} {Q : Option Value → az_S → Prop}, Q (some (.int o.1)) (97, o.2, J, R) → az_E az_F ex d 179 0 [.ref 73, .retAddr 0, .retAddr 0] [] (97, I, J, R) Q) (hg_180 : ∀ (b1 b2 b3 b4 : Int32) (I : Nat → Nat → Int32) (o : Int32 × (Nat → Nat → Int32)), rec 180 b1 b2 b3 b4 I = some o → ∀ {J : Nat → Nat → Int64} {R : Nat → Nat → Option Nat} {Q : Option Value → az_S → Prop}, Q (some (.int o.1)) (97, o.2, J, R) → az_E az_F ex d 180 0 [.ref 73, .retAddr 0, .retAddr 0] [] (97, I, J, R) Q) (hg_181 : ∀ (b1 b2 b3 b4 : Int32) (I : Nat → Nat → Int32) (o : Int32 × (Nat → Nat → Int32)), rec 181 b1 b2 b3 b4 I = some o → ∀ {J : Nat → Nat → Int64} {R : Nat → Nat → Option Nat} {Q : Option Value → az_S → Prop}, Q (some (.int o.1)) (97, o.2, J, R) → az_E az_F ex d 181 0 [.ref 73, .retAddr 0, .retAddr 0, .retAddr 0] [] (97, I, J, R) Q) (hg_182 : ∀ (b1 b2 b3 b4 : Int32) (I : Nat → Nat → Int32) (o : Int32 × (Nat → Nat → Int32)), rec 182 b1 b2 b3 b4 I = some o → ∀ {J : Nat → Nat → Int64} {R : Nat → Nat → Option Nat} {Q : Option Value → az_S → Prop}, Q (some (.int o.1)) (97, o.2, J, R) → az_E az_F ex d 182 0 [.ref 73, .retAddr 0, .retAddr 0, .retAddr 0] [] (97, I, J, R) Q) (hg_183 : ∀ (b1 b2 b3 b4 : Int32) (I : Nat → Nat → Int32) (o : Int32 × (Nat → Nat → Int32)), rec 183 b1 b2 b3 b4 I = some o → ∀ {J : Nat → Nat → Int64} {R : Nat → Nat → Option Nat} {Q : Option Value → az_S → Prop}, Q (some (.int o.1)) (97, o.2, J, R) → az_E az_F ex d 183 0 [.ref 73, .retAddr 0, .retAddr 0, .retAddr 0] [] (97, I, J, R) Q) (hg_185 : ∀ (b1 b2 b3 b4 : Int32) (I : Nat → Nat → Int32) (o : Int32 × (Nat → Nat → Int32)), rec 185 b1 b2 b3 b4 I = some o → ∀ {J : Nat → Nat → Int64} {R : Nat → Nat → Option Nat} {Q : Option Value → az_S → Prop}, Q (some (.int o.1)) (97, o.2, J, R) → az_E az_F ex d 185 0 [.ref 73, .retAddr 0, .retAddr 0, .retAddr 0, .retAddr 0] [] (97, I, J, R) Q) {x : Int32 × (Nat → Nat → Int32)} (h : rs_M_both_5 rec I v1 = some x) {Q : Option Value → az_S → Prop} (hQ : Q (some (.int x.1)) (97, x.2, J, R)) : az_E az_F ex (d + 2) 180 5 [.ref 73, .int v1, .retAddr 0] [] (97, I, J, R) Q := by
  unfold rs_M_both_5 at h
  refine az_lp_E (G := fun s => az_E az_F ex (d + 2) 180 5 [.ref 73, .int s.1, .retAddr 0] [] (97, s.2, J, R) Q) (H := fun x => Q (some (.int x.1)) (97, x.2, J, R)) (fun s o hb ho => ?_) _ _ _ h hQ
  exact re_M_both_5_b hg_179 hg_180 hg_181 hg_182 hg_183 hg_185 hb ho
set_option maxRecDepth 100000 in
set_option maxHeartbeats 4000000 in
theorem re_M_both {rec : az_GT} {d : Nat} {ex : az_X} {I : Nat → Nat → Int32} {J : Nat → Nat → Int64} {R : Nat → Nat → Option Nat} (hg_179 : ∀ (b1 b2 b3 b4 : Int32) (I : Nat → Nat → Int32) (o : Int32 × (Nat → Nat → Int32)), rec 179 b1 b2 b3 b4 I = some o → ∀ {J : Nat → Nat → Int64} {R : Nat → Nat → Option Nat} {Q : Option Value → az_S → Prop}, Q (some (.int o.1)) (97, o.2, J, R) → az_E az_F ex d 179 0 [.ref 73, .retAddr 0, .retAddr 0] [] (97, I, J, R) Q) (hg_180 : ∀ (b1 b2 b3 b4 : Int32) (I : Nat → Nat → Int32) (o : Int32 × (Nat → Nat → Int32)), rec 180 b1 b2 b3 b4 I = some o → ∀ {J : Nat → Nat → Int64} {R : Nat → Nat → Option Nat} {Q : Option Value → az_S → Prop}, Q (some (.int o.1)) (97, o.2, J, R) → az_E az_F ex d 180 0 [.ref 73, .retAddr 0, .retAddr 0] [] (97, I, J, R) Q) (hg_181 : ∀ (b1 b2 b3 b4 : Int32) (I : Nat → Nat → Int32) (o : Int32 × (Nat → Nat → Int32)), rec 181 b1 b2 b3 b4 I = some o → ∀ {J : Nat → Nat → Int64} {R : Nat → Nat → Option Nat} {Q : Option Value → az_S → Prop}, Q (some (.int o.1)) (97, o.2, J, R) → az_E az_F ex d 181 0 [.ref 73, .retAddr 0, .retAddr 0, .retAddr 0] [] (97, I, J, R) Q) (hg_182 : ∀ (b1 b2 b3 b4 : Int32) (I : Nat → Nat → Int32) (o : Int32 × (Nat → Nat → Int32)), rec 182 b1 b2 b3 b4 I = some o → ∀ {J : Nat → Nat → Int64} {R : Nat → Nat → Option Nat} {Q : Option Value → az_S → Prop}, Q (some (.int o.1)) (97, o.2, J, R) → az_E az_F ex d 182 0 [.ref 73, .retAddr 0, .retAddr 0, .retAddr 0] [] (97, I, J, R) Q) (hg_183 : ∀ (b1 b2 b3 b4 : Int32) (I : Nat → Nat → Int32) (o : Int32 × (Nat → Nat → Int32)), rec 183 b1 b2 b3 b4 I = some o → ∀ {J : Nat → Nat → Int64} {R : Nat → Nat → Option Nat} {Q : Option Value → az_S → Prop}, Q (some (.int o.1)) (97, o.2, J, R) → az_E az_F ex d 183 0 [.ref 73, .retAddr 0, .retAddr 0, .retAddr 0] [] (97, I, J, R) Q) (hg_185 : ∀ (b1 b2 b3 b4 : Int32) (I : Nat → Nat → Int32) (o : Int32 × (Nat → Nat → Int32)), rec 185 b1 b2 b3 b4 I = some o → ∀ {J : Nat → Nat → Int64} {R : Nat → Nat → Option Nat} {Q : Option Value → az_S → Prop}, Q (some (.int o.1)) (97, o.2, J, R) → az_E az_F ex d 185 0 [.ref 73, .retAddr 0, .retAddr 0, .retAddr 0, .retAddr 0] [] (97, I, J, R) Q) {o : Int32 × (Nat → Nat → Int32)} (h : rs_M_both rec I = some o) {Q : Option Value → az_S → Prop} (hQ : Q (some (.int o.1)) (97, o.2, J, R)) : az_E az_F ex (d + 2) 180 0 [.ref 73, .retAddr 0, .retAddr 0] [] (97, I, J, R) Q := by
  unfold rs_M_both at h
  refine az_E.sn 1 (pc' := 1) (L' := [.ref 73, .retAddr 0, .retAddr 0]) (S' := [.ref 73]) (σ' := (97, I, J, R)) rfl ?_
  cases hx_3 : rec 181 0 0 0 0 I with
  | none => rw [hx_3] at h; cases h
  | some o =>
    rw [hx_3] at h
    obtain ⟨x_1, I_2⟩ := o
    dsimp only at h
    refine az_E.call (d := (d + 1)) (k' := 181) (vs := [.ref 73]) (pc' := 4) (S' := []) (Q1 := fun v s => v = some (.int x_1) ∧ s = (97, I_2, J, R)) rfl (az_E.deep (by omega) (hg_181 _ _ _ _ _ _ hx_3 (J := J) (R := R)  ⟨rfl, rfl⟩)) (fun v s hq => ?_)
    obtain ⟨rfl, rfl⟩ := hq
    show az_E az_F ex (d + 2) 180 4 [.ref 73, .retAddr 0, .retAddr 0] [.int x_1] (97, I_2, J, R) _
    refine az_E.sn 1 (pc' := 5) (L' := [.ref 73, .int x_1, .retAddr 0]) (S' := []) (σ' := (97, I_2, J, R)) rfl ?_
    exact az_E.forget (L := [.ref 73, .int x_1, .retAddr 0]) ⟨rfl, rfl, trivial, trivial⟩ (re_M_both_5 (I := I_2) (J := J) (R := R) hg_179 hg_180 hg_181 hg_182 hg_183 hg_185 h hQ)
set_option maxRecDepth 100000 in
set_option maxHeartbeats 4000000 in
theorem re_M_compared_37 {rec : az_GT} {d : Nat} {ex : az_X} {I : Nat → Nat → Int32} {J : Nat → Nat → Int64} {R : Nat → Nat → Option Nat} {v1 : Int32} {v2 : Int32} (hg_179 : ∀ (b1 b2 b3 b4 : Int32) (I : Nat → Nat → Int32) (o : Int32 × (Nat → Nat → Int32)), rec 179 b1 b2 b3 b4 I = some o → ∀ {J : Nat → Nat → Int64} {R : Nat → Nat → Option Nat} {Q : Option Value → az_S → Prop}, Q (some (.int o.1)) (97, o.2, J, R) → az_E az_F ex d 179 0 [.ref 73, .retAddr 0, .retAddr 0] [] (97, I, J, R) Q) (hg_180 : ∀ (b1 b2 b3 b4 : Int32) (I : Nat → Nat → Int32) (o : Int32 × (Nat → Nat → Int32)), rec 180 b1 b2 b3 b4 I = some o → ∀ {J : Nat → Nat → Int64} {R : Nat → Nat → Option Nat} {Q : Option Value → az_S → Prop}, Q (some (.int o.1)) (97, o.2, J, R) → az_E az_F ex d 180 0 [.ref 73, .retAddr 0, .retAddr 0] [] (97, I, J, R) Q) (hg_181 : ∀ (b1 b2 b3 b4 : Int32) (I : Nat → Nat → Int32) (o : Int32 × (Nat → Nat → Int32)), rec 181 b1 b2 b3 b4 I = some o → ∀ {J : Nat → Nat → Int64} {R : Nat → Nat → Option Nat} {Q : Option Value → az_S → Prop}, Q (some (.int o.1)) (97, o.2, J, R) → az_E az_F ex d 181 0 [.ref 73, .retAddr 0, .retAddr 0, .retAddr 0] [] (97, I, J, R) Q) (hg_182 : ∀ (b1 b2 b3 b4 : Int32) (I : Nat → Nat → Int32) (o : Int32 × (Nat → Nat → Int32)), rec 182 b1 b2 b3 b4 I = some o → ∀ {J : Nat → Nat → Int64} {R : Nat → Nat → Option Nat} {Q : Option Value → az_S → Prop}, Q (some (.int o.1)) (97, o.2, J, R) → az_E az_F ex d 182 0 [.ref 73, .retAddr 0, .retAddr 0, .retAddr 0] [] (97, I, J, R) Q) (hg_183 : ∀ (b1 b2 b3 b4 : Int32) (I : Nat → Nat → Int32) (o : Int32 × (Nat → Nat → Int32)), rec 183 b1 b2 b3 b4 I = some o → ∀ {J : Nat → Nat → Int64} {R : Nat → Nat → Option Nat} {Q : Option Value → az_S → Prop}, Q (some (.int o.1)) (97, o.2, J, R) → az_E az_F ex d 183 0 [.ref 73, .retAddr 0, .retAddr 0, .retAddr 0] [] (97, I, J, R) Q) (hg_185 : ∀ (b1 b2 b3 b4 : Int32) (I : Nat → Nat → Int32) (o : Int32 × (Nat → Nat → Int32)), rec 185 b1 b2 b3 b4 I = some o → ∀ {J : Nat → Nat → Int64} {R : Nat → Nat → Option Nat} {Q : Option Value → az_S → Prop}, Q (some (.int o.1)) (97, o.2, J, R) → az_E az_F ex d 185 0 [.ref 73, .retAddr 0, .retAddr 0, .retAddr 0, .retAddr 0] [] (97, I, J, R) Q) {x : Int32 × (Nat → Nat → Int32)} (h : rs_M_compared_37 rec I v1 v2 = some x) {Q : Option Value → az_S → Prop} (hQ : Q (some (.int x.1)) (97, x.2, J, R)) : az_E az_F ex (d + 2) 181 37 [.ref 73, .int v1, .int v2, .retAddr 0] [] (97, I, J, R) Q := by
  unfold rs_M_compared_37 at h
  refine az_E.sn 7 (pc' := 48) (L' := [.ref 73, .int v1, .int v2, .retAddr 0]) (S' := [.ref 73]) (σ' := (97, (az_u I 73 15 ((I 73 15) + (1 : Int32))), J, R)) rfl ?_
  cases hx_12 : rec 182 0 0 0 0 (az_u I 73 15 ((I 73 15) + (1 : Int32))) with
  | none => rw [hx_12] at h; cases h
  | some o =>
    rw [hx_12] at h
    obtain ⟨x_10, I_11⟩ := o
    dsimp only at h
    refine az_E.call (d := (d + 1)) (k' := 182) (vs := [.ref 73]) (pc' := 51) (S' := []) (Q1 := fun v s => v = some (.int x_10) ∧ s = (97, I_11, J, R)) rfl (az_E.deep (by omega) (hg_182 _ _ _ _ _ _ hx_12 (J := J) (R := R)  ⟨rfl, rfl⟩)) (fun v s hq => ?_)
    obtain ⟨rfl, rfl⟩ := hq
    show az_E az_F ex (d + 2) 181 51 [.ref 73, .int v1, .int v2, .retAddr 0] [.int x_10] (97, I_11, J, R) _
    refine az_E.sn 3 (pc' := 55) (L' := [.ref 73, .int v1, .int v2, .int x_10]) (S' := [.int (60 : Int32), .int v2]) (σ' := (97, I_11, J, R)) rfl ?_
    refine az_E.br (c := v2 = (60 : Int32)) (tt := 58) (ff := 66) (L' := [.ref 73, .int v1, .int v2, .int x_10]) (S' := []) (σ' := (97, I_11, J, R)) rfl (fun hc_13 => ?_) (fun hc_13 => ?_)
    · rw [if_pos hc_13] at h
      refine az_E.sn 2 (pc' := 60) (L' := [.ref 73, .int v1, .int v2, .int x_10]) (S' := [.int x_10, .int v1]) (σ' := (97, I_11, J, R)) rfl ?_
      refine az_E.br (c := x_10 ≤ v1) (tt := 89) (ff := 63) (L' := [.ref 73, .int v1, .int v2, .int x_10]) (S' := []) (σ' := (97, I_11, J, R)) rfl (fun hc_14 => ?_) (fun hc_14 => ?_)
      · rw [if_pos hc_14] at h
        refine az_E.sn 1 (pc' := 90) (L' := [.ref 73, .int v1, .int v2, .int x_10]) (S' := [.int (0 : Int32)]) (σ' := (97, I_11, J, R)) rfl ?_
        have h := Option.some.inj h
        subst h
        exact az_E.ret (v := some (.int (0 : Int32))) (σ' := (97, I_11, J, R)) rfl hQ
      · rw [if_neg hc_14] at h
        refine az_E.sn 3 (pc' := 90) (L' := [.ref 73, .int v1, .int v2, .int x_10]) (S' := [.int (1 : Int32)]) (σ' := (97, I_11, J, R)) rfl ?_
        have h := Option.some.inj h
        subst h
        exact az_E.ret (v := some (.int (1 : Int32))) (σ' := (97, I_11, J, R)) rfl hQ
    · rw [if_neg hc_13] at h
      refine az_E.sn 2 (pc' := 69) (L' := [.ref 73, .int v1, .int v2, .int x_10]) (S' := [.int (61 : Int32), .int v2]) (σ' := (97, I_11, J, R)) rfl ?_
      refine az_E.br (c := v2 = (61 : Int32)) (tt := 72) (ff := 80) (L' := [.ref 73, .int v1, .int v2, .int x_10]) (S' := []) (σ' := (97, I_11, J, R)) rfl (fun hc_15 => ?_) (fun hc_15 => ?_)
      · rw [if_pos hc_15] at h
        refine az_E.sn 2 (pc' := 74) (L' := [.ref 73, .int v1, .int v2, .int x_10]) (S' := [.int x_10, .int v1]) (σ' := (97, I_11, J, R)) rfl ?_
        refine az_E.br (c := v1 = x_10) (tt := 77) (ff := 89) (L' := [.ref 73, .int v1, .int v2, .int x_10]) (S' := []) (σ' := (97, I_11, J, R)) rfl (fun hc_16 => ?_) (fun hc_16 => ?_)
        · rw [if_pos hc_16] at h
          refine az_E.sn 3 (pc' := 90) (L' := [.ref 73, .int v1, .int v2, .int x_10]) (S' := [.int (1 : Int32)]) (σ' := (97, I_11, J, R)) rfl ?_
          have h := Option.some.inj h
          subst h
          exact az_E.ret (v := some (.int (1 : Int32))) (σ' := (97, I_11, J, R)) rfl hQ
        · rw [if_neg hc_16] at h
          refine az_E.sn 1 (pc' := 90) (L' := [.ref 73, .int v1, .int v2, .int x_10]) (S' := [.int (0 : Int32)]) (σ' := (97, I_11, J, R)) rfl ?_
          have h := Option.some.inj h
          subst h
          exact az_E.ret (v := some (.int (0 : Int32))) (σ' := (97, I_11, J, R)) rfl hQ
      · rw [if_neg hc_15] at h
        refine az_E.sn 2 (pc' := 82) (L' := [.ref 73, .int v1, .int v2, .int x_10]) (S' := [.int x_10, .int v1]) (σ' := (97, I_11, J, R)) rfl ?_
        refine az_E.br (c := v1 ≤ x_10) (tt := 89) (ff := 85) (L' := [.ref 73, .int v1, .int v2, .int x_10]) (S' := []) (σ' := (97, I_11, J, R)) rfl (fun hc_17 => ?_) (fun hc_17 => ?_)
        · rw [if_pos hc_17] at h
          refine az_E.sn 1 (pc' := 90) (L' := [.ref 73, .int v1, .int v2, .int x_10]) (S' := [.int (0 : Int32)]) (σ' := (97, I_11, J, R)) rfl ?_
          have h := Option.some.inj h
          subst h
          exact az_E.ret (v := some (.int (0 : Int32))) (σ' := (97, I_11, J, R)) rfl hQ
        · rw [if_neg hc_17] at h
          refine az_E.sn 2 (pc' := 90) (L' := [.ref 73, .int v1, .int v2, .int x_10]) (S' := [.int (1 : Int32)]) (σ' := (97, I_11, J, R)) rfl ?_
          have h := Option.some.inj h
          subst h
          exact az_E.ret (v := some (.int (1 : Int32))) (σ' := (97, I_11, J, R)) rfl hQ
set_option maxRecDepth 100000 in
set_option maxHeartbeats 4000000 in
theorem re_M_compared {rec : az_GT} {d : Nat} {ex : az_X} {I : Nat → Nat → Int32} {J : Nat → Nat → Int64} {R : Nat → Nat → Option Nat} (hg_179 : ∀ (b1 b2 b3 b4 : Int32) (I : Nat → Nat → Int32) (o : Int32 × (Nat → Nat → Int32)), rec 179 b1 b2 b3 b4 I = some o → ∀ {J : Nat → Nat → Int64} {R : Nat → Nat → Option Nat} {Q : Option Value → az_S → Prop}, Q (some (.int o.1)) (97, o.2, J, R) → az_E az_F ex d 179 0 [.ref 73, .retAddr 0, .retAddr 0] [] (97, I, J, R) Q) (hg_180 : ∀ (b1 b2 b3 b4 : Int32) (I : Nat → Nat → Int32) (o : Int32 × (Nat → Nat → Int32)), rec 180 b1 b2 b3 b4 I = some o → ∀ {J : Nat → Nat → Int64} {R : Nat → Nat → Option Nat} {Q : Option Value → az_S → Prop}, Q (some (.int o.1)) (97, o.2, J, R) → az_E az_F ex d 180 0 [.ref 73, .retAddr 0, .retAddr 0] [] (97, I, J, R) Q) (hg_181 : ∀ (b1 b2 b3 b4 : Int32) (I : Nat → Nat → Int32) (o : Int32 × (Nat → Nat → Int32)), rec 181 b1 b2 b3 b4 I = some o → ∀ {J : Nat → Nat → Int64} {R : Nat → Nat → Option Nat} {Q : Option Value → az_S → Prop}, Q (some (.int o.1)) (97, o.2, J, R) → az_E az_F ex d 181 0 [.ref 73, .retAddr 0, .retAddr 0, .retAddr 0] [] (97, I, J, R) Q) (hg_182 : ∀ (b1 b2 b3 b4 : Int32) (I : Nat → Nat → Int32) (o : Int32 × (Nat → Nat → Int32)), rec 182 b1 b2 b3 b4 I = some o → ∀ {J : Nat → Nat → Int64} {R : Nat → Nat → Option Nat} {Q : Option Value → az_S → Prop}, Q (some (.int o.1)) (97, o.2, J, R) → az_E az_F ex d 182 0 [.ref 73, .retAddr 0, .retAddr 0, .retAddr 0] [] (97, I, J, R) Q) (hg_183 : ∀ (b1 b2 b3 b4 : Int32) (I : Nat → Nat → Int32) (o : Int32 × (Nat → Nat → Int32)), rec 183 b1 b2 b3 b4 I = some o → ∀ {J : Nat → Nat → Int64} {R : Nat → Nat → Option Nat} {Q : Option Value → az_S → Prop}, Q (some (.int o.1)) (97, o.2, J, R) → az_E az_F ex d 183 0 [.ref 73, .retAddr 0, .retAddr 0, .retAddr 0] [] (97, I, J, R) Q) (hg_185 : ∀ (b1 b2 b3 b4 : Int32) (I : Nat → Nat → Int32) (o : Int32 × (Nat → Nat → Int32)), rec 185 b1 b2 b3 b4 I = some o → ∀ {J : Nat → Nat → Int64} {R : Nat → Nat → Option Nat} {Q : Option Value → az_S → Prop}, Q (some (.int o.1)) (97, o.2, J, R) → az_E az_F ex d 185 0 [.ref 73, .retAddr 0, .retAddr 0, .retAddr 0, .retAddr 0] [] (97, I, J, R) Q) {o : Int32 × (Nat → Nat → Int32)} (h : rs_M_compared rec I = some o) {Q : Option Value → az_S → Prop} (hQ : Q (some (.int o.1)) (97, o.2, J, R)) : az_E az_F ex (d + 2) 181 0 [.ref 73, .retAddr 0, .retAddr 0, .retAddr 0] [] (97, I, J, R) Q := by
  unfold rs_M_compared at h
  refine az_E.sn 1 (pc' := 1) (L' := [.ref 73, .retAddr 0, .retAddr 0, .retAddr 0]) (S' := [.ref 73]) (σ' := (97, I, J, R)) rfl ?_
  cases hx_3 : rec 182 0 0 0 0 I with
  | none => rw [hx_3] at h; cases h
  | some o =>
    rw [hx_3] at h
    obtain ⟨x_1, I_2⟩ := o
    dsimp only at h
    refine az_E.call (d := (d + 1)) (k' := 182) (vs := [.ref 73]) (pc' := 4) (S' := []) (Q1 := fun v s => v = some (.int x_1) ∧ s = (97, I_2, J, R)) rfl (az_E.deep (by omega) (hg_182 _ _ _ _ _ _ hx_3 (J := J) (R := R)  ⟨rfl, rfl⟩)) (fun v s hq => ?_)
    obtain ⟨rfl, rfl⟩ := hq
    show az_E az_F ex (d + 2) 181 4 [.ref 73, .retAddr 0, .retAddr 0, .retAddr 0] [.int x_1] (97, I_2, J, R) _
    refine az_E.sn 2 (pc' := 6) (L' := [.ref 73, .int x_1, .retAddr 0, .retAddr 0]) (S' := [.ref 73]) (σ' := (97, I_2, J, R)) rfl ?_
    refine az_E.call (d := (d + 1)) (k' := 176) (vs := [.ref 73]) (pc' := 9) (S' := []) rfl ?_ (fun _ _ hq => hq)
    show az_E az_F ex (d + 1) 176 0 [.ref 73] [] (97, I_2, J, R) _
    refine az_E.sn 4 (pc' := 8) (L' := [.ref 73]) (S' := [.int (I_2 73 16), .int (I_2 73 15)]) (σ' := (97, I_2, J, R)) rfl ?_
    refine az_E.br (c := (I_2 73 16) ≤ (I_2 73 15)) (tt := 47) (ff := 11) (L' := [.ref 73]) (S' := []) (σ' := (97, I_2, J, R)) rfl (fun hc_4 => ?_) (fun hc_4 => ?_)
    · rw [if_pos hc_4] at h
      refine az_E.sn 1 (pc' := 48) (L' := [.ref 73]) (S' := [.int (0 : Int32)]) (σ' := (97, I_2, J, R)) rfl ?_
      refine az_E.ret (v := some (.int (0 : Int32))) (σ' := (97, I_2, J, R)) rfl ?_
      show az_E az_F ex (d + 2) 181 9 [.ref 73, .int x_1, .retAddr 0, .retAddr 0] [.int (0 : Int32)] (97, I_2, J, R) _
      refine az_E.sn 3 (pc' := 14) (L' := [.ref 73, .int x_1, .int (0 : Int32), .retAddr 0]) (S' := [.int (I_2 73 17)]) (σ' := (97, I_2, J, R)) rfl ?_
      refine az_E.br (c := 0 ≤ (I_2 73 17)) (tt := 35) (ff := 17) (L' := [.ref 73, .int x_1, .int (0 : Int32), .retAddr 0]) (S' := []) (σ' := (97, I_2, J, R)) rfl (fun hc_5 => ?_) (fun hc_5 => ?_)
      · rw [if_pos hc_5] at h
        refine az_E.sn 1 (pc' := 36) (L' := [.ref 73, .int x_1, .int (0 : Int32), .retAddr 0]) (S' := [.int x_1]) (σ' := (97, I_2, J, R)) rfl ?_
        have h := Option.some.inj h
        subst h
        exact az_E.ret (v := some (.int x_1)) (σ' := (97, I_2, J, R)) rfl hQ
      · rw [if_neg hc_5] at h
        refine az_E.sn 2 (pc' := 20) (L' := [.ref 73, .int x_1, .int (0 : Int32), .retAddr 0]) (S' := [.int (60 : Int32), .int (0 : Int32)]) (σ' := (97, I_2, J, R)) rfl ?_
        refine az_E.br (c := (0 : Int32) = (60 : Int32)) (tt := 37) (ff := 23) (L' := [.ref 73, .int x_1, .int (0 : Int32), .retAddr 0]) (S' := []) (σ' := (97, I_2, J, R)) rfl (fun hn => absurd hn (by decide)) (fun _ => ?_)
        refine az_E.sn 2 (pc' := 26) (L' := [.ref 73, .int x_1, .int (0 : Int32), .retAddr 0]) (S' := [.int (61 : Int32), .int (0 : Int32)]) (σ' := (97, I_2, J, R)) rfl ?_
        refine az_E.br (c := (0 : Int32) = (61 : Int32)) (tt := 37) (ff := 29) (L' := [.ref 73, .int x_1, .int (0 : Int32), .retAddr 0]) (S' := []) (σ' := (97, I_2, J, R)) rfl (fun hn => absurd hn (by decide)) (fun _ => ?_)
        refine az_E.sn 2 (pc' := 32) (L' := [.ref 73, .int x_1, .int (0 : Int32), .retAddr 0]) (S' := [.int (62 : Int32), .int (0 : Int32)]) (σ' := (97, I_2, J, R)) rfl ?_
        refine az_E.br (c := (0 : Int32) = (62 : Int32)) (tt := 37) (ff := 35) (L' := [.ref 73, .int x_1, .int (0 : Int32), .retAddr 0]) (S' := []) (σ' := (97, I_2, J, R)) rfl (fun hn => absurd hn (by decide)) (fun _ => ?_)
        refine az_E.sn 1 (pc' := 36) (L' := [.ref 73, .int x_1, .int (0 : Int32), .retAddr 0]) (S' := [.int x_1]) (σ' := (97, I_2, J, R)) rfl ?_
        have h := Option.some.inj h
        subst h
        exact az_E.ret (v := some (.int x_1)) (σ' := (97, I_2, J, R)) rfl hQ
    · rw [if_neg hc_4] at h
      refine az_E.sn 2 (pc' := 15) (L' := [.ref 73]) (S' := [.int (I_2 73 14)]) (σ' := (97, I_2, J, R)) rfl ?_
      refine az_E.br (c := 0 ≤ (I_2 73 14)) (tt := 30) (ff := 18) (L' := [.ref 73]) (S' := []) (σ' := (97, I_2, J, R)) rfl (fun hc_6 => ?_) (fun hc_6 => ?_)
      · rw [if_pos hc_6] at h
        refine az_E.sn 7 (pc' := 43) (L' := [.ref 73]) (S' := [.int ((I_2 73 14) + (I_2 73 15)), .ref 81]) (σ' := (97, I_2, J, R)) rfl ?_
        by_cases hc_7 : ((I_2 73 14) + (I_2 73 15)) < 0 ∨ 120 ≤ ((I_2 73 14) + (I_2 73 15)).toNatClampNeg
        · rw [if_pos hc_7] at h; cases h
        · rw [if_neg hc_7] at h
          refine az_E.oi (o := az_ai az_F ex (97, I_2, J, R) 81 ((I_2 73 14) + (I_2 73 15))) (pc' := 44) (L' := [.ref 73]) (S' := []) (σ' := (97, I_2, J, R)) (x := (I_2 81 ((I_2 73 14) + (I_2 73 15)).toNatClampNeg)) rfl (if_neg hc_7) ?_
          refine az_E.sn 1 (pc' := 48) (L' := [.ref 73]) (S' := [.int (I_2 81 ((I_2 73 14) + (I_2 73 15)).toNatClampNeg)]) (σ' := (97, I_2, J, R)) rfl ?_
          refine az_E.ret (v := some (.int (I_2 81 ((I_2 73 14) + (I_2 73 15)).toNatClampNeg))) (σ' := (97, I_2, J, R)) rfl ?_
          show az_E az_F ex (d + 2) 181 9 [.ref 73, .int x_1, .retAddr 0, .retAddr 0] [.int (I_2 81 ((I_2 73 14) + (I_2 73 15)).toNatClampNeg)] (97, I_2, J, R) _
          refine az_E.sn 3 (pc' := 14) (L' := [.ref 73, .int x_1, .int (I_2 81 ((I_2 73 14) + (I_2 73 15)).toNatClampNeg), .retAddr 0]) (S' := [.int (I_2 73 17)]) (σ' := (97, I_2, J, R)) rfl ?_
          refine az_E.br (c := 0 ≤ (I_2 73 17)) (tt := 35) (ff := 17) (L' := [.ref 73, .int x_1, .int (I_2 81 ((I_2 73 14) + (I_2 73 15)).toNatClampNeg), .retAddr 0]) (S' := []) (σ' := (97, I_2, J, R)) rfl (fun hc_8 => ?_) (fun hc_8 => ?_)
          · rw [if_pos hc_8] at h
            refine az_E.sn 1 (pc' := 36) (L' := [.ref 73, .int x_1, .int (I_2 81 ((I_2 73 14) + (I_2 73 15)).toNatClampNeg), .retAddr 0]) (S' := [.int x_1]) (σ' := (97, I_2, J, R)) rfl ?_
            have h := Option.some.inj h
            subst h
            exact az_E.ret (v := some (.int x_1)) (σ' := (97, I_2, J, R)) rfl hQ
          · rw [if_neg hc_8] at h
            refine az_E.sn 2 (pc' := 20) (L' := [.ref 73, .int x_1, .int (I_2 81 ((I_2 73 14) + (I_2 73 15)).toNatClampNeg), .retAddr 0]) (S' := [.int (60 : Int32), .int (I_2 81 ((I_2 73 14) + (I_2 73 15)).toNatClampNeg)]) (σ' := (97, I_2, J, R)) rfl ?_
            refine az_E.br (c := (I_2 81 ((I_2 73 14) + (I_2 73 15)).toNatClampNeg) = (60 : Int32)) (tt := 37) (ff := 23) (L' := [.ref 73, .int x_1, .int (I_2 81 ((I_2 73 14) + (I_2 73 15)).toNatClampNeg), .retAddr 0]) (S' := []) (σ' := (97, I_2, J, R)) rfl (fun hc_9 => ?_) (fun hc_9 => ?_)
            · rw [if_pos hc_9] at h
              exact az_E.forget (L := [.ref 73, .int x_1, .int (I_2 81 ((I_2 73 14) + (I_2 73 15)).toNatClampNeg), .retAddr 0]) ⟨rfl, rfl, rfl, trivial, trivial⟩ (re_M_compared_37 (I := I_2) (J := J) (R := R) hg_179 hg_180 hg_181 hg_182 hg_183 hg_185 h hQ)
            · rw [if_neg hc_9] at h
              refine az_E.sn 2 (pc' := 26) (L' := [.ref 73, .int x_1, .int (I_2 81 ((I_2 73 14) + (I_2 73 15)).toNatClampNeg), .retAddr 0]) (S' := [.int (61 : Int32), .int (I_2 81 ((I_2 73 14) + (I_2 73 15)).toNatClampNeg)]) (σ' := (97, I_2, J, R)) rfl ?_
              refine az_E.br (c := (I_2 81 ((I_2 73 14) + (I_2 73 15)).toNatClampNeg) = (61 : Int32)) (tt := 37) (ff := 29) (L' := [.ref 73, .int x_1, .int (I_2 81 ((I_2 73 14) + (I_2 73 15)).toNatClampNeg), .retAddr 0]) (S' := []) (σ' := (97, I_2, J, R)) rfl (fun hc_18 => ?_) (fun hc_18 => ?_)
              · rw [if_pos hc_18] at h
                exact az_E.forget (L := [.ref 73, .int x_1, .int (I_2 81 ((I_2 73 14) + (I_2 73 15)).toNatClampNeg), .retAddr 0]) ⟨rfl, rfl, rfl, trivial, trivial⟩ (re_M_compared_37 (I := I_2) (J := J) (R := R) hg_179 hg_180 hg_181 hg_182 hg_183 hg_185 h hQ)
              · rw [if_neg hc_18] at h
                refine az_E.sn 2 (pc' := 32) (L' := [.ref 73, .int x_1, .int (I_2 81 ((I_2 73 14) + (I_2 73 15)).toNatClampNeg), .retAddr 0]) (S' := [.int (62 : Int32), .int (I_2 81 ((I_2 73 14) + (I_2 73 15)).toNatClampNeg)]) (σ' := (97, I_2, J, R)) rfl ?_
                refine az_E.br (c := (I_2 81 ((I_2 73 14) + (I_2 73 15)).toNatClampNeg) = (62 : Int32)) (tt := 37) (ff := 35) (L' := [.ref 73, .int x_1, .int (I_2 81 ((I_2 73 14) + (I_2 73 15)).toNatClampNeg), .retAddr 0]) (S' := []) (σ' := (97, I_2, J, R)) rfl (fun hc_19 => ?_) (fun hc_19 => ?_)
                · rw [if_pos hc_19] at h
                  exact az_E.forget (L := [.ref 73, .int x_1, .int (I_2 81 ((I_2 73 14) + (I_2 73 15)).toNatClampNeg), .retAddr 0]) ⟨rfl, rfl, rfl, trivial, trivial⟩ (re_M_compared_37 (I := I_2) (J := J) (R := R) hg_179 hg_180 hg_181 hg_182 hg_183 hg_185 h hQ)
                · rw [if_neg hc_19] at h
                  refine az_E.sn 1 (pc' := 36) (L' := [.ref 73, .int x_1, .int (I_2 81 ((I_2 73 14) + (I_2 73 15)).toNatClampNeg), .retAddr 0]) (S' := [.int x_1]) (σ' := (97, I_2, J, R)) rfl ?_
                  have h := Option.some.inj h
                  subst h
                  exact az_E.ret (v := some (.int x_1)) (σ' := (97, I_2, J, R)) rfl hQ
      · rw [if_neg hc_6] at h
        refine az_E.sn 4 (pc' := 26) (L' := [.ref 73]) (S' := [.int (I_2 73 15), .ref 80]) (σ' := (97, I_2, J, R)) rfl ?_
        by_cases hc_20 : (I_2 73 15) < 0 ∨ 120 ≤ (I_2 73 15).toNatClampNeg
        · rw [if_pos hc_20] at h; cases h
        · rw [if_neg hc_20] at h
          refine az_E.oi (o := az_ai az_F ex (97, I_2, J, R) 80 (I_2 73 15)) (pc' := 27) (L' := [.ref 73]) (S' := []) (σ' := (97, I_2, J, R)) (x := (I_2 80 (I_2 73 15).toNatClampNeg)) rfl (if_neg hc_20) ?_
          refine az_E.sn 1 (pc' := 48) (L' := [.ref 73]) (S' := [.int (I_2 80 (I_2 73 15).toNatClampNeg)]) (σ' := (97, I_2, J, R)) rfl ?_
          refine az_E.ret (v := some (.int (I_2 80 (I_2 73 15).toNatClampNeg))) (σ' := (97, I_2, J, R)) rfl ?_
          show az_E az_F ex (d + 2) 181 9 [.ref 73, .int x_1, .retAddr 0, .retAddr 0] [.int (I_2 80 (I_2 73 15).toNatClampNeg)] (97, I_2, J, R) _
          refine az_E.sn 3 (pc' := 14) (L' := [.ref 73, .int x_1, .int (I_2 80 (I_2 73 15).toNatClampNeg), .retAddr 0]) (S' := [.int (I_2 73 17)]) (σ' := (97, I_2, J, R)) rfl ?_
          refine az_E.br (c := 0 ≤ (I_2 73 17)) (tt := 35) (ff := 17) (L' := [.ref 73, .int x_1, .int (I_2 80 (I_2 73 15).toNatClampNeg), .retAddr 0]) (S' := []) (σ' := (97, I_2, J, R)) rfl (fun hc_21 => ?_) (fun hc_21 => ?_)
          · rw [if_pos hc_21] at h
            refine az_E.sn 1 (pc' := 36) (L' := [.ref 73, .int x_1, .int (I_2 80 (I_2 73 15).toNatClampNeg), .retAddr 0]) (S' := [.int x_1]) (σ' := (97, I_2, J, R)) rfl ?_
            have h := Option.some.inj h
            subst h
            exact az_E.ret (v := some (.int x_1)) (σ' := (97, I_2, J, R)) rfl hQ
          · rw [if_neg hc_21] at h
            refine az_E.sn 2 (pc' := 20) (L' := [.ref 73, .int x_1, .int (I_2 80 (I_2 73 15).toNatClampNeg), .retAddr 0]) (S' := [.int (60 : Int32), .int (I_2 80 (I_2 73 15).toNatClampNeg)]) (σ' := (97, I_2, J, R)) rfl ?_
            refine az_E.br (c := (I_2 80 (I_2 73 15).toNatClampNeg) = (60 : Int32)) (tt := 37) (ff := 23) (L' := [.ref 73, .int x_1, .int (I_2 80 (I_2 73 15).toNatClampNeg), .retAddr 0]) (S' := []) (σ' := (97, I_2, J, R)) rfl (fun hc_22 => ?_) (fun hc_22 => ?_)
            · rw [if_pos hc_22] at h
              exact az_E.forget (L := [.ref 73, .int x_1, .int (I_2 80 (I_2 73 15).toNatClampNeg), .retAddr 0]) ⟨rfl, rfl, rfl, trivial, trivial⟩ (re_M_compared_37 (I := I_2) (J := J) (R := R) hg_179 hg_180 hg_181 hg_182 hg_183 hg_185 h hQ)
            · rw [if_neg hc_22] at h
              refine az_E.sn 2 (pc' := 26) (L' := [.ref 73, .int x_1, .int (I_2 80 (I_2 73 15).toNatClampNeg), .retAddr 0]) (S' := [.int (61 : Int32), .int (I_2 80 (I_2 73 15).toNatClampNeg)]) (σ' := (97, I_2, J, R)) rfl ?_
              refine az_E.br (c := (I_2 80 (I_2 73 15).toNatClampNeg) = (61 : Int32)) (tt := 37) (ff := 29) (L' := [.ref 73, .int x_1, .int (I_2 80 (I_2 73 15).toNatClampNeg), .retAddr 0]) (S' := []) (σ' := (97, I_2, J, R)) rfl (fun hc_23 => ?_) (fun hc_23 => ?_)
              · rw [if_pos hc_23] at h
                exact az_E.forget (L := [.ref 73, .int x_1, .int (I_2 80 (I_2 73 15).toNatClampNeg), .retAddr 0]) ⟨rfl, rfl, rfl, trivial, trivial⟩ (re_M_compared_37 (I := I_2) (J := J) (R := R) hg_179 hg_180 hg_181 hg_182 hg_183 hg_185 h hQ)
              · rw [if_neg hc_23] at h
                refine az_E.sn 2 (pc' := 32) (L' := [.ref 73, .int x_1, .int (I_2 80 (I_2 73 15).toNatClampNeg), .retAddr 0]) (S' := [.int (62 : Int32), .int (I_2 80 (I_2 73 15).toNatClampNeg)]) (σ' := (97, I_2, J, R)) rfl ?_
                refine az_E.br (c := (I_2 80 (I_2 73 15).toNatClampNeg) = (62 : Int32)) (tt := 37) (ff := 35) (L' := [.ref 73, .int x_1, .int (I_2 80 (I_2 73 15).toNatClampNeg), .retAddr 0]) (S' := []) (σ' := (97, I_2, J, R)) rfl (fun hc_24 => ?_) (fun hc_24 => ?_)
                · rw [if_pos hc_24] at h
                  exact az_E.forget (L := [.ref 73, .int x_1, .int (I_2 80 (I_2 73 15).toNatClampNeg), .retAddr 0]) ⟨rfl, rfl, rfl, trivial, trivial⟩ (re_M_compared_37 (I := I_2) (J := J) (R := R) hg_179 hg_180 hg_181 hg_182 hg_183 hg_185 h hQ)
                · rw [if_neg hc_24] at h
                  refine az_E.sn 1 (pc' := 36) (L' := [.ref 73, .int x_1, .int (I_2 80 (I_2 73 15).toNatClampNeg), .retAddr 0]) (S' := [.int x_1]) (σ' := (97, I_2, J, R)) rfl ?_
                  have h := Option.some.inj h
                  subst h
                  exact az_E.ret (v := some (.int x_1)) (σ' := (97, I_2, J, R)) rfl hQ
set_option maxRecDepth 100000 in
set_option maxHeartbeats 4000000 in
theorem re_M_sums_44 {rec : az_GT} {d : Nat} {ex : az_X} {I : Nat → Nat → Int32} {J : Nat → Nat → Int64} {R : Nat → Nat → Option Nat} {v1 : Int32} {s0 : Int32} (hg_179 : ∀ (b1 b2 b3 b4 : Int32) (I : Nat → Nat → Int32) (o : Int32 × (Nat → Nat → Int32)), rec 179 b1 b2 b3 b4 I = some o → ∀ {J : Nat → Nat → Int64} {R : Nat → Nat → Option Nat} {Q : Option Value → az_S → Prop}, Q (some (.int o.1)) (97, o.2, J, R) → az_E az_F ex d 179 0 [.ref 73, .retAddr 0, .retAddr 0] [] (97, I, J, R) Q) (hg_180 : ∀ (b1 b2 b3 b4 : Int32) (I : Nat → Nat → Int32) (o : Int32 × (Nat → Nat → Int32)), rec 180 b1 b2 b3 b4 I = some o → ∀ {J : Nat → Nat → Int64} {R : Nat → Nat → Option Nat} {Q : Option Value → az_S → Prop}, Q (some (.int o.1)) (97, o.2, J, R) → az_E az_F ex d 180 0 [.ref 73, .retAddr 0, .retAddr 0] [] (97, I, J, R) Q) (hg_181 : ∀ (b1 b2 b3 b4 : Int32) (I : Nat → Nat → Int32) (o : Int32 × (Nat → Nat → Int32)), rec 181 b1 b2 b3 b4 I = some o → ∀ {J : Nat → Nat → Int64} {R : Nat → Nat → Option Nat} {Q : Option Value → az_S → Prop}, Q (some (.int o.1)) (97, o.2, J, R) → az_E az_F ex d 181 0 [.ref 73, .retAddr 0, .retAddr 0, .retAddr 0] [] (97, I, J, R) Q) (hg_182 : ∀ (b1 b2 b3 b4 : Int32) (I : Nat → Nat → Int32) (o : Int32 × (Nat → Nat → Int32)), rec 182 b1 b2 b3 b4 I = some o → ∀ {J : Nat → Nat → Int64} {R : Nat → Nat → Option Nat} {Q : Option Value → az_S → Prop}, Q (some (.int o.1)) (97, o.2, J, R) → az_E az_F ex d 182 0 [.ref 73, .retAddr 0, .retAddr 0, .retAddr 0] [] (97, I, J, R) Q) (hg_183 : ∀ (b1 b2 b3 b4 : Int32) (I : Nat → Nat → Int32) (o : Int32 × (Nat → Nat → Int32)), rec 183 b1 b2 b3 b4 I = some o → ∀ {J : Nat → Nat → Int64} {R : Nat → Nat → Option Nat} {Q : Option Value → az_S → Prop}, Q (some (.int o.1)) (97, o.2, J, R) → az_E az_F ex d 183 0 [.ref 73, .retAddr 0, .retAddr 0, .retAddr 0] [] (97, I, J, R) Q) (hg_185 : ∀ (b1 b2 b3 b4 : Int32) (I : Nat → Nat → Int32) (o : Int32 × (Nat → Nat → Int32)), rec 185 b1 b2 b3 b4 I = some o → ∀ {J : Nat → Nat → Int64} {R : Nat → Nat → Option Nat} {Q : Option Value → az_S → Prop}, Q (some (.int o.1)) (97, o.2, J, R) → az_E az_F ex d 185 0 [.ref 73, .retAddr 0, .retAddr 0, .retAddr 0, .retAddr 0] [] (97, I, J, R) Q) {x : ((Int32 × (Nat → Nat → Int32)) ⊕ (Int32 × (Nat → Nat → Int32)))} (h : rs_M_sums_44 rec I v1 s0 = some x) {Q : Option Value → az_S → Prop} (hQ : Sum.elim (fun s => az_E az_F ex (d + 2) 182 5 [.ref 73, .int s.1, .retAddr 0, .retAddr 0] [] (97, s.2, J, R) Q) (fun x => Q (some (.int x.1)) (97, x.2, J, R)) x) : az_E az_F ex (d + 2) 182 44 [.ref 73, .int v1, .retAddr 0, .retAddr 0] [.int s0] (97, I, J, R) Q := by
  unfold rs_M_sums_44 at h
  refine az_E.sn 8 (pc' := 56) (L' := [.ref 73, .int v1, .int s0, .retAddr 0]) (S' := [.ref 73]) (σ' := (97, (az_u I 73 15 ((I 73 15) + (1 : Int32))), J, R)) rfl ?_
  cases hx_13 : rec 183 0 0 0 0 (az_u I 73 15 ((I 73 15) + (1 : Int32))) with
  | none => rw [hx_13] at h; cases h
  | some o =>
    rw [hx_13] at h
    obtain ⟨x_11, I_12⟩ := o
    dsimp only at h
    refine az_E.call (d := (d + 1)) (k' := 183) (vs := [.ref 73]) (pc' := 59) (S' := []) (Q1 := fun v s => v = some (.int x_11) ∧ s = (97, I_12, J, R)) rfl (az_E.deep (by omega) (hg_183 _ _ _ _ _ _ hx_13 (J := J) (R := R)  ⟨rfl, rfl⟩)) (fun v s hq => ?_)
    obtain ⟨rfl, rfl⟩ := hq
    show az_E az_F ex (d + 2) 182 59 [.ref 73, .int v1, .int s0, .retAddr 0] [.int x_11] (97, I_12, J, R) _
    refine az_E.sn 2 (pc' := 61) (L' := [.ref 73, .int v1, .int s0, .int x_11]) (S' := [.int s0]) (σ' := (97, I_12, J, R)) rfl ?_
    refine az_E.br (c := s0 = 0) (tt := 70) (ff := 64) (L' := [.ref 73, .int v1, .int s0, .int x_11]) (S' := []) (σ' := (97, I_12, J, R)) rfl (fun hc_14 => ?_) (fun hc_14 => ?_)
    · rw [if_pos hc_14] at h
      refine az_E.sn 5 (pc' := 5) (L' := [.ref 73, .int (v1 - x_11), .int s0, .int x_11]) (S' := []) (σ' := (97, I_12, J, R)) rfl ?_
      have h := Option.some.inj h
      subst h
      exact az_E.forget (L := [.ref 73, .int (v1 - x_11), .retAddr 0, .retAddr 0]) ⟨rfl, rfl, trivial, trivial, trivial⟩ hQ
    · rw [if_neg hc_14] at h
      refine az_E.sn 6 (pc' := 5) (L' := [.ref 73, .int (v1 + x_11), .int s0, .int x_11]) (S' := []) (σ' := (97, I_12, J, R)) rfl ?_
      have h := Option.some.inj h
      subst h
      exact az_E.forget (L := [.ref 73, .int (v1 + x_11), .retAddr 0, .retAddr 0]) ⟨rfl, rfl, trivial, trivial, trivial⟩ hQ
set_option maxRecDepth 100000 in
set_option maxHeartbeats 4000000 in
theorem re_M_sums_30 {rec : az_GT} {d : Nat} {ex : az_X} {I : Nat → Nat → Int32} {J : Nat → Nat → Int64} {R : Nat → Nat → Option Nat} {v1 : Int32} (hg_179 : ∀ (b1 b2 b3 b4 : Int32) (I : Nat → Nat → Int32) (o : Int32 × (Nat → Nat → Int32)), rec 179 b1 b2 b3 b4 I = some o → ∀ {J : Nat → Nat → Int64} {R : Nat → Nat → Option Nat} {Q : Option Value → az_S → Prop}, Q (some (.int o.1)) (97, o.2, J, R) → az_E az_F ex d 179 0 [.ref 73, .retAddr 0, .retAddr 0] [] (97, I, J, R) Q) (hg_180 : ∀ (b1 b2 b3 b4 : Int32) (I : Nat → Nat → Int32) (o : Int32 × (Nat → Nat → Int32)), rec 180 b1 b2 b3 b4 I = some o → ∀ {J : Nat → Nat → Int64} {R : Nat → Nat → Option Nat} {Q : Option Value → az_S → Prop}, Q (some (.int o.1)) (97, o.2, J, R) → az_E az_F ex d 180 0 [.ref 73, .retAddr 0, .retAddr 0] [] (97, I, J, R) Q) (hg_181 : ∀ (b1 b2 b3 b4 : Int32) (I : Nat → Nat → Int32) (o : Int32 × (Nat → Nat → Int32)), rec 181 b1 b2 b3 b4 I = some o → ∀ {J : Nat → Nat → Int64} {R : Nat → Nat → Option Nat} {Q : Option Value → az_S → Prop}, Q (some (.int o.1)) (97, o.2, J, R) → az_E az_F ex d 181 0 [.ref 73, .retAddr 0, .retAddr 0, .retAddr 0] [] (97, I, J, R) Q) (hg_182 : ∀ (b1 b2 b3 b4 : Int32) (I : Nat → Nat → Int32) (o : Int32 × (Nat → Nat → Int32)), rec 182 b1 b2 b3 b4 I = some o → ∀ {J : Nat → Nat → Int64} {R : Nat → Nat → Option Nat} {Q : Option Value → az_S → Prop}, Q (some (.int o.1)) (97, o.2, J, R) → az_E az_F ex d 182 0 [.ref 73, .retAddr 0, .retAddr 0, .retAddr 0] [] (97, I, J, R) Q) (hg_183 : ∀ (b1 b2 b3 b4 : Int32) (I : Nat → Nat → Int32) (o : Int32 × (Nat → Nat → Int32)), rec 183 b1 b2 b3 b4 I = some o → ∀ {J : Nat → Nat → Int64} {R : Nat → Nat → Option Nat} {Q : Option Value → az_S → Prop}, Q (some (.int o.1)) (97, o.2, J, R) → az_E az_F ex d 183 0 [.ref 73, .retAddr 0, .retAddr 0, .retAddr 0] [] (97, I, J, R) Q) (hg_185 : ∀ (b1 b2 b3 b4 : Int32) (I : Nat → Nat → Int32) (o : Int32 × (Nat → Nat → Int32)), rec 185 b1 b2 b3 b4 I = some o → ∀ {J : Nat → Nat → Int64} {R : Nat → Nat → Option Nat} {Q : Option Value → az_S → Prop}, Q (some (.int o.1)) (97, o.2, J, R) → az_E az_F ex d 185 0 [.ref 73, .retAddr 0, .retAddr 0, .retAddr 0, .retAddr 0] [] (97, I, J, R) Q) {x : ((Int32 × (Nat → Nat → Int32)) ⊕ (Int32 × (Nat → Nat → Int32)))} (h : rs_M_sums_30 rec I v1 = some x) {Q : Option Value → az_S → Prop} (hQ : Sum.elim (fun s => az_E az_F ex (d + 2) 182 5 [.ref 73, .int s.1, .retAddr 0, .retAddr 0] [] (97, s.2, J, R) Q) (fun x => Q (some (.int x.1)) (97, x.2, J, R)) x) : az_E az_F ex (d + 2) 182 30 [.ref 73, .int v1, .retAddr 0, .retAddr 0] [] (97, I, J, R) Q := by
  unfold rs_M_sums_30 at h
  refine az_E.sn 1 (pc' := 31) (L' := [.ref 73, .int v1, .retAddr 0, .retAddr 0]) (S' := [.ref 73]) (σ' := (97, I, J, R)) rfl ?_
  refine az_E.call (d := (d + 1)) (k' := 176) (vs := [.ref 73]) (pc' := 34) (S' := []) rfl ?_ (fun _ _ hq => hq)
  show az_E az_F ex (d + 1) 176 0 [.ref 73] [] (97, I, J, R) _
  refine az_E.sn 4 (pc' := 8) (L' := [.ref 73]) (S' := [.int (I 73 16), .int (I 73 15)]) (σ' := (97, I, J, R)) rfl ?_
  refine az_E.br (c := (I 73 16) ≤ (I 73 15)) (tt := 47) (ff := 11) (L' := [.ref 73]) (S' := []) (σ' := (97, I, J, R)) rfl (fun hc_10 => ?_) (fun hc_10 => ?_)
  · rw [if_pos hc_10] at h
    refine az_E.sn 1 (pc' := 48) (L' := [.ref 73]) (S' := [.int (0 : Int32)]) (σ' := (97, I, J, R)) rfl ?_
    refine az_E.ret (v := some (.int (0 : Int32))) (σ' := (97, I, J, R)) rfl ?_
    show az_E az_F ex (d + 2) 182 34 [.ref 73, .int v1, .retAddr 0, .retAddr 0] [.int (0 : Int32)] (97, I, J, R) _
    refine az_E.sn 1 (pc' := 36) (L' := [.ref 73, .int v1, .retAddr 0, .retAddr 0]) (S' := [.int (43 : Int32), .int (0 : Int32)]) (σ' := (97, I, J, R)) rfl ?_
    refine az_E.br (c := (0 : Int32) = (43 : Int32)) (tt := 39) (ff := 43) (L' := [.ref 73, .int v1, .retAddr 0, .retAddr 0]) (S' := []) (σ' := (97, I, J, R)) rfl (fun hn => absurd hn (by decide)) (fun _ => ?_)
    refine az_E.sn 1 (pc' := 44) (L' := [.ref 73, .int v1, .retAddr 0, .retAddr 0]) (S' := [.int (0 : Int32)]) (σ' := (97, I, J, R)) rfl ?_
    exact az_E.forget (L := [.ref 73, .int v1, .retAddr 0, .retAddr 0]) ⟨rfl, rfl, trivial, trivial, trivial⟩ (re_M_sums_44 (I := I) (J := J) (R := R) hg_179 hg_180 hg_181 hg_182 hg_183 hg_185 h hQ)
  · rw [if_neg hc_10] at h
    refine az_E.sn 2 (pc' := 15) (L' := [.ref 73]) (S' := [.int (I 73 14)]) (σ' := (97, I, J, R)) rfl ?_
    refine az_E.br (c := 0 ≤ (I 73 14)) (tt := 30) (ff := 18) (L' := [.ref 73]) (S' := []) (σ' := (97, I, J, R)) rfl (fun hc_15 => ?_) (fun hc_15 => ?_)
    · rw [if_pos hc_15] at h
      refine az_E.sn 7 (pc' := 43) (L' := [.ref 73]) (S' := [.int ((I 73 14) + (I 73 15)), .ref 81]) (σ' := (97, I, J, R)) rfl ?_
      by_cases hc_16 : ((I 73 14) + (I 73 15)) < 0 ∨ 120 ≤ ((I 73 14) + (I 73 15)).toNatClampNeg
      · rw [if_pos hc_16] at h; cases h
      · rw [if_neg hc_16] at h
        refine az_E.oi (o := az_ai az_F ex (97, I, J, R) 81 ((I 73 14) + (I 73 15))) (pc' := 44) (L' := [.ref 73]) (S' := []) (σ' := (97, I, J, R)) (x := (I 81 ((I 73 14) + (I 73 15)).toNatClampNeg)) rfl (if_neg hc_16) ?_
        refine az_E.sn 1 (pc' := 48) (L' := [.ref 73]) (S' := [.int (I 81 ((I 73 14) + (I 73 15)).toNatClampNeg)]) (σ' := (97, I, J, R)) rfl ?_
        refine az_E.ret (v := some (.int (I 81 ((I 73 14) + (I 73 15)).toNatClampNeg))) (σ' := (97, I, J, R)) rfl ?_
        show az_E az_F ex (d + 2) 182 34 [.ref 73, .int v1, .retAddr 0, .retAddr 0] [.int (I 81 ((I 73 14) + (I 73 15)).toNatClampNeg)] (97, I, J, R) _
        refine az_E.sn 1 (pc' := 36) (L' := [.ref 73, .int v1, .retAddr 0, .retAddr 0]) (S' := [.int (43 : Int32), .int (I 81 ((I 73 14) + (I 73 15)).toNatClampNeg)]) (σ' := (97, I, J, R)) rfl ?_
        refine az_E.br (c := (I 81 ((I 73 14) + (I 73 15)).toNatClampNeg) = (43 : Int32)) (tt := 39) (ff := 43) (L' := [.ref 73, .int v1, .retAddr 0, .retAddr 0]) (S' := []) (σ' := (97, I, J, R)) rfl (fun hc_17 => ?_) (fun hc_17 => ?_)
        · rw [if_pos hc_17] at h
          refine az_E.sn 2 (pc' := 44) (L' := [.ref 73, .int v1, .retAddr 0, .retAddr 0]) (S' := [.int (1 : Int32)]) (σ' := (97, I, J, R)) rfl ?_
          exact az_E.forget (L := [.ref 73, .int v1, .retAddr 0, .retAddr 0]) ⟨rfl, rfl, trivial, trivial, trivial⟩ (re_M_sums_44 (I := I) (J := J) (R := R) hg_179 hg_180 hg_181 hg_182 hg_183 hg_185 h hQ)
        · rw [if_neg hc_17] at h
          refine az_E.sn 1 (pc' := 44) (L' := [.ref 73, .int v1, .retAddr 0, .retAddr 0]) (S' := [.int (0 : Int32)]) (σ' := (97, I, J, R)) rfl ?_
          exact az_E.forget (L := [.ref 73, .int v1, .retAddr 0, .retAddr 0]) ⟨rfl, rfl, trivial, trivial, trivial⟩ (re_M_sums_44 (I := I) (J := J) (R := R) hg_179 hg_180 hg_181 hg_182 hg_183 hg_185 h hQ)
    · rw [if_neg hc_15] at h
      refine az_E.sn 4 (pc' := 26) (L' := [.ref 73]) (S' := [.int (I 73 15), .ref 80]) (σ' := (97, I, J, R)) rfl ?_
      by_cases hc_18 : (I 73 15) < 0 ∨ 120 ≤ (I 73 15).toNatClampNeg
      · rw [if_pos hc_18] at h; cases h
      · rw [if_neg hc_18] at h
        refine az_E.oi (o := az_ai az_F ex (97, I, J, R) 80 (I 73 15)) (pc' := 27) (L' := [.ref 73]) (S' := []) (σ' := (97, I, J, R)) (x := (I 80 (I 73 15).toNatClampNeg)) rfl (if_neg hc_18) ?_
        refine az_E.sn 1 (pc' := 48) (L' := [.ref 73]) (S' := [.int (I 80 (I 73 15).toNatClampNeg)]) (σ' := (97, I, J, R)) rfl ?_
        refine az_E.ret (v := some (.int (I 80 (I 73 15).toNatClampNeg))) (σ' := (97, I, J, R)) rfl ?_
        show az_E az_F ex (d + 2) 182 34 [.ref 73, .int v1, .retAddr 0, .retAddr 0] [.int (I 80 (I 73 15).toNatClampNeg)] (97, I, J, R) _
        refine az_E.sn 1 (pc' := 36) (L' := [.ref 73, .int v1, .retAddr 0, .retAddr 0]) (S' := [.int (43 : Int32), .int (I 80 (I 73 15).toNatClampNeg)]) (σ' := (97, I, J, R)) rfl ?_
        refine az_E.br (c := (I 80 (I 73 15).toNatClampNeg) = (43 : Int32)) (tt := 39) (ff := 43) (L' := [.ref 73, .int v1, .retAddr 0, .retAddr 0]) (S' := []) (σ' := (97, I, J, R)) rfl (fun hc_19 => ?_) (fun hc_19 => ?_)
        · rw [if_pos hc_19] at h
          refine az_E.sn 2 (pc' := 44) (L' := [.ref 73, .int v1, .retAddr 0, .retAddr 0]) (S' := [.int (1 : Int32)]) (σ' := (97, I, J, R)) rfl ?_
          exact az_E.forget (L := [.ref 73, .int v1, .retAddr 0, .retAddr 0]) ⟨rfl, rfl, trivial, trivial, trivial⟩ (re_M_sums_44 (I := I) (J := J) (R := R) hg_179 hg_180 hg_181 hg_182 hg_183 hg_185 h hQ)
        · rw [if_neg hc_19] at h
          refine az_E.sn 1 (pc' := 44) (L' := [.ref 73, .int v1, .retAddr 0, .retAddr 0]) (S' := [.int (0 : Int32)]) (σ' := (97, I, J, R)) rfl ?_
          exact az_E.forget (L := [.ref 73, .int v1, .retAddr 0, .retAddr 0]) ⟨rfl, rfl, trivial, trivial, trivial⟩ (re_M_sums_44 (I := I) (J := J) (R := R) hg_179 hg_180 hg_181 hg_182 hg_183 hg_185 h hQ)
set_option maxRecDepth 100000 in
set_option maxHeartbeats 4000000 in
theorem re_M_sums_5_b {rec : az_GT} {d : Nat} {ex : az_X} {I : Nat → Nat → Int32} {J : Nat → Nat → Int64} {R : Nat → Nat → Option Nat} {v1 : Int32} (hg_179 : ∀ (b1 b2 b3 b4 : Int32) (I : Nat → Nat → Int32) (o : Int32 × (Nat → Nat → Int32)), rec 179 b1 b2 b3 b4 I = some o → ∀ {J : Nat → Nat → Int64} {R : Nat → Nat → Option Nat} {Q : Option Value → az_S → Prop}, Q (some (.int o.1)) (97, o.2, J, R) → az_E az_F ex d 179 0 [.ref 73, .retAddr 0, .retAddr 0] [] (97, I, J, R) Q) (hg_180 : ∀ (b1 b2 b3 b4 : Int32) (I : Nat → Nat → Int32) (o : Int32 × (Nat → Nat → Int32)), rec 180 b1 b2 b3 b4 I = some o → ∀ {J : Nat → Nat → Int64} {R : Nat → Nat → Option Nat} {Q : Option Value → az_S → Prop}, Q (some (.int o.1)) (97, o.2, J, R) → az_E az_F ex d 180 0 [.ref 73, .retAddr 0, .retAddr 0] [] (97, I, J, R) Q) (hg_181 : ∀ (b1 b2 b3 b4 : Int32) (I : Nat → Nat → Int32) (o : Int32 × (Nat → Nat → Int32)), rec 181 b1 b2 b3 b4 I = some o → ∀ {J : Nat → Nat → Int64} {R : Nat → Nat → Option Nat} {Q : Option Value → az_S → Prop}, Q (some (.int o.1)) (97, o.2, J, R) → az_E az_F ex d 181 0 [.ref 73, .retAddr 0, .retAddr 0, .retAddr 0] [] (97, I, J, R) Q) (hg_182 : ∀ (b1 b2 b3 b4 : Int32) (I : Nat → Nat → Int32) (o : Int32 × (Nat → Nat → Int32)), rec 182 b1 b2 b3 b4 I = some o → ∀ {J : Nat → Nat → Int64} {R : Nat → Nat → Option Nat} {Q : Option Value → az_S → Prop}, Q (some (.int o.1)) (97, o.2, J, R) → az_E az_F ex d 182 0 [.ref 73, .retAddr 0, .retAddr 0, .retAddr 0] [] (97, I, J, R) Q) (hg_183 : ∀ (b1 b2 b3 b4 : Int32) (I : Nat → Nat → Int32) (o : Int32 × (Nat → Nat → Int32)), rec 183 b1 b2 b3 b4 I = some o → ∀ {J : Nat → Nat → Int64} {R : Nat → Nat → Option Nat} {Q : Option Value → az_S → Prop}, Q (some (.int o.1)) (97, o.2, J, R) → az_E az_F ex d 183 0 [.ref 73, .retAddr 0, .retAddr 0, .retAddr 0] [] (97, I, J, R) Q) (hg_185 : ∀ (b1 b2 b3 b4 : Int32) (I : Nat → Nat → Int32) (o : Int32 × (Nat → Nat → Int32)), rec 185 b1 b2 b3 b4 I = some o → ∀ {J : Nat → Nat → Int64} {R : Nat → Nat → Option Nat} {Q : Option Value → az_S → Prop}, Q (some (.int o.1)) (97, o.2, J, R) → az_E az_F ex d 185 0 [.ref 73, .retAddr 0, .retAddr 0, .retAddr 0, .retAddr 0] [] (97, I, J, R) Q) {x : ((Int32 × (Nat → Nat → Int32)) ⊕ (Int32 × (Nat → Nat → Int32)))} (h : rs_M_sums_5_b rec v1 I = some x) {Q : Option Value → az_S → Prop} (hQ : Sum.elim (fun s => az_E az_F ex (d + 2) 182 5 [.ref 73, .int s.1, .retAddr 0, .retAddr 0] [] (97, s.2, J, R) Q) (fun x => Q (some (.int x.1)) (97, x.2, J, R)) x) : az_E az_F ex (d + 2) 182 5 [.ref 73, .int v1, .retAddr 0, .retAddr 0] [] (97, I, J, R) Q := by
  unfold rs_M_sums_5_b at h
  refine az_E.sn 2 (pc' := 9) (L' := [.ref 73, .int v1, .retAddr 0, .retAddr 0]) (S' := [.int (I 73 17)]) (σ' := (97, I, J, R)) rfl ?_
  refine az_E.br (c := 0 ≤ (I 73 17)) (tt := 77) (ff := 12) (L' := [.ref 73, .int v1, .retAddr 0, .retAddr 0]) (S' := []) (σ' := (97, I, J, R)) rfl (fun hc_4 => ?_) (fun hc_4 => ?_)
  · rw [if_pos hc_4] at h
    refine az_E.sn 1 (pc' := 78) (L' := [.ref 73, .int v1, .retAddr 0, .retAddr 0]) (S' := [.int v1]) (σ' := (97, I, J, R)) rfl ?_
    have h := Option.some.inj h
    subst h
    exact az_E.ret (v := some (.int v1)) (σ' := (97, I, J, R)) rfl hQ
  · rw [if_neg hc_4] at h
    refine az_E.sn 1 (pc' := 13) (L' := [.ref 73, .int v1, .retAddr 0, .retAddr 0]) (S' := [.ref 73]) (σ' := (97, I, J, R)) rfl ?_
    refine az_E.call (d := (d + 1)) (k' := 176) (vs := [.ref 73]) (pc' := 16) (S' := []) rfl ?_ (fun _ _ hq => hq)
    show az_E az_F ex (d + 1) 176 0 [.ref 73] [] (97, I, J, R) _
    refine az_E.sn 4 (pc' := 8) (L' := [.ref 73]) (S' := [.int (I 73 16), .int (I 73 15)]) (σ' := (97, I, J, R)) rfl ?_
    refine az_E.br (c := (I 73 16) ≤ (I 73 15)) (tt := 47) (ff := 11) (L' := [.ref 73]) (S' := []) (σ' := (97, I, J, R)) rfl (fun hc_5 => ?_) (fun hc_5 => ?_)
    · rw [if_pos hc_5] at h
      refine az_E.sn 1 (pc' := 48) (L' := [.ref 73]) (S' := [.int (0 : Int32)]) (σ' := (97, I, J, R)) rfl ?_
      refine az_E.ret (v := some (.int (0 : Int32))) (σ' := (97, I, J, R)) rfl ?_
      show az_E az_F ex (d + 2) 182 16 [.ref 73, .int v1, .retAddr 0, .retAddr 0] [.int (0 : Int32)] (97, I, J, R) _
      refine az_E.sn 1 (pc' := 18) (L' := [.ref 73, .int v1, .retAddr 0, .retAddr 0]) (S' := [.int (43 : Int32), .int (0 : Int32)]) (σ' := (97, I, J, R)) rfl ?_
      refine az_E.br (c := (0 : Int32) = (43 : Int32)) (tt := 30) (ff := 21) (L' := [.ref 73, .int v1, .retAddr 0, .retAddr 0]) (S' := []) (σ' := (97, I, J, R)) rfl (fun hn => absurd hn (by decide)) (fun _ => ?_)
      refine az_E.sn 1 (pc' := 22) (L' := [.ref 73, .int v1, .retAddr 0, .retAddr 0]) (S' := [.ref 73]) (σ' := (97, I, J, R)) rfl ?_
      refine az_E.call (d := (d + 1)) (k' := 176) (vs := [.ref 73]) (pc' := 25) (S' := []) rfl ?_ (fun _ _ hq => hq)
      show az_E az_F ex (d + 1) 176 0 [.ref 73] [] (97, I, J, R) _
      refine az_E.sn 4 (pc' := 8) (L' := [.ref 73]) (S' := [.int (I 73 16), .int (I 73 15)]) (σ' := (97, I, J, R)) rfl ?_
      refine az_E.br (c := (I 73 16) ≤ (I 73 15)) (tt := 47) (ff := 11) (L' := [.ref 73]) (S' := []) (σ' := (97, I, J, R)) rfl (fun hc_6 => ?_) (fun hc_6 => ?_)
      · rw [if_pos hc_6] at h
        refine az_E.sn 1 (pc' := 48) (L' := [.ref 73]) (S' := [.int (0 : Int32)]) (σ' := (97, I, J, R)) rfl ?_
        refine az_E.ret (v := some (.int (0 : Int32))) (σ' := (97, I, J, R)) rfl ?_
        show az_E az_F ex (d + 2) 182 25 [.ref 73, .int v1, .retAddr 0, .retAddr 0] [.int (0 : Int32)] (97, I, J, R) _
        refine az_E.sn 1 (pc' := 27) (L' := [.ref 73, .int v1, .retAddr 0, .retAddr 0]) (S' := [.int (45 : Int32), .int (0 : Int32)]) (σ' := (97, I, J, R)) rfl ?_
        refine az_E.br (c := (0 : Int32) = (45 : Int32)) (tt := 30) (ff := 77) (L' := [.ref 73, .int v1, .retAddr 0, .retAddr 0]) (S' := []) (σ' := (97, I, J, R)) rfl (fun hn => absurd hn (by decide)) (fun _ => ?_)
        refine az_E.sn 1 (pc' := 78) (L' := [.ref 73, .int v1, .retAddr 0, .retAddr 0]) (S' := [.int v1]) (σ' := (97, I, J, R)) rfl ?_
        have h := Option.some.inj h
        subst h
        exact az_E.ret (v := some (.int v1)) (σ' := (97, I, J, R)) rfl hQ
      · rw [if_neg hc_6] at h
        refine az_E.sn 2 (pc' := 15) (L' := [.ref 73]) (S' := [.int (I 73 14)]) (σ' := (97, I, J, R)) rfl ?_
        refine az_E.br (c := 0 ≤ (I 73 14)) (tt := 30) (ff := 18) (L' := [.ref 73]) (S' := []) (σ' := (97, I, J, R)) rfl (fun hc_7 => ?_) (fun hc_7 => ?_)
        · rw [if_pos hc_7] at h
          refine az_E.sn 7 (pc' := 43) (L' := [.ref 73]) (S' := [.int ((I 73 14) + (I 73 15)), .ref 81]) (σ' := (97, I, J, R)) rfl ?_
          by_cases hc_8 : ((I 73 14) + (I 73 15)) < 0 ∨ 120 ≤ ((I 73 14) + (I 73 15)).toNatClampNeg
          · rw [if_pos hc_8] at h; cases h
          · rw [if_neg hc_8] at h
            refine az_E.oi (o := az_ai az_F ex (97, I, J, R) 81 ((I 73 14) + (I 73 15))) (pc' := 44) (L' := [.ref 73]) (S' := []) (σ' := (97, I, J, R)) (x := (I 81 ((I 73 14) + (I 73 15)).toNatClampNeg)) rfl (if_neg hc_8) ?_
            refine az_E.sn 1 (pc' := 48) (L' := [.ref 73]) (S' := [.int (I 81 ((I 73 14) + (I 73 15)).toNatClampNeg)]) (σ' := (97, I, J, R)) rfl ?_
            refine az_E.ret (v := some (.int (I 81 ((I 73 14) + (I 73 15)).toNatClampNeg))) (σ' := (97, I, J, R)) rfl ?_
            show az_E az_F ex (d + 2) 182 25 [.ref 73, .int v1, .retAddr 0, .retAddr 0] [.int (I 81 ((I 73 14) + (I 73 15)).toNatClampNeg)] (97, I, J, R) _
            refine az_E.sn 1 (pc' := 27) (L' := [.ref 73, .int v1, .retAddr 0, .retAddr 0]) (S' := [.int (45 : Int32), .int (I 81 ((I 73 14) + (I 73 15)).toNatClampNeg)]) (σ' := (97, I, J, R)) rfl ?_
            refine az_E.br (c := (I 81 ((I 73 14) + (I 73 15)).toNatClampNeg) = (45 : Int32)) (tt := 30) (ff := 77) (L' := [.ref 73, .int v1, .retAddr 0, .retAddr 0]) (S' := []) (σ' := (97, I, J, R)) rfl (fun hc_9 => ?_) (fun hc_9 => ?_)
            · rw [if_pos hc_9] at h
              exact az_E.forget (L := [.ref 73, .int v1, .retAddr 0, .retAddr 0]) ⟨rfl, rfl, trivial, trivial, trivial⟩ (re_M_sums_30 (I := I) (J := J) (R := R) hg_179 hg_180 hg_181 hg_182 hg_183 hg_185 h hQ)
            · rw [if_neg hc_9] at h
              refine az_E.sn 1 (pc' := 78) (L' := [.ref 73, .int v1, .retAddr 0, .retAddr 0]) (S' := [.int v1]) (σ' := (97, I, J, R)) rfl ?_
              have h := Option.some.inj h
              subst h
              exact az_E.ret (v := some (.int v1)) (σ' := (97, I, J, R)) rfl hQ
        · rw [if_neg hc_7] at h
          refine az_E.sn 4 (pc' := 26) (L' := [.ref 73]) (S' := [.int (I 73 15), .ref 80]) (σ' := (97, I, J, R)) rfl ?_
          by_cases hc_20 : (I 73 15) < 0 ∨ 120 ≤ (I 73 15).toNatClampNeg
          · rw [if_pos hc_20] at h; cases h
          · rw [if_neg hc_20] at h
            refine az_E.oi (o := az_ai az_F ex (97, I, J, R) 80 (I 73 15)) (pc' := 27) (L' := [.ref 73]) (S' := []) (σ' := (97, I, J, R)) (x := (I 80 (I 73 15).toNatClampNeg)) rfl (if_neg hc_20) ?_
            refine az_E.sn 1 (pc' := 48) (L' := [.ref 73]) (S' := [.int (I 80 (I 73 15).toNatClampNeg)]) (σ' := (97, I, J, R)) rfl ?_
            refine az_E.ret (v := some (.int (I 80 (I 73 15).toNatClampNeg))) (σ' := (97, I, J, R)) rfl ?_
            show az_E az_F ex (d + 2) 182 25 [.ref 73, .int v1, .retAddr 0, .retAddr 0] [.int (I 80 (I 73 15).toNatClampNeg)] (97, I, J, R) _
            refine az_E.sn 1 (pc' := 27) (L' := [.ref 73, .int v1, .retAddr 0, .retAddr 0]) (S' := [.int (45 : Int32), .int (I 80 (I 73 15).toNatClampNeg)]) (σ' := (97, I, J, R)) rfl ?_
            refine az_E.br (c := (I 80 (I 73 15).toNatClampNeg) = (45 : Int32)) (tt := 30) (ff := 77) (L' := [.ref 73, .int v1, .retAddr 0, .retAddr 0]) (S' := []) (σ' := (97, I, J, R)) rfl (fun hc_21 => ?_) (fun hc_21 => ?_)
            · rw [if_pos hc_21] at h
              exact az_E.forget (L := [.ref 73, .int v1, .retAddr 0, .retAddr 0]) ⟨rfl, rfl, trivial, trivial, trivial⟩ (re_M_sums_30 (I := I) (J := J) (R := R) hg_179 hg_180 hg_181 hg_182 hg_183 hg_185 h hQ)
            · rw [if_neg hc_21] at h
              refine az_E.sn 1 (pc' := 78) (L' := [.ref 73, .int v1, .retAddr 0, .retAddr 0]) (S' := [.int v1]) (σ' := (97, I, J, R)) rfl ?_
              have h := Option.some.inj h
              subst h
              exact az_E.ret (v := some (.int v1)) (σ' := (97, I, J, R)) rfl hQ
    · rw [if_neg hc_5] at h
      refine az_E.sn 2 (pc' := 15) (L' := [.ref 73]) (S' := [.int (I 73 14)]) (σ' := (97, I, J, R)) rfl ?_
      refine az_E.br (c := 0 ≤ (I 73 14)) (tt := 30) (ff := 18) (L' := [.ref 73]) (S' := []) (σ' := (97, I, J, R)) rfl (fun hc_22 => ?_) (fun hc_22 => ?_)
      · rw [if_pos hc_22] at h
        refine az_E.sn 7 (pc' := 43) (L' := [.ref 73]) (S' := [.int ((I 73 14) + (I 73 15)), .ref 81]) (σ' := (97, I, J, R)) rfl ?_
        by_cases hc_23 : ((I 73 14) + (I 73 15)) < 0 ∨ 120 ≤ ((I 73 14) + (I 73 15)).toNatClampNeg
        · rw [if_pos hc_23] at h; cases h
        · rw [if_neg hc_23] at h
          refine az_E.oi (o := az_ai az_F ex (97, I, J, R) 81 ((I 73 14) + (I 73 15))) (pc' := 44) (L' := [.ref 73]) (S' := []) (σ' := (97, I, J, R)) (x := (I 81 ((I 73 14) + (I 73 15)).toNatClampNeg)) rfl (if_neg hc_23) ?_
          refine az_E.sn 1 (pc' := 48) (L' := [.ref 73]) (S' := [.int (I 81 ((I 73 14) + (I 73 15)).toNatClampNeg)]) (σ' := (97, I, J, R)) rfl ?_
          refine az_E.ret (v := some (.int (I 81 ((I 73 14) + (I 73 15)).toNatClampNeg))) (σ' := (97, I, J, R)) rfl ?_
          show az_E az_F ex (d + 2) 182 16 [.ref 73, .int v1, .retAddr 0, .retAddr 0] [.int (I 81 ((I 73 14) + (I 73 15)).toNatClampNeg)] (97, I, J, R) _
          refine az_E.sn 1 (pc' := 18) (L' := [.ref 73, .int v1, .retAddr 0, .retAddr 0]) (S' := [.int (43 : Int32), .int (I 81 ((I 73 14) + (I 73 15)).toNatClampNeg)]) (σ' := (97, I, J, R)) rfl ?_
          refine az_E.br (c := (I 81 ((I 73 14) + (I 73 15)).toNatClampNeg) = (43 : Int32)) (tt := 30) (ff := 21) (L' := [.ref 73, .int v1, .retAddr 0, .retAddr 0]) (S' := []) (σ' := (97, I, J, R)) rfl (fun hc_24 => ?_) (fun hc_24 => ?_)
          · rw [if_pos hc_24] at h
            exact az_E.forget (L := [.ref 73, .int v1, .retAddr 0, .retAddr 0]) ⟨rfl, rfl, trivial, trivial, trivial⟩ (re_M_sums_30 (I := I) (J := J) (R := R) hg_179 hg_180 hg_181 hg_182 hg_183 hg_185 h hQ)
          · rw [if_neg hc_24] at h
            refine az_E.sn 1 (pc' := 22) (L' := [.ref 73, .int v1, .retAddr 0, .retAddr 0]) (S' := [.ref 73]) (σ' := (97, I, J, R)) rfl ?_
            refine az_E.call (d := (d + 1)) (k' := 176) (vs := [.ref 73]) (pc' := 25) (S' := []) rfl ?_ (fun _ _ hq => hq)
            show az_E az_F ex (d + 1) 176 0 [.ref 73] [] (97, I, J, R) _
            refine az_E.sn 4 (pc' := 8) (L' := [.ref 73]) (S' := [.int (I 73 16), .int (I 73 15)]) (σ' := (97, I, J, R)) rfl ?_
            refine az_E.br (c := (I 73 16) ≤ (I 73 15)) (tt := 47) (ff := 11) (L' := [.ref 73]) (S' := []) (σ' := (97, I, J, R)) rfl (fun hc_25 => ?_) (fun hc_25 => ?_)
            · rw [if_pos hc_25] at h
              refine az_E.sn 1 (pc' := 48) (L' := [.ref 73]) (S' := [.int (0 : Int32)]) (σ' := (97, I, J, R)) rfl ?_
              refine az_E.ret (v := some (.int (0 : Int32))) (σ' := (97, I, J, R)) rfl ?_
              show az_E az_F ex (d + 2) 182 25 [.ref 73, .int v1, .retAddr 0, .retAddr 0] [.int (0 : Int32)] (97, I, J, R) _
              refine az_E.sn 1 (pc' := 27) (L' := [.ref 73, .int v1, .retAddr 0, .retAddr 0]) (S' := [.int (45 : Int32), .int (0 : Int32)]) (σ' := (97, I, J, R)) rfl ?_
              refine az_E.br (c := (0 : Int32) = (45 : Int32)) (tt := 30) (ff := 77) (L' := [.ref 73, .int v1, .retAddr 0, .retAddr 0]) (S' := []) (σ' := (97, I, J, R)) rfl (fun hn => absurd hn (by decide)) (fun _ => ?_)
              refine az_E.sn 1 (pc' := 78) (L' := [.ref 73, .int v1, .retAddr 0, .retAddr 0]) (S' := [.int v1]) (σ' := (97, I, J, R)) rfl ?_
              have h := Option.some.inj h
              subst h
              exact az_E.ret (v := some (.int v1)) (σ' := (97, I, J, R)) rfl hQ
            · rw [if_neg hc_25] at h
              refine az_E.sn 2 (pc' := 15) (L' := [.ref 73]) (S' := [.int (I 73 14)]) (σ' := (97, I, J, R)) rfl ?_
              refine az_E.br (c := 0 ≤ (I 73 14)) (tt := 30) (ff := 18) (L' := [.ref 73]) (S' := []) (σ' := (97, I, J, R)) rfl (fun hc_26 => ?_) (fun hc_26 => ?_)
              · rw [if_pos hc_26] at h
                refine az_E.sn 7 (pc' := 43) (L' := [.ref 73]) (S' := [.int ((I 73 14) + (I 73 15)), .ref 81]) (σ' := (97, I, J, R)) rfl ?_
                by_cases hc_27 : ((I 73 14) + (I 73 15)) < 0 ∨ 120 ≤ ((I 73 14) + (I 73 15)).toNatClampNeg
                · rw [if_pos hc_27] at h; cases h
                · rw [if_neg hc_27] at h
                  refine az_E.oi (o := az_ai az_F ex (97, I, J, R) 81 ((I 73 14) + (I 73 15))) (pc' := 44) (L' := [.ref 73]) (S' := []) (σ' := (97, I, J, R)) (x := (I 81 ((I 73 14) + (I 73 15)).toNatClampNeg)) rfl (if_neg hc_27) ?_
                  refine az_E.sn 1 (pc' := 48) (L' := [.ref 73]) (S' := [.int (I 81 ((I 73 14) + (I 73 15)).toNatClampNeg)]) (σ' := (97, I, J, R)) rfl ?_
                  refine az_E.ret (v := some (.int (I 81 ((I 73 14) + (I 73 15)).toNatClampNeg))) (σ' := (97, I, J, R)) rfl ?_
                  show az_E az_F ex (d + 2) 182 25 [.ref 73, .int v1, .retAddr 0, .retAddr 0] [.int (I 81 ((I 73 14) + (I 73 15)).toNatClampNeg)] (97, I, J, R) _
                  refine az_E.sn 1 (pc' := 27) (L' := [.ref 73, .int v1, .retAddr 0, .retAddr 0]) (S' := [.int (45 : Int32), .int (I 81 ((I 73 14) + (I 73 15)).toNatClampNeg)]) (σ' := (97, I, J, R)) rfl ?_
                  refine az_E.br (c := (I 81 ((I 73 14) + (I 73 15)).toNatClampNeg) = (45 : Int32)) (tt := 30) (ff := 77) (L' := [.ref 73, .int v1, .retAddr 0, .retAddr 0]) (S' := []) (σ' := (97, I, J, R)) rfl (fun hc_28 => ?_) (fun hc_28 => ?_)
                  · rw [if_pos hc_28] at h
                    exact az_E.forget (L := [.ref 73, .int v1, .retAddr 0, .retAddr 0]) ⟨rfl, rfl, trivial, trivial, trivial⟩ (re_M_sums_30 (I := I) (J := J) (R := R) hg_179 hg_180 hg_181 hg_182 hg_183 hg_185 h hQ)
                  · rw [if_neg hc_28] at h
                    refine az_E.sn 1 (pc' := 78) (L' := [.ref 73, .int v1, .retAddr 0, .retAddr 0]) (S' := [.int v1]) (σ' := (97, I, J, R)) rfl ?_
                    have h := Option.some.inj h
                    subst h
                    exact az_E.ret (v := some (.int v1)) (σ' := (97, I, J, R)) rfl hQ
              · rw [if_neg hc_26] at h
                refine az_E.sn 4 (pc' := 26) (L' := [.ref 73]) (S' := [.int (I 73 15), .ref 80]) (σ' := (97, I, J, R)) rfl ?_
                by_cases hc_29 : (I 73 15) < 0 ∨ 120 ≤ (I 73 15).toNatClampNeg
                · rw [if_pos hc_29] at h; cases h
                · rw [if_neg hc_29] at h
                  refine az_E.oi (o := az_ai az_F ex (97, I, J, R) 80 (I 73 15)) (pc' := 27) (L' := [.ref 73]) (S' := []) (σ' := (97, I, J, R)) (x := (I 80 (I 73 15).toNatClampNeg)) rfl (if_neg hc_29) ?_
                  refine az_E.sn 1 (pc' := 48) (L' := [.ref 73]) (S' := [.int (I 80 (I 73 15).toNatClampNeg)]) (σ' := (97, I, J, R)) rfl ?_
                  refine az_E.ret (v := some (.int (I 80 (I 73 15).toNatClampNeg))) (σ' := (97, I, J, R)) rfl ?_
                  show az_E az_F ex (d + 2) 182 25 [.ref 73, .int v1, .retAddr 0, .retAddr 0] [.int (I 80 (I 73 15).toNatClampNeg)] (97, I, J, R) _
                  refine az_E.sn 1 (pc' := 27) (L' := [.ref 73, .int v1, .retAddr 0, .retAddr 0]) (S' := [.int (45 : Int32), .int (I 80 (I 73 15).toNatClampNeg)]) (σ' := (97, I, J, R)) rfl ?_
                  refine az_E.br (c := (I 80 (I 73 15).toNatClampNeg) = (45 : Int32)) (tt := 30) (ff := 77) (L' := [.ref 73, .int v1, .retAddr 0, .retAddr 0]) (S' := []) (σ' := (97, I, J, R)) rfl (fun hc_30 => ?_) (fun hc_30 => ?_)
                  · rw [if_pos hc_30] at h
                    exact az_E.forget (L := [.ref 73, .int v1, .retAddr 0, .retAddr 0]) ⟨rfl, rfl, trivial, trivial, trivial⟩ (re_M_sums_30 (I := I) (J := J) (R := R) hg_179 hg_180 hg_181 hg_182 hg_183 hg_185 h hQ)
                  · rw [if_neg hc_30] at h
                    refine az_E.sn 1 (pc' := 78) (L' := [.ref 73, .int v1, .retAddr 0, .retAddr 0]) (S' := [.int v1]) (σ' := (97, I, J, R)) rfl ?_
                    have h := Option.some.inj h
                    subst h
                    exact az_E.ret (v := some (.int v1)) (σ' := (97, I, J, R)) rfl hQ
      · rw [if_neg hc_22] at h
        refine az_E.sn 4 (pc' := 26) (L' := [.ref 73]) (S' := [.int (I 73 15), .ref 80]) (σ' := (97, I, J, R)) rfl ?_
        by_cases hc_31 : (I 73 15) < 0 ∨ 120 ≤ (I 73 15).toNatClampNeg
        · rw [if_pos hc_31] at h; cases h
        · rw [if_neg hc_31] at h
          refine az_E.oi (o := az_ai az_F ex (97, I, J, R) 80 (I 73 15)) (pc' := 27) (L' := [.ref 73]) (S' := []) (σ' := (97, I, J, R)) (x := (I 80 (I 73 15).toNatClampNeg)) rfl (if_neg hc_31) ?_
          refine az_E.sn 1 (pc' := 48) (L' := [.ref 73]) (S' := [.int (I 80 (I 73 15).toNatClampNeg)]) (σ' := (97, I, J, R)) rfl ?_
          refine az_E.ret (v := some (.int (I 80 (I 73 15).toNatClampNeg))) (σ' := (97, I, J, R)) rfl ?_
          show az_E az_F ex (d + 2) 182 16 [.ref 73, .int v1, .retAddr 0, .retAddr 0] [.int (I 80 (I 73 15).toNatClampNeg)] (97, I, J, R) _
          refine az_E.sn 1 (pc' := 18) (L' := [.ref 73, .int v1, .retAddr 0, .retAddr 0]) (S' := [.int (43 : Int32), .int (I 80 (I 73 15).toNatClampNeg)]) (σ' := (97, I, J, R)) rfl ?_
          refine az_E.br (c := (I 80 (I 73 15).toNatClampNeg) = (43 : Int32)) (tt := 30) (ff := 21) (L' := [.ref 73, .int v1, .retAddr 0, .retAddr 0]) (S' := []) (σ' := (97, I, J, R)) rfl (fun hc_32 => ?_) (fun hc_32 => ?_)
          · rw [if_pos hc_32] at h
            exact az_E.forget (L := [.ref 73, .int v1, .retAddr 0, .retAddr 0]) ⟨rfl, rfl, trivial, trivial, trivial⟩ (re_M_sums_30 (I := I) (J := J) (R := R) hg_179 hg_180 hg_181 hg_182 hg_183 hg_185 h hQ)
          · rw [if_neg hc_32] at h
            refine az_E.sn 1 (pc' := 22) (L' := [.ref 73, .int v1, .retAddr 0, .retAddr 0]) (S' := [.ref 73]) (σ' := (97, I, J, R)) rfl ?_
            refine az_E.call (d := (d + 1)) (k' := 176) (vs := [.ref 73]) (pc' := 25) (S' := []) rfl ?_ (fun _ _ hq => hq)
            show az_E az_F ex (d + 1) 176 0 [.ref 73] [] (97, I, J, R) _
            refine az_E.sn 4 (pc' := 8) (L' := [.ref 73]) (S' := [.int (I 73 16), .int (I 73 15)]) (σ' := (97, I, J, R)) rfl ?_
            refine az_E.br (c := (I 73 16) ≤ (I 73 15)) (tt := 47) (ff := 11) (L' := [.ref 73]) (S' := []) (σ' := (97, I, J, R)) rfl (fun hc_33 => ?_) (fun hc_33 => ?_)
            · rw [if_pos hc_33] at h
              refine az_E.sn 1 (pc' := 48) (L' := [.ref 73]) (S' := [.int (0 : Int32)]) (σ' := (97, I, J, R)) rfl ?_
              refine az_E.ret (v := some (.int (0 : Int32))) (σ' := (97, I, J, R)) rfl ?_
              show az_E az_F ex (d + 2) 182 25 [.ref 73, .int v1, .retAddr 0, .retAddr 0] [.int (0 : Int32)] (97, I, J, R) _
              refine az_E.sn 1 (pc' := 27) (L' := [.ref 73, .int v1, .retAddr 0, .retAddr 0]) (S' := [.int (45 : Int32), .int (0 : Int32)]) (σ' := (97, I, J, R)) rfl ?_
              refine az_E.br (c := (0 : Int32) = (45 : Int32)) (tt := 30) (ff := 77) (L' := [.ref 73, .int v1, .retAddr 0, .retAddr 0]) (S' := []) (σ' := (97, I, J, R)) rfl (fun hn => absurd hn (by decide)) (fun _ => ?_)
              refine az_E.sn 1 (pc' := 78) (L' := [.ref 73, .int v1, .retAddr 0, .retAddr 0]) (S' := [.int v1]) (σ' := (97, I, J, R)) rfl ?_
              have h := Option.some.inj h
              subst h
              exact az_E.ret (v := some (.int v1)) (σ' := (97, I, J, R)) rfl hQ
            · rw [if_neg hc_33] at h
              refine az_E.sn 2 (pc' := 15) (L' := [.ref 73]) (S' := [.int (I 73 14)]) (σ' := (97, I, J, R)) rfl ?_
              refine az_E.br (c := 0 ≤ (I 73 14)) (tt := 30) (ff := 18) (L' := [.ref 73]) (S' := []) (σ' := (97, I, J, R)) rfl (fun hc_34 => ?_) (fun hc_34 => ?_)
              · rw [if_pos hc_34] at h
                refine az_E.sn 7 (pc' := 43) (L' := [.ref 73]) (S' := [.int ((I 73 14) + (I 73 15)), .ref 81]) (σ' := (97, I, J, R)) rfl ?_
                by_cases hc_35 : ((I 73 14) + (I 73 15)) < 0 ∨ 120 ≤ ((I 73 14) + (I 73 15)).toNatClampNeg
                · rw [if_pos hc_35] at h; cases h
                · rw [if_neg hc_35] at h
                  refine az_E.oi (o := az_ai az_F ex (97, I, J, R) 81 ((I 73 14) + (I 73 15))) (pc' := 44) (L' := [.ref 73]) (S' := []) (σ' := (97, I, J, R)) (x := (I 81 ((I 73 14) + (I 73 15)).toNatClampNeg)) rfl (if_neg hc_35) ?_
                  refine az_E.sn 1 (pc' := 48) (L' := [.ref 73]) (S' := [.int (I 81 ((I 73 14) + (I 73 15)).toNatClampNeg)]) (σ' := (97, I, J, R)) rfl ?_
                  refine az_E.ret (v := some (.int (I 81 ((I 73 14) + (I 73 15)).toNatClampNeg))) (σ' := (97, I, J, R)) rfl ?_
                  show az_E az_F ex (d + 2) 182 25 [.ref 73, .int v1, .retAddr 0, .retAddr 0] [.int (I 81 ((I 73 14) + (I 73 15)).toNatClampNeg)] (97, I, J, R) _
                  refine az_E.sn 1 (pc' := 27) (L' := [.ref 73, .int v1, .retAddr 0, .retAddr 0]) (S' := [.int (45 : Int32), .int (I 81 ((I 73 14) + (I 73 15)).toNatClampNeg)]) (σ' := (97, I, J, R)) rfl ?_
                  refine az_E.br (c := (I 81 ((I 73 14) + (I 73 15)).toNatClampNeg) = (45 : Int32)) (tt := 30) (ff := 77) (L' := [.ref 73, .int v1, .retAddr 0, .retAddr 0]) (S' := []) (σ' := (97, I, J, R)) rfl (fun hc_36 => ?_) (fun hc_36 => ?_)
                  · rw [if_pos hc_36] at h
                    exact az_E.forget (L := [.ref 73, .int v1, .retAddr 0, .retAddr 0]) ⟨rfl, rfl, trivial, trivial, trivial⟩ (re_M_sums_30 (I := I) (J := J) (R := R) hg_179 hg_180 hg_181 hg_182 hg_183 hg_185 h hQ)
                  · rw [if_neg hc_36] at h
                    refine az_E.sn 1 (pc' := 78) (L' := [.ref 73, .int v1, .retAddr 0, .retAddr 0]) (S' := [.int v1]) (σ' := (97, I, J, R)) rfl ?_
                    have h := Option.some.inj h
                    subst h
                    exact az_E.ret (v := some (.int v1)) (σ' := (97, I, J, R)) rfl hQ
              · rw [if_neg hc_34] at h
                refine az_E.sn 4 (pc' := 26) (L' := [.ref 73]) (S' := [.int (I 73 15), .ref 80]) (σ' := (97, I, J, R)) rfl ?_
                by_cases hc_37 : (I 73 15) < 0 ∨ 120 ≤ (I 73 15).toNatClampNeg
                · rw [if_pos hc_37] at h; cases h
                · rw [if_neg hc_37] at h
                  refine az_E.oi (o := az_ai az_F ex (97, I, J, R) 80 (I 73 15)) (pc' := 27) (L' := [.ref 73]) (S' := []) (σ' := (97, I, J, R)) (x := (I 80 (I 73 15).toNatClampNeg)) rfl (if_neg hc_37) ?_
                  refine az_E.sn 1 (pc' := 48) (L' := [.ref 73]) (S' := [.int (I 80 (I 73 15).toNatClampNeg)]) (σ' := (97, I, J, R)) rfl ?_
                  refine az_E.ret (v := some (.int (I 80 (I 73 15).toNatClampNeg))) (σ' := (97, I, J, R)) rfl ?_
                  show az_E az_F ex (d + 2) 182 25 [.ref 73, .int v1, .retAddr 0, .retAddr 0] [.int (I 80 (I 73 15).toNatClampNeg)] (97, I, J, R) _
                  refine az_E.sn 1 (pc' := 27) (L' := [.ref 73, .int v1, .retAddr 0, .retAddr 0]) (S' := [.int (45 : Int32), .int (I 80 (I 73 15).toNatClampNeg)]) (σ' := (97, I, J, R)) rfl ?_
                  refine az_E.br (c := (I 80 (I 73 15).toNatClampNeg) = (45 : Int32)) (tt := 30) (ff := 77) (L' := [.ref 73, .int v1, .retAddr 0, .retAddr 0]) (S' := []) (σ' := (97, I, J, R)) rfl (fun hc_38 => ?_) (fun hc_38 => ?_)
                  · rw [if_pos hc_38] at h
                    exact az_E.forget (L := [.ref 73, .int v1, .retAddr 0, .retAddr 0]) ⟨rfl, rfl, trivial, trivial, trivial⟩ (re_M_sums_30 (I := I) (J := J) (R := R) hg_179 hg_180 hg_181 hg_182 hg_183 hg_185 h hQ)
                  · rw [if_neg hc_38] at h
                    refine az_E.sn 1 (pc' := 78) (L' := [.ref 73, .int v1, .retAddr 0, .retAddr 0]) (S' := [.int v1]) (σ' := (97, I, J, R)) rfl ?_
                    have h := Option.some.inj h
                    subst h
                    exact az_E.ret (v := some (.int v1)) (σ' := (97, I, J, R)) rfl hQ
set_option maxRecDepth 100000 in
set_option maxHeartbeats 4000000 in
theorem re_M_sums_5 {rec : az_GT} {d : Nat} {ex : az_X} {I : Nat → Nat → Int32} {J : Nat → Nat → Int64} {R : Nat → Nat → Option Nat} {v1 : Int32} (hg_179 : ∀ (b1 b2 b3 b4 : Int32) (I : Nat → Nat → Int32) (o : Int32 × (Nat → Nat → Int32)), rec 179 b1 b2 b3 b4 I = some o → ∀ {J : Nat → Nat → Int64} {R : Nat → Nat → Option Nat} {Q : Option Value → az_S → Prop}, Q (some (.int o.1)) (97, o.2, J, R) → az_E az_F ex d 179 0 [.ref 73, .retAddr 0, .retAddr 0] [] (97, I, J, R) Q) (hg_180 : ∀ (b1 b2 b3 b4 : Int32) (I : Nat → Nat → Int32) (o : Int32 × (Nat → Nat → Int32)), rec 180 b1 b2 b3 b4 I = some o → ∀ {J : Nat → Nat → Int64} {R : Nat → Nat → Option Nat} {Q : Option Value → az_S → Prop}, Q (some (.int o.1)) (97, o.2, J, R) → az_E az_F ex d 180 0 [.ref 73, .retAddr 0, .retAddr 0] [] (97, I, J, R) Q) (hg_181 : ∀ (b1 b2 b3 b4 : Int32) (I : Nat → Nat → Int32) (o : Int32 × (Nat → Nat → Int32)), rec 181 b1 b2 b3 b4 I = some o → ∀ {J : Nat → Nat → Int64} {R : Nat → Nat → Option Nat} {Q : Option Value → az_S → Prop}, Q (some (.int o.1)) (97, o.2, J, R) → az_E az_F ex d 181 0 [.ref 73, .retAddr 0, .retAddr 0, .retAddr 0] [] (97, I, J, R) Q) (hg_182 : ∀ (b1 b2 b3 b4 : Int32) (I : Nat → Nat → Int32) (o : Int32 × (Nat → Nat → Int32)), rec 182 b1 b2 b3 b4 I = some o → ∀ {J : Nat → Nat → Int64} {R : Nat → Nat → Option Nat} {Q : Option Value → az_S → Prop}, Q (some (.int o.1)) (97, o.2, J, R) → az_E az_F ex d 182 0 [.ref 73, .retAddr 0, .retAddr 0, .retAddr 0] [] (97, I, J, R) Q) (hg_183 : ∀ (b1 b2 b3 b4 : Int32) (I : Nat → Nat → Int32) (o : Int32 × (Nat → Nat → Int32)), rec 183 b1 b2 b3 b4 I = some o → ∀ {J : Nat → Nat → Int64} {R : Nat → Nat → Option Nat} {Q : Option Value → az_S → Prop}, Q (some (.int o.1)) (97, o.2, J, R) → az_E az_F ex d 183 0 [.ref 73, .retAddr 0, .retAddr 0, .retAddr 0] [] (97, I, J, R) Q) (hg_185 : ∀ (b1 b2 b3 b4 : Int32) (I : Nat → Nat → Int32) (o : Int32 × (Nat → Nat → Int32)), rec 185 b1 b2 b3 b4 I = some o → ∀ {J : Nat → Nat → Int64} {R : Nat → Nat → Option Nat} {Q : Option Value → az_S → Prop}, Q (some (.int o.1)) (97, o.2, J, R) → az_E az_F ex d 185 0 [.ref 73, .retAddr 0, .retAddr 0, .retAddr 0, .retAddr 0] [] (97, I, J, R) Q) {x : Int32 × (Nat → Nat → Int32)} (h : rs_M_sums_5 rec I v1 = some x) {Q : Option Value → az_S → Prop} (hQ : Q (some (.int x.1)) (97, x.2, J, R)) : az_E az_F ex (d + 2) 182 5 [.ref 73, .int v1, .retAddr 0, .retAddr 0] [] (97, I, J, R) Q := by
  unfold rs_M_sums_5 at h
  refine az_lp_E (G := fun s => az_E az_F ex (d + 2) 182 5 [.ref 73, .int s.1, .retAddr 0, .retAddr 0] [] (97, s.2, J, R) Q) (H := fun x => Q (some (.int x.1)) (97, x.2, J, R)) (fun s o hb ho => ?_) _ _ _ h hQ
  exact re_M_sums_5_b hg_179 hg_180 hg_181 hg_182 hg_183 hg_185 hb ho
set_option maxRecDepth 100000 in
set_option maxHeartbeats 4000000 in
theorem re_M_sums {rec : az_GT} {d : Nat} {ex : az_X} {I : Nat → Nat → Int32} {J : Nat → Nat → Int64} {R : Nat → Nat → Option Nat} (hg_179 : ∀ (b1 b2 b3 b4 : Int32) (I : Nat → Nat → Int32) (o : Int32 × (Nat → Nat → Int32)), rec 179 b1 b2 b3 b4 I = some o → ∀ {J : Nat → Nat → Int64} {R : Nat → Nat → Option Nat} {Q : Option Value → az_S → Prop}, Q (some (.int o.1)) (97, o.2, J, R) → az_E az_F ex d 179 0 [.ref 73, .retAddr 0, .retAddr 0] [] (97, I, J, R) Q) (hg_180 : ∀ (b1 b2 b3 b4 : Int32) (I : Nat → Nat → Int32) (o : Int32 × (Nat → Nat → Int32)), rec 180 b1 b2 b3 b4 I = some o → ∀ {J : Nat → Nat → Int64} {R : Nat → Nat → Option Nat} {Q : Option Value → az_S → Prop}, Q (some (.int o.1)) (97, o.2, J, R) → az_E az_F ex d 180 0 [.ref 73, .retAddr 0, .retAddr 0] [] (97, I, J, R) Q) (hg_181 : ∀ (b1 b2 b3 b4 : Int32) (I : Nat → Nat → Int32) (o : Int32 × (Nat → Nat → Int32)), rec 181 b1 b2 b3 b4 I = some o → ∀ {J : Nat → Nat → Int64} {R : Nat → Nat → Option Nat} {Q : Option Value → az_S → Prop}, Q (some (.int o.1)) (97, o.2, J, R) → az_E az_F ex d 181 0 [.ref 73, .retAddr 0, .retAddr 0, .retAddr 0] [] (97, I, J, R) Q) (hg_182 : ∀ (b1 b2 b3 b4 : Int32) (I : Nat → Nat → Int32) (o : Int32 × (Nat → Nat → Int32)), rec 182 b1 b2 b3 b4 I = some o → ∀ {J : Nat → Nat → Int64} {R : Nat → Nat → Option Nat} {Q : Option Value → az_S → Prop}, Q (some (.int o.1)) (97, o.2, J, R) → az_E az_F ex d 182 0 [.ref 73, .retAddr 0, .retAddr 0, .retAddr 0] [] (97, I, J, R) Q) (hg_183 : ∀ (b1 b2 b3 b4 : Int32) (I : Nat → Nat → Int32) (o : Int32 × (Nat → Nat → Int32)), rec 183 b1 b2 b3 b4 I = some o → ∀ {J : Nat → Nat → Int64} {R : Nat → Nat → Option Nat} {Q : Option Value → az_S → Prop}, Q (some (.int o.1)) (97, o.2, J, R) → az_E az_F ex d 183 0 [.ref 73, .retAddr 0, .retAddr 0, .retAddr 0] [] (97, I, J, R) Q) (hg_185 : ∀ (b1 b2 b3 b4 : Int32) (I : Nat → Nat → Int32) (o : Int32 × (Nat → Nat → Int32)), rec 185 b1 b2 b3 b4 I = some o → ∀ {J : Nat → Nat → Int64} {R : Nat → Nat → Option Nat} {Q : Option Value → az_S → Prop}, Q (some (.int o.1)) (97, o.2, J, R) → az_E az_F ex d 185 0 [.ref 73, .retAddr 0, .retAddr 0, .retAddr 0, .retAddr 0] [] (97, I, J, R) Q) {o : Int32 × (Nat → Nat → Int32)} (h : rs_M_sums rec I = some o) {Q : Option Value → az_S → Prop} (hQ : Q (some (.int o.1)) (97, o.2, J, R)) : az_E az_F ex (d + 2) 182 0 [.ref 73, .retAddr 0, .retAddr 0, .retAddr 0] [] (97, I, J, R) Q := by
  unfold rs_M_sums at h
  refine az_E.sn 1 (pc' := 1) (L' := [.ref 73, .retAddr 0, .retAddr 0, .retAddr 0]) (S' := [.ref 73]) (σ' := (97, I, J, R)) rfl ?_
  cases hx_3 : rec 183 0 0 0 0 I with
  | none => rw [hx_3] at h; cases h
  | some o =>
    rw [hx_3] at h
    obtain ⟨x_1, I_2⟩ := o
    dsimp only at h
    refine az_E.call (d := (d + 1)) (k' := 183) (vs := [.ref 73]) (pc' := 4) (S' := []) (Q1 := fun v s => v = some (.int x_1) ∧ s = (97, I_2, J, R)) rfl (az_E.deep (by omega) (hg_183 _ _ _ _ _ _ hx_3 (J := J) (R := R)  ⟨rfl, rfl⟩)) (fun v s hq => ?_)
    obtain ⟨rfl, rfl⟩ := hq
    show az_E az_F ex (d + 2) 182 4 [.ref 73, .retAddr 0, .retAddr 0, .retAddr 0] [.int x_1] (97, I_2, J, R) _
    refine az_E.sn 1 (pc' := 5) (L' := [.ref 73, .int x_1, .retAddr 0, .retAddr 0]) (S' := []) (σ' := (97, I_2, J, R)) rfl ?_
    exact az_E.forget (L := [.ref 73, .int x_1, .retAddr 0, .retAddr 0]) ⟨rfl, rfl, trivial, trivial, trivial⟩ (re_M_sums_5 (I := I_2) (J := J) (R := R) hg_179 hg_180 hg_181 hg_182 hg_183 hg_185 h hQ)
set_option maxRecDepth 100000 in
set_option maxHeartbeats 4000000 in
theorem re_M_product_85 {rec : az_GT} {d : Nat} {ex : az_X} {I : Nat → Nat → Int32} {J : Nat → Nat → Int64} {R : Nat → Nat → Option Nat} {s0 : Int32} (hg_179 : ∀ (b1 b2 b3 b4 : Int32) (I : Nat → Nat → Int32) (o : Int32 × (Nat → Nat → Int32)), rec 179 b1 b2 b3 b4 I = some o → ∀ {J : Nat → Nat → Int64} {R : Nat → Nat → Option Nat} {Q : Option Value → az_S → Prop}, Q (some (.int o.1)) (97, o.2, J, R) → az_E az_F ex d 179 0 [.ref 73, .retAddr 0, .retAddr 0] [] (97, I, J, R) Q) (hg_180 : ∀ (b1 b2 b3 b4 : Int32) (I : Nat → Nat → Int32) (o : Int32 × (Nat → Nat → Int32)), rec 180 b1 b2 b3 b4 I = some o → ∀ {J : Nat → Nat → Int64} {R : Nat → Nat → Option Nat} {Q : Option Value → az_S → Prop}, Q (some (.int o.1)) (97, o.2, J, R) → az_E az_F ex d 180 0 [.ref 73, .retAddr 0, .retAddr 0] [] (97, I, J, R) Q) (hg_181 : ∀ (b1 b2 b3 b4 : Int32) (I : Nat → Nat → Int32) (o : Int32 × (Nat → Nat → Int32)), rec 181 b1 b2 b3 b4 I = some o → ∀ {J : Nat → Nat → Int64} {R : Nat → Nat → Option Nat} {Q : Option Value → az_S → Prop}, Q (some (.int o.1)) (97, o.2, J, R) → az_E az_F ex d 181 0 [.ref 73, .retAddr 0, .retAddr 0, .retAddr 0] [] (97, I, J, R) Q) (hg_182 : ∀ (b1 b2 b3 b4 : Int32) (I : Nat → Nat → Int32) (o : Int32 × (Nat → Nat → Int32)), rec 182 b1 b2 b3 b4 I = some o → ∀ {J : Nat → Nat → Int64} {R : Nat → Nat → Option Nat} {Q : Option Value → az_S → Prop}, Q (some (.int o.1)) (97, o.2, J, R) → az_E az_F ex d 182 0 [.ref 73, .retAddr 0, .retAddr 0, .retAddr 0] [] (97, I, J, R) Q) (hg_183 : ∀ (b1 b2 b3 b4 : Int32) (I : Nat → Nat → Int32) (o : Int32 × (Nat → Nat → Int32)), rec 183 b1 b2 b3 b4 I = some o → ∀ {J : Nat → Nat → Int64} {R : Nat → Nat → Option Nat} {Q : Option Value → az_S → Prop}, Q (some (.int o.1)) (97, o.2, J, R) → az_E az_F ex d 183 0 [.ref 73, .retAddr 0, .retAddr 0, .retAddr 0] [] (97, I, J, R) Q) (hg_185 : ∀ (b1 b2 b3 b4 : Int32) (I : Nat → Nat → Int32) (o : Int32 × (Nat → Nat → Int32)), rec 185 b1 b2 b3 b4 I = some o → ∀ {J : Nat → Nat → Int64} {R : Nat → Nat → Option Nat} {Q : Option Value → az_S → Prop}, Q (some (.int o.1)) (97, o.2, J, R) → az_E az_F ex d 185 0 [.ref 73, .retAddr 0, .retAddr 0, .retAddr 0, .retAddr 0] [] (97, I, J, R) Q) {x : ((Int32 × Int32 × (Nat → Nat → Int32)) ⊕ (Int32 × (Nat → Nat → Int32)))} (h : rs_M_product_85 rec I s0 = some x) {Q : Option Value → az_S → Prop} (hQ : Sum.elim (fun s => az_E az_F ex (d + 2) 183 10 [.ref 73, .int s.1, .int s.2.1, .retAddr 0] [] (97, s.2.2, J, R) Q) (fun x => Q (some (.int x.1)) (97, x.2, J, R)) x) : az_E az_F ex (d + 2) 183 85 [.ref 73, .retAddr 0, .retAddr 0, .retAddr 0] [.int s0] (97, I, J, R) Q := by
  unfold rs_M_product_85 at h
  refine az_E.sn 2 (pc' := 87) (L' := [.ref 73, .int s0, .retAddr 0, .retAddr 0]) (S' := [.ref 73]) (σ' := (97, I, J, R)) rfl ?_
  refine az_E.call (d := (d + 1)) (k' := 176) (vs := [.ref 73]) (pc' := 90) (S' := []) rfl ?_ (fun _ _ hq => hq)
  show az_E az_F ex (d + 1) 176 0 [.ref 73] [] (97, I, J, R) _
  refine az_E.sn 4 (pc' := 8) (L' := [.ref 73]) (S' := [.int (I 73 16), .int (I 73 15)]) (σ' := (97, I, J, R)) rfl ?_
  refine az_E.br (c := (I 73 16) ≤ (I 73 15)) (tt := 47) (ff := 11) (L' := [.ref 73]) (S' := []) (σ' := (97, I, J, R)) rfl (fun hc_11 => ?_) (fun hc_11 => ?_)
  · rw [if_pos hc_11] at h
    refine az_E.sn 1 (pc' := 48) (L' := [.ref 73]) (S' := [.int (0 : Int32)]) (σ' := (97, I, J, R)) rfl ?_
    refine az_E.ret (v := some (.int (0 : Int32))) (σ' := (97, I, J, R)) rfl ?_
    show az_E az_F ex (d + 2) 183 90 [.ref 73, .int s0, .retAddr 0, .retAddr 0] [.int (0 : Int32)] (97, I, J, R) _
    refine az_E.sn 2 (pc' := 10) (L' := [.ref 73, .int s0, .int (0 : Int32), .retAddr 0]) (S' := []) (σ' := (97, I, J, R)) rfl ?_
    have h := Option.some.inj h
    subst h
    exact az_E.forget (L := [.ref 73, .int s0, .int (0 : Int32), .retAddr 0]) ⟨rfl, rfl, rfl, trivial, trivial⟩ hQ
  · rw [if_neg hc_11] at h
    refine az_E.sn 2 (pc' := 15) (L' := [.ref 73]) (S' := [.int (I 73 14)]) (σ' := (97, I, J, R)) rfl ?_
    refine az_E.br (c := 0 ≤ (I 73 14)) (tt := 30) (ff := 18) (L' := [.ref 73]) (S' := []) (σ' := (97, I, J, R)) rfl (fun hc_12 => ?_) (fun hc_12 => ?_)
    · rw [if_pos hc_12] at h
      refine az_E.sn 7 (pc' := 43) (L' := [.ref 73]) (S' := [.int ((I 73 14) + (I 73 15)), .ref 81]) (σ' := (97, I, J, R)) rfl ?_
      by_cases hc_13 : ((I 73 14) + (I 73 15)) < 0 ∨ 120 ≤ ((I 73 14) + (I 73 15)).toNatClampNeg
      · rw [if_pos hc_13] at h; cases h
      · rw [if_neg hc_13] at h
        refine az_E.oi (o := az_ai az_F ex (97, I, J, R) 81 ((I 73 14) + (I 73 15))) (pc' := 44) (L' := [.ref 73]) (S' := []) (σ' := (97, I, J, R)) (x := (I 81 ((I 73 14) + (I 73 15)).toNatClampNeg)) rfl (if_neg hc_13) ?_
        refine az_E.sn 1 (pc' := 48) (L' := [.ref 73]) (S' := [.int (I 81 ((I 73 14) + (I 73 15)).toNatClampNeg)]) (σ' := (97, I, J, R)) rfl ?_
        refine az_E.ret (v := some (.int (I 81 ((I 73 14) + (I 73 15)).toNatClampNeg))) (σ' := (97, I, J, R)) rfl ?_
        show az_E az_F ex (d + 2) 183 90 [.ref 73, .int s0, .retAddr 0, .retAddr 0] [.int (I 81 ((I 73 14) + (I 73 15)).toNatClampNeg)] (97, I, J, R) _
        refine az_E.sn 2 (pc' := 10) (L' := [.ref 73, .int s0, .int (I 81 ((I 73 14) + (I 73 15)).toNatClampNeg), .retAddr 0]) (S' := []) (σ' := (97, I, J, R)) rfl ?_
        have h := Option.some.inj h
        subst h
        exact az_E.forget (L := [.ref 73, .int s0, .int (I 81 ((I 73 14) + (I 73 15)).toNatClampNeg), .retAddr 0]) ⟨rfl, rfl, rfl, trivial, trivial⟩ hQ
    · rw [if_neg hc_12] at h
      refine az_E.sn 4 (pc' := 26) (L' := [.ref 73]) (S' := [.int (I 73 15), .ref 80]) (σ' := (97, I, J, R)) rfl ?_
      by_cases hc_14 : (I 73 15) < 0 ∨ 120 ≤ (I 73 15).toNatClampNeg
      · rw [if_pos hc_14] at h; cases h
      · rw [if_neg hc_14] at h
        refine az_E.oi (o := az_ai az_F ex (97, I, J, R) 80 (I 73 15)) (pc' := 27) (L' := [.ref 73]) (S' := []) (σ' := (97, I, J, R)) (x := (I 80 (I 73 15).toNatClampNeg)) rfl (if_neg hc_14) ?_
        refine az_E.sn 1 (pc' := 48) (L' := [.ref 73]) (S' := [.int (I 80 (I 73 15).toNatClampNeg)]) (σ' := (97, I, J, R)) rfl ?_
        refine az_E.ret (v := some (.int (I 80 (I 73 15).toNatClampNeg))) (σ' := (97, I, J, R)) rfl ?_
        show az_E az_F ex (d + 2) 183 90 [.ref 73, .int s0, .retAddr 0, .retAddr 0] [.int (I 80 (I 73 15).toNatClampNeg)] (97, I, J, R) _
        refine az_E.sn 2 (pc' := 10) (L' := [.ref 73, .int s0, .int (I 80 (I 73 15).toNatClampNeg), .retAddr 0]) (S' := []) (σ' := (97, I, J, R)) rfl ?_
        have h := Option.some.inj h
        subst h
        exact az_E.forget (L := [.ref 73, .int s0, .int (I 80 (I 73 15).toNatClampNeg), .retAddr 0]) ⟨rfl, rfl, rfl, trivial, trivial⟩ hQ
set_option maxRecDepth 100000 in
set_option maxHeartbeats 4000000 in
theorem re_M_product_35 {rec : az_GT} {d : Nat} {ex : az_X} {I : Nat → Nat → Int32} {J : Nat → Nat → Int64} {R : Nat → Nat → Option Nat} {v1 : Int32} {v2 : Int32} (hg_179 : ∀ (b1 b2 b3 b4 : Int32) (I : Nat → Nat → Int32) (o : Int32 × (Nat → Nat → Int32)), rec 179 b1 b2 b3 b4 I = some o → ∀ {J : Nat → Nat → Int64} {R : Nat → Nat → Option Nat} {Q : Option Value → az_S → Prop}, Q (some (.int o.1)) (97, o.2, J, R) → az_E az_F ex d 179 0 [.ref 73, .retAddr 0, .retAddr 0] [] (97, I, J, R) Q) (hg_180 : ∀ (b1 b2 b3 b4 : Int32) (I : Nat → Nat → Int32) (o : Int32 × (Nat → Nat → Int32)), rec 180 b1 b2 b3 b4 I = some o → ∀ {J : Nat → Nat → Int64} {R : Nat → Nat → Option Nat} {Q : Option Value → az_S → Prop}, Q (some (.int o.1)) (97, o.2, J, R) → az_E az_F ex d 180 0 [.ref 73, .retAddr 0, .retAddr 0] [] (97, I, J, R) Q) (hg_181 : ∀ (b1 b2 b3 b4 : Int32) (I : Nat → Nat → Int32) (o : Int32 × (Nat → Nat → Int32)), rec 181 b1 b2 b3 b4 I = some o → ∀ {J : Nat → Nat → Int64} {R : Nat → Nat → Option Nat} {Q : Option Value → az_S → Prop}, Q (some (.int o.1)) (97, o.2, J, R) → az_E az_F ex d 181 0 [.ref 73, .retAddr 0, .retAddr 0, .retAddr 0] [] (97, I, J, R) Q) (hg_182 : ∀ (b1 b2 b3 b4 : Int32) (I : Nat → Nat → Int32) (o : Int32 × (Nat → Nat → Int32)), rec 182 b1 b2 b3 b4 I = some o → ∀ {J : Nat → Nat → Int64} {R : Nat → Nat → Option Nat} {Q : Option Value → az_S → Prop}, Q (some (.int o.1)) (97, o.2, J, R) → az_E az_F ex d 182 0 [.ref 73, .retAddr 0, .retAddr 0, .retAddr 0] [] (97, I, J, R) Q) (hg_183 : ∀ (b1 b2 b3 b4 : Int32) (I : Nat → Nat → Int32) (o : Int32 × (Nat → Nat → Int32)), rec 183 b1 b2 b3 b4 I = some o → ∀ {J : Nat → Nat → Int64} {R : Nat → Nat → Option Nat} {Q : Option Value → az_S → Prop}, Q (some (.int o.1)) (97, o.2, J, R) → az_E az_F ex d 183 0 [.ref 73, .retAddr 0, .retAddr 0, .retAddr 0] [] (97, I, J, R) Q) (hg_185 : ∀ (b1 b2 b3 b4 : Int32) (I : Nat → Nat → Int32) (o : Int32 × (Nat → Nat → Int32)), rec 185 b1 b2 b3 b4 I = some o → ∀ {J : Nat → Nat → Int64} {R : Nat → Nat → Option Nat} {Q : Option Value → az_S → Prop}, Q (some (.int o.1)) (97, o.2, J, R) → az_E az_F ex d 185 0 [.ref 73, .retAddr 0, .retAddr 0, .retAddr 0, .retAddr 0] [] (97, I, J, R) Q) {x : ((Int32 × Int32 × (Nat → Nat → Int32)) ⊕ (Int32 × (Nat → Nat → Int32)))} (h : rs_M_product_35 rec I v1 v2 = some x) {Q : Option Value → az_S → Prop} (hQ : Sum.elim (fun s => az_E az_F ex (d + 2) 183 10 [.ref 73, .int s.1, .int s.2.1, .retAddr 0] [] (97, s.2.2, J, R) Q) (fun x => Q (some (.int x.1)) (97, x.2, J, R)) x) : az_E az_F ex (d + 2) 183 35 [.ref 73, .int v1, .int v2, .retAddr 0] [] (97, I, J, R) Q := by
  unfold rs_M_product_35 at h
  refine az_E.sn 7 (pc' := 46) (L' := [.ref 73, .int v1, .int v2, .retAddr 0]) (S' := [.ref 73]) (σ' := (97, (az_u I 73 15 ((I 73 15) + (1 : Int32))), J, R)) rfl ?_
  cases hx_9 : rec 185 0 0 0 0 (az_u I 73 15 ((I 73 15) + (1 : Int32))) with
  | none => rw [hx_9] at h; cases h
  | some o =>
    rw [hx_9] at h
    obtain ⟨x_7, I_8⟩ := o
    dsimp only at h
    refine az_E.call (d := (d + 1)) (k' := 185) (vs := [.ref 73]) (pc' := 49) (S' := []) (Q1 := fun v s => v = some (.int x_7) ∧ s = (97, I_8, J, R)) rfl (az_E.deep (by omega) (hg_185 _ _ _ _ _ _ hx_9 (J := J) (R := R)  ⟨rfl, rfl⟩)) (fun v s hq => ?_)
    obtain ⟨rfl, rfl⟩ := hq
    show az_E az_F ex (d + 2) 183 49 [.ref 73, .int v1, .int v2, .retAddr 0] [.int x_7] (97, I_8, J, R) _
    refine az_E.sn 3 (pc' := 53) (L' := [.ref 73, .int v1, .int v2, .int x_7]) (S' := [.int (42 : Int32), .int v2]) (σ' := (97, I_8, J, R)) rfl ?_
    refine az_E.br (c := v2 = (42 : Int32)) (tt := 56) (ff := 62) (L' := [.ref 73, .int v1, .int v2, .int x_7]) (S' := []) (σ' := (97, I_8, J, R)) rfl (fun hc_10 => ?_) (fun hc_10 => ?_)
    · rw [if_pos hc_10] at h
      refine az_E.sn 4 (pc' := 85) (L' := [.ref 73, .int v1, .int v2, .int x_7]) (S' := [.int (v1 * x_7)]) (σ' := (97, I_8, J, R)) rfl ?_
      exact az_E.forget (L := [.ref 73, .retAddr 0, .retAddr 0, .retAddr 0]) ⟨rfl, trivial, trivial, trivial, trivial⟩ (re_M_product_85 (I := I_8) (J := J) (R := R) hg_179 hg_180 hg_181 hg_182 hg_183 hg_185 h hQ)
    · rw [if_neg hc_10] at h
      refine az_E.sn 1 (pc' := 63) (L' := [.ref 73, .int v1, .int v2, .int x_7]) (S' := [.int x_7]) (σ' := (97, I_8, J, R)) rfl ?_
      refine az_E.br (c := x_7 = 0) (tt := 66) (ff := 70) (L' := [.ref 73, .int v1, .int v2, .int x_7]) (S' := []) (σ' := (97, I_8, J, R)) rfl (fun hc_15 => ?_) (fun hc_15 => ?_)
      · rw [if_pos hc_15] at h
        refine az_E.sn 2 (pc' := 85) (L' := [.ref 73, .int v1, .int v2, .int x_7]) (S' := [.int (0 : Int32)]) (σ' := (97, I_8, J, R)) rfl ?_
        exact az_E.forget (L := [.ref 73, .retAddr 0, .retAddr 0, .retAddr 0]) ⟨rfl, trivial, trivial, trivial, trivial⟩ (re_M_product_85 (I := I_8) (J := J) (R := R) hg_179 hg_180 hg_181 hg_182 hg_183 hg_185 h hQ)
      · rw [if_neg hc_15] at h
        refine az_E.sn 2 (pc' := 73) (L' := [.ref 73, .int v1, .int v2, .int x_7]) (S' := [.int (47 : Int32), .int v2]) (σ' := (97, I_8, J, R)) rfl ?_
        refine az_E.br (c := v2 = (47 : Int32)) (tt := 76) (ff := 82) (L' := [.ref 73, .int v1, .int v2, .int x_7]) (S' := []) (σ' := (97, I_8, J, R)) rfl (fun hc_16 => ?_) (fun hc_16 => ?_)
        · rw [if_pos hc_16] at h
          refine az_E.sn 2 (pc' := 78) (L' := [.ref 73, .int v1, .int v2, .int x_7]) (S' := [.int x_7, .int v1]) (σ' := (97, I_8, J, R)) rfl ?_
          by_cases hd_17 : x_7 = 0
          · rw [if_pos hd_17] at h; cases h
          · rw [if_neg hd_17] at h
            refine az_E.dv (c := x_7 = 0) (pc' := 79) (L' := [.ref 73, .int v1, .int v2, .int x_7]) (S' := [.int (v1 / x_7)]) (σ' := (97, I_8, J, R)) rfl hd_17 ?_
            refine az_E.sn 1 (pc' := 85) (L' := [.ref 73, .int v1, .int v2, .int x_7]) (S' := [.int (v1 / x_7)]) (σ' := (97, I_8, J, R)) rfl ?_
            exact az_E.forget (L := [.ref 73, .retAddr 0, .retAddr 0, .retAddr 0]) ⟨rfl, trivial, trivial, trivial, trivial⟩ (re_M_product_85 (I := I_8) (J := J) (R := R) hg_179 hg_180 hg_181 hg_182 hg_183 hg_185 h hQ)
        · rw [if_neg hc_16] at h
          refine az_E.sn 2 (pc' := 84) (L' := [.ref 73, .int v1, .int v2, .int x_7]) (S' := [.int x_7, .int v1]) (σ' := (97, I_8, J, R)) rfl ?_
          by_cases hd_18 : x_7 = 0
          · rw [if_pos hd_18] at h; cases h
          · rw [if_neg hd_18] at h
            refine az_E.dv (c := x_7 = 0) (pc' := 85) (L' := [.ref 73, .int v1, .int v2, .int x_7]) (S' := [.int (v1 - v1 / x_7 * x_7)]) (σ' := (97, I_8, J, R)) rfl hd_18 ?_
            exact az_E.forget (L := [.ref 73, .retAddr 0, .retAddr 0, .retAddr 0]) ⟨rfl, trivial, trivial, trivial, trivial⟩ (re_M_product_85 (I := I_8) (J := J) (R := R) hg_179 hg_180 hg_181 hg_182 hg_183 hg_185 h hQ)
set_option maxRecDepth 100000 in
set_option maxHeartbeats 4000000 in
theorem re_M_product_10_b {rec : az_GT} {d : Nat} {ex : az_X} {I : Nat → Nat → Int32} {J : Nat → Nat → Int64} {R : Nat → Nat → Option Nat} {v1 : Int32} {v2 : Int32} (hg_179 : ∀ (b1 b2 b3 b4 : Int32) (I : Nat → Nat → Int32) (o : Int32 × (Nat → Nat → Int32)), rec 179 b1 b2 b3 b4 I = some o → ∀ {J : Nat → Nat → Int64} {R : Nat → Nat → Option Nat} {Q : Option Value → az_S → Prop}, Q (some (.int o.1)) (97, o.2, J, R) → az_E az_F ex d 179 0 [.ref 73, .retAddr 0, .retAddr 0] [] (97, I, J, R) Q) (hg_180 : ∀ (b1 b2 b3 b4 : Int32) (I : Nat → Nat → Int32) (o : Int32 × (Nat → Nat → Int32)), rec 180 b1 b2 b3 b4 I = some o → ∀ {J : Nat → Nat → Int64} {R : Nat → Nat → Option Nat} {Q : Option Value → az_S → Prop}, Q (some (.int o.1)) (97, o.2, J, R) → az_E az_F ex d 180 0 [.ref 73, .retAddr 0, .retAddr 0] [] (97, I, J, R) Q) (hg_181 : ∀ (b1 b2 b3 b4 : Int32) (I : Nat → Nat → Int32) (o : Int32 × (Nat → Nat → Int32)), rec 181 b1 b2 b3 b4 I = some o → ∀ {J : Nat → Nat → Int64} {R : Nat → Nat → Option Nat} {Q : Option Value → az_S → Prop}, Q (some (.int o.1)) (97, o.2, J, R) → az_E az_F ex d 181 0 [.ref 73, .retAddr 0, .retAddr 0, .retAddr 0] [] (97, I, J, R) Q) (hg_182 : ∀ (b1 b2 b3 b4 : Int32) (I : Nat → Nat → Int32) (o : Int32 × (Nat → Nat → Int32)), rec 182 b1 b2 b3 b4 I = some o → ∀ {J : Nat → Nat → Int64} {R : Nat → Nat → Option Nat} {Q : Option Value → az_S → Prop}, Q (some (.int o.1)) (97, o.2, J, R) → az_E az_F ex d 182 0 [.ref 73, .retAddr 0, .retAddr 0, .retAddr 0] [] (97, I, J, R) Q) (hg_183 : ∀ (b1 b2 b3 b4 : Int32) (I : Nat → Nat → Int32) (o : Int32 × (Nat → Nat → Int32)), rec 183 b1 b2 b3 b4 I = some o → ∀ {J : Nat → Nat → Int64} {R : Nat → Nat → Option Nat} {Q : Option Value → az_S → Prop}, Q (some (.int o.1)) (97, o.2, J, R) → az_E az_F ex d 183 0 [.ref 73, .retAddr 0, .retAddr 0, .retAddr 0] [] (97, I, J, R) Q) (hg_185 : ∀ (b1 b2 b3 b4 : Int32) (I : Nat → Nat → Int32) (o : Int32 × (Nat → Nat → Int32)), rec 185 b1 b2 b3 b4 I = some o → ∀ {J : Nat → Nat → Int64} {R : Nat → Nat → Option Nat} {Q : Option Value → az_S → Prop}, Q (some (.int o.1)) (97, o.2, J, R) → az_E az_F ex d 185 0 [.ref 73, .retAddr 0, .retAddr 0, .retAddr 0, .retAddr 0] [] (97, I, J, R) Q) {x : ((Int32 × Int32 × (Nat → Nat → Int32)) ⊕ (Int32 × (Nat → Nat → Int32)))} (h : rs_M_product_10_b rec v1 v2 I = some x) {Q : Option Value → az_S → Prop} (hQ : Sum.elim (fun s => az_E az_F ex (d + 2) 183 10 [.ref 73, .int s.1, .int s.2.1, .retAddr 0] [] (97, s.2.2, J, R) Q) (fun x => Q (some (.int x.1)) (97, x.2, J, R)) x) : az_E az_F ex (d + 2) 183 10 [.ref 73, .int v1, .int v2, .retAddr 0] [] (97, I, J, R) Q := by
  unfold rs_M_product_10_b at h
  refine az_E.sn 2 (pc' := 14) (L' := [.ref 73, .int v1, .int v2, .retAddr 0]) (S' := [.int (I 73 17)]) (σ' := (97, I, J, R)) rfl ?_
  refine az_E.br (c := 0 ≤ (I 73 17)) (tt := 94) (ff := 17) (L' := [.ref 73, .int v1, .int v2, .retAddr 0]) (S' := []) (σ' := (97, I, J, R)) rfl (fun hc_5 => ?_) (fun hc_5 => ?_)
  · rw [if_pos hc_5] at h
    refine az_E.sn 1 (pc' := 95) (L' := [.ref 73, .int v1, .int v2, .retAddr 0]) (S' := [.int v1]) (σ' := (97, I, J, R)) rfl ?_
    have h := Option.some.inj h
    subst h
    exact az_E.ret (v := some (.int v1)) (σ' := (97, I, J, R)) rfl hQ
  · rw [if_neg hc_5] at h
    refine az_E.sn 2 (pc' := 20) (L' := [.ref 73, .int v1, .int v2, .retAddr 0]) (S' := [.int (42 : Int32), .int v2]) (σ' := (97, I, J, R)) rfl ?_
    refine az_E.br (c := v2 = (42 : Int32)) (tt := 35) (ff := 23) (L' := [.ref 73, .int v1, .int v2, .retAddr 0]) (S' := []) (σ' := (97, I, J, R)) rfl (fun hc_6 => ?_) (fun hc_6 => ?_)
    · rw [if_pos hc_6] at h
      exact az_E.forget (L := [.ref 73, .int v1, .int v2, .retAddr 0]) ⟨rfl, rfl, rfl, trivial, trivial⟩ (re_M_product_35 (I := I) (J := J) (R := R) hg_179 hg_180 hg_181 hg_182 hg_183 hg_185 h hQ)
    · rw [if_neg hc_6] at h
      refine az_E.sn 2 (pc' := 26) (L' := [.ref 73, .int v1, .int v2, .retAddr 0]) (S' := [.int (47 : Int32), .int v2]) (σ' := (97, I, J, R)) rfl ?_
      refine az_E.br (c := v2 = (47 : Int32)) (tt := 35) (ff := 29) (L' := [.ref 73, .int v1, .int v2, .retAddr 0]) (S' := []) (σ' := (97, I, J, R)) rfl (fun hc_19 => ?_) (fun hc_19 => ?_)
      · rw [if_pos hc_19] at h
        exact az_E.forget (L := [.ref 73, .int v1, .int v2, .retAddr 0]) ⟨rfl, rfl, rfl, trivial, trivial⟩ (re_M_product_35 (I := I) (J := J) (R := R) hg_179 hg_180 hg_181 hg_182 hg_183 hg_185 h hQ)
      · rw [if_neg hc_19] at h
        refine az_E.sn 2 (pc' := 32) (L' := [.ref 73, .int v1, .int v2, .retAddr 0]) (S' := [.int (37 : Int32), .int v2]) (σ' := (97, I, J, R)) rfl ?_
        refine az_E.br (c := v2 = (37 : Int32)) (tt := 35) (ff := 94) (L' := [.ref 73, .int v1, .int v2, .retAddr 0]) (S' := []) (σ' := (97, I, J, R)) rfl (fun hc_20 => ?_) (fun hc_20 => ?_)
        · rw [if_pos hc_20] at h
          exact az_E.forget (L := [.ref 73, .int v1, .int v2, .retAddr 0]) ⟨rfl, rfl, rfl, trivial, trivial⟩ (re_M_product_35 (I := I) (J := J) (R := R) hg_179 hg_180 hg_181 hg_182 hg_183 hg_185 h hQ)
        · rw [if_neg hc_20] at h
          refine az_E.sn 1 (pc' := 95) (L' := [.ref 73, .int v1, .int v2, .retAddr 0]) (S' := [.int v1]) (σ' := (97, I, J, R)) rfl ?_
          have h := Option.some.inj h
          subst h
          exact az_E.ret (v := some (.int v1)) (σ' := (97, I, J, R)) rfl hQ
set_option maxRecDepth 100000 in
set_option maxHeartbeats 4000000 in
theorem re_M_product_10 {rec : az_GT} {d : Nat} {ex : az_X} {I : Nat → Nat → Int32} {J : Nat → Nat → Int64} {R : Nat → Nat → Option Nat} {v1 : Int32} {v2 : Int32} (hg_179 : ∀ (b1 b2 b3 b4 : Int32) (I : Nat → Nat → Int32) (o : Int32 × (Nat → Nat → Int32)), rec 179 b1 b2 b3 b4 I = some o → ∀ {J : Nat → Nat → Int64} {R : Nat → Nat → Option Nat} {Q : Option Value → az_S → Prop}, Q (some (.int o.1)) (97, o.2, J, R) → az_E az_F ex d 179 0 [.ref 73, .retAddr 0, .retAddr 0] [] (97, I, J, R) Q) (hg_180 : ∀ (b1 b2 b3 b4 : Int32) (I : Nat → Nat → Int32) (o : Int32 × (Nat → Nat → Int32)), rec 180 b1 b2 b3 b4 I = some o → ∀ {J : Nat → Nat → Int64} {R : Nat → Nat → Option Nat} {Q : Option Value → az_S → Prop}, Q (some (.int o.1)) (97, o.2, J, R) → az_E az_F ex d 180 0 [.ref 73, .retAddr 0, .retAddr 0] [] (97, I, J, R) Q) (hg_181 : ∀ (b1 b2 b3 b4 : Int32) (I : Nat → Nat → Int32) (o : Int32 × (Nat → Nat → Int32)), rec 181 b1 b2 b3 b4 I = some o → ∀ {J : Nat → Nat → Int64} {R : Nat → Nat → Option Nat} {Q : Option Value → az_S → Prop}, Q (some (.int o.1)) (97, o.2, J, R) → az_E az_F ex d 181 0 [.ref 73, .retAddr 0, .retAddr 0, .retAddr 0] [] (97, I, J, R) Q) (hg_182 : ∀ (b1 b2 b3 b4 : Int32) (I : Nat → Nat → Int32) (o : Int32 × (Nat → Nat → Int32)), rec 182 b1 b2 b3 b4 I = some o → ∀ {J : Nat → Nat → Int64} {R : Nat → Nat → Option Nat} {Q : Option Value → az_S → Prop}, Q (some (.int o.1)) (97, o.2, J, R) → az_E az_F ex d 182 0 [.ref 73, .retAddr 0, .retAddr 0, .retAddr 0] [] (97, I, J, R) Q) (hg_183 : ∀ (b1 b2 b3 b4 : Int32) (I : Nat → Nat → Int32) (o : Int32 × (Nat → Nat → Int32)), rec 183 b1 b2 b3 b4 I = some o → ∀ {J : Nat → Nat → Int64} {R : Nat → Nat → Option Nat} {Q : Option Value → az_S → Prop}, Q (some (.int o.1)) (97, o.2, J, R) → az_E az_F ex d 183 0 [.ref 73, .retAddr 0, .retAddr 0, .retAddr 0] [] (97, I, J, R) Q) (hg_185 : ∀ (b1 b2 b3 b4 : Int32) (I : Nat → Nat → Int32) (o : Int32 × (Nat → Nat → Int32)), rec 185 b1 b2 b3 b4 I = some o → ∀ {J : Nat → Nat → Int64} {R : Nat → Nat → Option Nat} {Q : Option Value → az_S → Prop}, Q (some (.int o.1)) (97, o.2, J, R) → az_E az_F ex d 185 0 [.ref 73, .retAddr 0, .retAddr 0, .retAddr 0, .retAddr 0] [] (97, I, J, R) Q) {x : Int32 × (Nat → Nat → Int32)} (h : rs_M_product_10 rec I v1 v2 = some x) {Q : Option Value → az_S → Prop} (hQ : Q (some (.int x.1)) (97, x.2, J, R)) : az_E az_F ex (d + 2) 183 10 [.ref 73, .int v1, .int v2, .retAddr 0] [] (97, I, J, R) Q := by
  unfold rs_M_product_10 at h
  refine az_lp_E (G := fun s => az_E az_F ex (d + 2) 183 10 [.ref 73, .int s.1, .int s.2.1, .retAddr 0] [] (97, s.2.2, J, R) Q) (H := fun x => Q (some (.int x.1)) (97, x.2, J, R)) (fun s o hb ho => ?_) _ _ _ h hQ
  exact re_M_product_10_b hg_179 hg_180 hg_181 hg_182 hg_183 hg_185 hb ho
set_option maxRecDepth 100000 in
set_option maxHeartbeats 4000000 in
theorem re_M_product {rec : az_GT} {d : Nat} {ex : az_X} {I : Nat → Nat → Int32} {J : Nat → Nat → Int64} {R : Nat → Nat → Option Nat} (hg_179 : ∀ (b1 b2 b3 b4 : Int32) (I : Nat → Nat → Int32) (o : Int32 × (Nat → Nat → Int32)), rec 179 b1 b2 b3 b4 I = some o → ∀ {J : Nat → Nat → Int64} {R : Nat → Nat → Option Nat} {Q : Option Value → az_S → Prop}, Q (some (.int o.1)) (97, o.2, J, R) → az_E az_F ex d 179 0 [.ref 73, .retAddr 0, .retAddr 0] [] (97, I, J, R) Q) (hg_180 : ∀ (b1 b2 b3 b4 : Int32) (I : Nat → Nat → Int32) (o : Int32 × (Nat → Nat → Int32)), rec 180 b1 b2 b3 b4 I = some o → ∀ {J : Nat → Nat → Int64} {R : Nat → Nat → Option Nat} {Q : Option Value → az_S → Prop}, Q (some (.int o.1)) (97, o.2, J, R) → az_E az_F ex d 180 0 [.ref 73, .retAddr 0, .retAddr 0] [] (97, I, J, R) Q) (hg_181 : ∀ (b1 b2 b3 b4 : Int32) (I : Nat → Nat → Int32) (o : Int32 × (Nat → Nat → Int32)), rec 181 b1 b2 b3 b4 I = some o → ∀ {J : Nat → Nat → Int64} {R : Nat → Nat → Option Nat} {Q : Option Value → az_S → Prop}, Q (some (.int o.1)) (97, o.2, J, R) → az_E az_F ex d 181 0 [.ref 73, .retAddr 0, .retAddr 0, .retAddr 0] [] (97, I, J, R) Q) (hg_182 : ∀ (b1 b2 b3 b4 : Int32) (I : Nat → Nat → Int32) (o : Int32 × (Nat → Nat → Int32)), rec 182 b1 b2 b3 b4 I = some o → ∀ {J : Nat → Nat → Int64} {R : Nat → Nat → Option Nat} {Q : Option Value → az_S → Prop}, Q (some (.int o.1)) (97, o.2, J, R) → az_E az_F ex d 182 0 [.ref 73, .retAddr 0, .retAddr 0, .retAddr 0] [] (97, I, J, R) Q) (hg_183 : ∀ (b1 b2 b3 b4 : Int32) (I : Nat → Nat → Int32) (o : Int32 × (Nat → Nat → Int32)), rec 183 b1 b2 b3 b4 I = some o → ∀ {J : Nat → Nat → Int64} {R : Nat → Nat → Option Nat} {Q : Option Value → az_S → Prop}, Q (some (.int o.1)) (97, o.2, J, R) → az_E az_F ex d 183 0 [.ref 73, .retAddr 0, .retAddr 0, .retAddr 0] [] (97, I, J, R) Q) (hg_185 : ∀ (b1 b2 b3 b4 : Int32) (I : Nat → Nat → Int32) (o : Int32 × (Nat → Nat → Int32)), rec 185 b1 b2 b3 b4 I = some o → ∀ {J : Nat → Nat → Int64} {R : Nat → Nat → Option Nat} {Q : Option Value → az_S → Prop}, Q (some (.int o.1)) (97, o.2, J, R) → az_E az_F ex d 185 0 [.ref 73, .retAddr 0, .retAddr 0, .retAddr 0, .retAddr 0] [] (97, I, J, R) Q) {o : Int32 × (Nat → Nat → Int32)} (h : rs_M_product rec I = some o) {Q : Option Value → az_S → Prop} (hQ : Q (some (.int o.1)) (97, o.2, J, R)) : az_E az_F ex (d + 2) 183 0 [.ref 73, .retAddr 0, .retAddr 0, .retAddr 0] [] (97, I, J, R) Q := by
  unfold rs_M_product at h
  refine az_E.sn 1 (pc' := 1) (L' := [.ref 73, .retAddr 0, .retAddr 0, .retAddr 0]) (S' := [.ref 73]) (σ' := (97, I, J, R)) rfl ?_
  cases hx_3 : rec 185 0 0 0 0 I with
  | none => rw [hx_3] at h; cases h
  | some o =>
    rw [hx_3] at h
    obtain ⟨x_1, I_2⟩ := o
    dsimp only at h
    refine az_E.call (d := (d + 1)) (k' := 185) (vs := [.ref 73]) (pc' := 4) (S' := []) (Q1 := fun v s => v = some (.int x_1) ∧ s = (97, I_2, J, R)) rfl (az_E.deep (by omega) (hg_185 _ _ _ _ _ _ hx_3 (J := J) (R := R)  ⟨rfl, rfl⟩)) (fun v s hq => ?_)
    obtain ⟨rfl, rfl⟩ := hq
    show az_E az_F ex (d + 2) 183 4 [.ref 73, .retAddr 0, .retAddr 0, .retAddr 0] [.int x_1] (97, I_2, J, R) _
    refine az_E.sn 2 (pc' := 6) (L' := [.ref 73, .int x_1, .retAddr 0, .retAddr 0]) (S' := [.ref 73]) (σ' := (97, I_2, J, R)) rfl ?_
    refine az_E.call (d := (d + 1)) (k' := 176) (vs := [.ref 73]) (pc' := 9) (S' := []) rfl ?_ (fun _ _ hq => hq)
    show az_E az_F ex (d + 1) 176 0 [.ref 73] [] (97, I_2, J, R) _
    refine az_E.sn 4 (pc' := 8) (L' := [.ref 73]) (S' := [.int (I_2 73 16), .int (I_2 73 15)]) (σ' := (97, I_2, J, R)) rfl ?_
    refine az_E.br (c := (I_2 73 16) ≤ (I_2 73 15)) (tt := 47) (ff := 11) (L' := [.ref 73]) (S' := []) (σ' := (97, I_2, J, R)) rfl (fun hc_4 => ?_) (fun hc_4 => ?_)
    · rw [if_pos hc_4] at h
      refine az_E.sn 1 (pc' := 48) (L' := [.ref 73]) (S' := [.int (0 : Int32)]) (σ' := (97, I_2, J, R)) rfl ?_
      refine az_E.ret (v := some (.int (0 : Int32))) (σ' := (97, I_2, J, R)) rfl ?_
      show az_E az_F ex (d + 2) 183 9 [.ref 73, .int x_1, .retAddr 0, .retAddr 0] [.int (0 : Int32)] (97, I_2, J, R) _
      refine az_E.sn 1 (pc' := 10) (L' := [.ref 73, .int x_1, .int (0 : Int32), .retAddr 0]) (S' := []) (σ' := (97, I_2, J, R)) rfl ?_
      exact az_E.forget (L := [.ref 73, .int x_1, .int (0 : Int32), .retAddr 0]) ⟨rfl, rfl, rfl, trivial, trivial⟩ (re_M_product_10 (I := I_2) (J := J) (R := R) hg_179 hg_180 hg_181 hg_182 hg_183 hg_185 h hQ)
    · rw [if_neg hc_4] at h
      refine az_E.sn 2 (pc' := 15) (L' := [.ref 73]) (S' := [.int (I_2 73 14)]) (σ' := (97, I_2, J, R)) rfl ?_
      refine az_E.br (c := 0 ≤ (I_2 73 14)) (tt := 30) (ff := 18) (L' := [.ref 73]) (S' := []) (σ' := (97, I_2, J, R)) rfl (fun hc_21 => ?_) (fun hc_21 => ?_)
      · rw [if_pos hc_21] at h
        refine az_E.sn 7 (pc' := 43) (L' := [.ref 73]) (S' := [.int ((I_2 73 14) + (I_2 73 15)), .ref 81]) (σ' := (97, I_2, J, R)) rfl ?_
        by_cases hc_22 : ((I_2 73 14) + (I_2 73 15)) < 0 ∨ 120 ≤ ((I_2 73 14) + (I_2 73 15)).toNatClampNeg
        · rw [if_pos hc_22] at h; cases h
        · rw [if_neg hc_22] at h
          refine az_E.oi (o := az_ai az_F ex (97, I_2, J, R) 81 ((I_2 73 14) + (I_2 73 15))) (pc' := 44) (L' := [.ref 73]) (S' := []) (σ' := (97, I_2, J, R)) (x := (I_2 81 ((I_2 73 14) + (I_2 73 15)).toNatClampNeg)) rfl (if_neg hc_22) ?_
          refine az_E.sn 1 (pc' := 48) (L' := [.ref 73]) (S' := [.int (I_2 81 ((I_2 73 14) + (I_2 73 15)).toNatClampNeg)]) (σ' := (97, I_2, J, R)) rfl ?_
          refine az_E.ret (v := some (.int (I_2 81 ((I_2 73 14) + (I_2 73 15)).toNatClampNeg))) (σ' := (97, I_2, J, R)) rfl ?_
          show az_E az_F ex (d + 2) 183 9 [.ref 73, .int x_1, .retAddr 0, .retAddr 0] [.int (I_2 81 ((I_2 73 14) + (I_2 73 15)).toNatClampNeg)] (97, I_2, J, R) _
          refine az_E.sn 1 (pc' := 10) (L' := [.ref 73, .int x_1, .int (I_2 81 ((I_2 73 14) + (I_2 73 15)).toNatClampNeg), .retAddr 0]) (S' := []) (σ' := (97, I_2, J, R)) rfl ?_
          exact az_E.forget (L := [.ref 73, .int x_1, .int (I_2 81 ((I_2 73 14) + (I_2 73 15)).toNatClampNeg), .retAddr 0]) ⟨rfl, rfl, rfl, trivial, trivial⟩ (re_M_product_10 (I := I_2) (J := J) (R := R) hg_179 hg_180 hg_181 hg_182 hg_183 hg_185 h hQ)
      · rw [if_neg hc_21] at h
        refine az_E.sn 4 (pc' := 26) (L' := [.ref 73]) (S' := [.int (I_2 73 15), .ref 80]) (σ' := (97, I_2, J, R)) rfl ?_
        by_cases hc_23 : (I_2 73 15) < 0 ∨ 120 ≤ (I_2 73 15).toNatClampNeg
        · rw [if_pos hc_23] at h; cases h
        · rw [if_neg hc_23] at h
          refine az_E.oi (o := az_ai az_F ex (97, I_2, J, R) 80 (I_2 73 15)) (pc' := 27) (L' := [.ref 73]) (S' := []) (σ' := (97, I_2, J, R)) (x := (I_2 80 (I_2 73 15).toNatClampNeg)) rfl (if_neg hc_23) ?_
          refine az_E.sn 1 (pc' := 48) (L' := [.ref 73]) (S' := [.int (I_2 80 (I_2 73 15).toNatClampNeg)]) (σ' := (97, I_2, J, R)) rfl ?_
          refine az_E.ret (v := some (.int (I_2 80 (I_2 73 15).toNatClampNeg))) (σ' := (97, I_2, J, R)) rfl ?_
          show az_E az_F ex (d + 2) 183 9 [.ref 73, .int x_1, .retAddr 0, .retAddr 0] [.int (I_2 80 (I_2 73 15).toNatClampNeg)] (97, I_2, J, R) _
          refine az_E.sn 1 (pc' := 10) (L' := [.ref 73, .int x_1, .int (I_2 80 (I_2 73 15).toNatClampNeg), .retAddr 0]) (S' := []) (σ' := (97, I_2, J, R)) rfl ?_
          exact az_E.forget (L := [.ref 73, .int x_1, .int (I_2 80 (I_2 73 15).toNatClampNeg), .retAddr 0]) ⟨rfl, rfl, rfl, trivial, trivial⟩ (re_M_product_10 (I := I_2) (J := J) (R := R) hg_179 hg_180 hg_181 hg_182 hg_183 hg_185 h hQ)
set_option maxRecDepth 100000 in
set_option maxHeartbeats 4000000 in
theorem re_M_nameOf {ex : az_X} {I : Nat → Nat → Int32} {J : Nat → Nat → Int64} {R : Nat → Nat → Option Nat} {a0 : Int32} {o : Int32} (h : rs_M_nameOf a0 = some o) {Q : Option Value → az_S → Prop} (hQ : Q (some (.int o)) (97, I, J, R)) : az_E az_F ex 0 184 0 [.int a0] [] (97, I, J, R) Q := by
  unfold rs_M_nameOf at h
  refine az_E.sn 1 (pc' := 1) (L' := [.int a0]) (S' := [.int a0]) (σ' := (97, I, J, R)) rfl ?_
  by_cases hc_1 : a0 = (104 : Int32)
  · rw [if_pos hc_1] at h
    refine az_E.sw hc_1 (pc' := 90) (L' := [.int a0]) (S' := []) (σ' := (97, I, J, R)) rfl ?_
    refine az_E.sn 1 (pc' := 91) (L' := [.int a0]) (S' := [.int (5 : Int32)]) (σ' := (97, I, J, R)) rfl ?_
    have h := Option.some.inj h
    subst h
    exact az_E.ret (v := some (.int (5 : Int32))) (σ' := (97, I, J, R)) rfl hQ
  · rw [if_neg hc_1] at h
    by_cases hc_2 : a0 = (105 : Int32)
    · rw [if_pos hc_2] at h
      refine az_E.sw hc_2 (pc' := 92) (L' := [.int a0]) (S' := []) (σ' := (97, I, J, R)) rfl ?_
      refine az_E.sn 1 (pc' := 93) (L' := [.int a0]) (S' := [.int (-1 : Int32)]) (σ' := (97, I, J, R)) rfl ?_
      have h := Option.some.inj h
      subst h
      exact az_E.ret (v := some (.int (-1 : Int32))) (σ' := (97, I, J, R)) rfl hQ
    · rw [if_neg hc_2] at h
      by_cases hc_3 : a0 = (106 : Int32)
      · rw [if_pos hc_3] at h
        refine az_E.sw hc_3 (pc' := 92) (L' := [.int a0]) (S' := []) (σ' := (97, I, J, R)) rfl ?_
        refine az_E.sn 1 (pc' := 93) (L' := [.int a0]) (S' := [.int (-1 : Int32)]) (σ' := (97, I, J, R)) rfl ?_
        have h := Option.some.inj h
        subst h
        exact az_E.ret (v := some (.int (-1 : Int32))) (σ' := (97, I, J, R)) rfl hQ
      · rw [if_neg hc_3] at h
        by_cases hc_4 : a0 = (107 : Int32)
        · rw [if_pos hc_4] at h
          refine az_E.sw hc_4 (pc' := 82) (L' := [.int a0]) (S' := []) (σ' := (97, I, J, R)) rfl ?_
          refine az_E.sn 1 (pc' := 83) (L' := [.int a0]) (S' := [.int (1 : Int32)]) (σ' := (97, I, J, R)) rfl ?_
          have h := Option.some.inj h
          subst h
          exact az_E.ret (v := some (.int (1 : Int32))) (σ' := (97, I, J, R)) rfl hQ
        · rw [if_neg hc_4] at h
          by_cases hc_5 : a0 = (108 : Int32)
          · rw [if_pos hc_5] at h
            refine az_E.sw hc_5 (pc' := 84) (L' := [.int a0]) (S' := []) (σ' := (97, I, J, R)) rfl ?_
            refine az_E.sn 1 (pc' := 85) (L' := [.int a0]) (S' := [.int (2 : Int32)]) (σ' := (97, I, J, R)) rfl ?_
            have h := Option.some.inj h
            subst h
            exact az_E.ret (v := some (.int (2 : Int32))) (σ' := (97, I, J, R)) rfl hQ
          · rw [if_neg hc_5] at h
            by_cases hc_6 : a0 = (109 : Int32)
            · rw [if_pos hc_6] at h
              refine az_E.sw hc_6 (pc' := 92) (L' := [.int a0]) (S' := []) (σ' := (97, I, J, R)) rfl ?_
              refine az_E.sn 1 (pc' := 93) (L' := [.int a0]) (S' := [.int (-1 : Int32)]) (σ' := (97, I, J, R)) rfl ?_
              have h := Option.some.inj h
              subst h
              exact az_E.ret (v := some (.int (-1 : Int32))) (σ' := (97, I, J, R)) rfl hQ
            · rw [if_neg hc_6] at h
              by_cases hc_7 : a0 = (110 : Int32)
              · rw [if_pos hc_7] at h
                refine az_E.sw hc_7 (pc' := 92) (L' := [.int a0]) (S' := []) (σ' := (97, I, J, R)) rfl ?_
                refine az_E.sn 1 (pc' := 93) (L' := [.int a0]) (S' := [.int (-1 : Int32)]) (σ' := (97, I, J, R)) rfl ?_
                have h := Option.some.inj h
                subst h
                exact az_E.ret (v := some (.int (-1 : Int32))) (σ' := (97, I, J, R)) rfl hQ
              · rw [if_neg hc_7] at h
                by_cases hc_8 : a0 = (111 : Int32)
                · rw [if_pos hc_8] at h
                  refine az_E.sw hc_8 (pc' := 92) (L' := [.int a0]) (S' := []) (σ' := (97, I, J, R)) rfl ?_
                  refine az_E.sn 1 (pc' := 93) (L' := [.int a0]) (S' := [.int (-1 : Int32)]) (σ' := (97, I, J, R)) rfl ?_
                  have h := Option.some.inj h
                  subst h
                  exact az_E.ret (v := some (.int (-1 : Int32))) (σ' := (97, I, J, R)) rfl hQ
                · rw [if_neg hc_8] at h
                  by_cases hc_9 : a0 = (112 : Int32)
                  · rw [if_pos hc_9] at h
                    refine az_E.sw hc_9 (pc' := 92) (L' := [.int a0]) (S' := []) (σ' := (97, I, J, R)) rfl ?_
                    refine az_E.sn 1 (pc' := 93) (L' := [.int a0]) (S' := [.int (-1 : Int32)]) (σ' := (97, I, J, R)) rfl ?_
                    have h := Option.some.inj h
                    subst h
                    exact az_E.ret (v := some (.int (-1 : Int32))) (σ' := (97, I, J, R)) rfl hQ
                  · rw [if_neg hc_9] at h
                    by_cases hc_10 : a0 = (113 : Int32)
                    · rw [if_pos hc_10] at h
                      refine az_E.sw hc_10 (pc' := 92) (L' := [.int a0]) (S' := []) (σ' := (97, I, J, R)) rfl ?_
                      refine az_E.sn 1 (pc' := 93) (L' := [.int a0]) (S' := [.int (-1 : Int32)]) (σ' := (97, I, J, R)) rfl ?_
                      have h := Option.some.inj h
                      subst h
                      exact az_E.ret (v := some (.int (-1 : Int32))) (σ' := (97, I, J, R)) rfl hQ
                    · rw [if_neg hc_10] at h
                      by_cases hc_11 : a0 = (114 : Int32)
                      · rw [if_pos hc_11] at h
                        refine az_E.sw hc_11 (pc' := 92) (L' := [.int a0]) (S' := []) (σ' := (97, I, J, R)) rfl ?_
                        refine az_E.sn 1 (pc' := 93) (L' := [.int a0]) (S' := [.int (-1 : Int32)]) (σ' := (97, I, J, R)) rfl ?_
                        have h := Option.some.inj h
                        subst h
                        exact az_E.ret (v := some (.int (-1 : Int32))) (σ' := (97, I, J, R)) rfl hQ
                      · rw [if_neg hc_11] at h
                        by_cases hc_12 : a0 = (115 : Int32)
                        · rw [if_pos hc_12] at h
                          refine az_E.sw hc_12 (pc' := 86) (L' := [.int a0]) (S' := []) (σ' := (97, I, J, R)) rfl ?_
                          refine az_E.sn 1 (pc' := 87) (L' := [.int a0]) (S' := [.int (3 : Int32)]) (σ' := (97, I, J, R)) rfl ?_
                          have h := Option.some.inj h
                          subst h
                          exact az_E.ret (v := some (.int (3 : Int32))) (σ' := (97, I, J, R)) rfl hQ
                        · rw [if_neg hc_12] at h
                          by_cases hc_13 : a0 = (116 : Int32)
                          · rw [if_pos hc_13] at h
                            refine az_E.sw hc_13 (pc' := 92) (L' := [.int a0]) (S' := []) (σ' := (97, I, J, R)) rfl ?_
                            refine az_E.sn 1 (pc' := 93) (L' := [.int a0]) (S' := [.int (-1 : Int32)]) (σ' := (97, I, J, R)) rfl ?_
                            have h := Option.some.inj h
                            subst h
                            exact az_E.ret (v := some (.int (-1 : Int32))) (σ' := (97, I, J, R)) rfl hQ
                          · rw [if_neg hc_13] at h
                            by_cases hc_14 : a0 = (117 : Int32)
                            · rw [if_pos hc_14] at h
                              refine az_E.sw hc_14 (pc' := 80) (L' := [.int a0]) (S' := []) (σ' := (97, I, J, R)) rfl ?_
                              refine az_E.sn 1 (pc' := 81) (L' := [.int a0]) (S' := [.int (0 : Int32)]) (σ' := (97, I, J, R)) rfl ?_
                              have h := Option.some.inj h
                              subst h
                              exact az_E.ret (v := some (.int (0 : Int32))) (σ' := (97, I, J, R)) rfl hQ
                            · rw [if_neg hc_14] at h
                              by_cases hc_15 : a0 = (118 : Int32)
                              · rw [if_pos hc_15] at h
                                refine az_E.sw hc_15 (pc' := 92) (L' := [.int a0]) (S' := []) (σ' := (97, I, J, R)) rfl ?_
                                refine az_E.sn 1 (pc' := 93) (L' := [.int a0]) (S' := [.int (-1 : Int32)]) (σ' := (97, I, J, R)) rfl ?_
                                have h := Option.some.inj h
                                subst h
                                exact az_E.ret (v := some (.int (-1 : Int32))) (σ' := (97, I, J, R)) rfl hQ
                              · rw [if_neg hc_15] at h
                                by_cases hc_16 : a0 = (119 : Int32)
                                · rw [if_pos hc_16] at h
                                  refine az_E.sw hc_16 (pc' := 88) (L' := [.int a0]) (S' := []) (σ' := (97, I, J, R)) rfl ?_
                                  refine az_E.sn 1 (pc' := 89) (L' := [.int a0]) (S' := [.int (4 : Int32)]) (σ' := (97, I, J, R)) rfl ?_
                                  have h := Option.some.inj h
                                  subst h
                                  exact az_E.ret (v := some (.int (4 : Int32))) (σ' := (97, I, J, R)) rfl hQ
                                · rw [if_neg hc_16] at h
                                  have ehc_1 := az_nei hc_1 (z := 104) (by decide)
                                  have ehc_2 := az_nei hc_2 (z := 105) (by decide)
                                  have ehc_3 := az_nei hc_3 (z := 106) (by decide)
                                  have ehc_4 := az_nei hc_4 (z := 107) (by decide)
                                  have ehc_5 := az_nei hc_5 (z := 108) (by decide)
                                  have ehc_6 := az_nei hc_6 (z := 109) (by decide)
                                  have ehc_7 := az_nei hc_7 (z := 110) (by decide)
                                  have ehc_8 := az_nei hc_8 (z := 111) (by decide)
                                  have ehc_9 := az_nei hc_9 (z := 112) (by decide)
                                  have ehc_10 := az_nei hc_10 (z := 113) (by decide)
                                  have ehc_11 := az_nei hc_11 (z := 114) (by decide)
                                  have ehc_12 := az_nei hc_12 (z := 115) (by decide)
                                  have ehc_13 := az_nei hc_13 (z := 116) (by decide)
                                  have ehc_14 := az_nei hc_14 (z := 117) (by decide)
                                  have ehc_15 := az_nei hc_15 (z := 118) (by decide)
                                  have ehc_16 := az_nei hc_16 (z := 119) (by decide)
                                  refine az_E.swd (a := 92) (lo := 104) (hi := 119) (offs := #[89, 91, 91, 81, 83, 91, 91, 91, 91, 91, 91, 85, 91, 79, 91, 87]) rfl (by omega) ?_
                                  refine az_E.sn 1 (pc' := 93) (L' := [.int a0]) (S' := [.int (-1 : Int32)]) (σ' := (97, I, J, R)) rfl ?_
                                  have h := Option.some.inj h
                                  subst h
                                  exact az_E.ret (v := some (.int (-1 : Int32))) (σ' := (97, I, J, R)) rfl hQ
set_option maxRecDepth 100000 in
set_option maxHeartbeats 4000000 in
theorem re_M_one_229 {rec : az_GT} {d : Nat} {ex : az_X} {I : Nat → Nat → Int32} {J : Nat → Nat → Int64} {R : Nat → Nat → Option Nat} {v3 : Int32} {v4 : Int32} (hg_179 : ∀ (b1 b2 b3 b4 : Int32) (I : Nat → Nat → Int32) (o : Int32 × (Nat → Nat → Int32)), rec 179 b1 b2 b3 b4 I = some o → ∀ {J : Nat → Nat → Int64} {R : Nat → Nat → Option Nat} {Q : Option Value → az_S → Prop}, Q (some (.int o.1)) (97, o.2, J, R) → az_E az_F ex d 179 0 [.ref 73, .retAddr 0, .retAddr 0] [] (97, I, J, R) Q) (hg_180 : ∀ (b1 b2 b3 b4 : Int32) (I : Nat → Nat → Int32) (o : Int32 × (Nat → Nat → Int32)), rec 180 b1 b2 b3 b4 I = some o → ∀ {J : Nat → Nat → Int64} {R : Nat → Nat → Option Nat} {Q : Option Value → az_S → Prop}, Q (some (.int o.1)) (97, o.2, J, R) → az_E az_F ex d 180 0 [.ref 73, .retAddr 0, .retAddr 0] [] (97, I, J, R) Q) (hg_181 : ∀ (b1 b2 b3 b4 : Int32) (I : Nat → Nat → Int32) (o : Int32 × (Nat → Nat → Int32)), rec 181 b1 b2 b3 b4 I = some o → ∀ {J : Nat → Nat → Int64} {R : Nat → Nat → Option Nat} {Q : Option Value → az_S → Prop}, Q (some (.int o.1)) (97, o.2, J, R) → az_E az_F ex d 181 0 [.ref 73, .retAddr 0, .retAddr 0, .retAddr 0] [] (97, I, J, R) Q) (hg_182 : ∀ (b1 b2 b3 b4 : Int32) (I : Nat → Nat → Int32) (o : Int32 × (Nat → Nat → Int32)), rec 182 b1 b2 b3 b4 I = some o → ∀ {J : Nat → Nat → Int64} {R : Nat → Nat → Option Nat} {Q : Option Value → az_S → Prop}, Q (some (.int o.1)) (97, o.2, J, R) → az_E az_F ex d 182 0 [.ref 73, .retAddr 0, .retAddr 0, .retAddr 0] [] (97, I, J, R) Q) (hg_183 : ∀ (b1 b2 b3 b4 : Int32) (I : Nat → Nat → Int32) (o : Int32 × (Nat → Nat → Int32)), rec 183 b1 b2 b3 b4 I = some o → ∀ {J : Nat → Nat → Int64} {R : Nat → Nat → Option Nat} {Q : Option Value → az_S → Prop}, Q (some (.int o.1)) (97, o.2, J, R) → az_E az_F ex d 183 0 [.ref 73, .retAddr 0, .retAddr 0, .retAddr 0] [] (97, I, J, R) Q) (hg_185 : ∀ (b1 b2 b3 b4 : Int32) (I : Nat → Nat → Int32) (o : Int32 × (Nat → Nat → Int32)), rec 185 b1 b2 b3 b4 I = some o → ∀ {J : Nat → Nat → Int64} {R : Nat → Nat → Option Nat} {Q : Option Value → az_S → Prop}, Q (some (.int o.1)) (97, o.2, J, R) → az_E az_F ex d 185 0 [.ref 73, .retAddr 0, .retAddr 0, .retAddr 0, .retAddr 0] [] (97, I, J, R) Q) {x : Int32 × (Nat → Nat → Int32)} (h : rs_M_one_229 rec I v3 v4 = some x) {Q : Option Value → az_S → Prop} (hQ : Q (some (.int x.1)) (97, x.2, J, R)) : az_E az_F ex (d + 2) 185 229 [.ref 73, .retAddr 0, .retAddr 0, .int v3, .int v4] [] (97, I, J, R) Q := by
  unfold rs_M_one_229 at h
  refine az_E.sn 1 (pc' := 231) (L' := [.ref 73, .retAddr 0, .retAddr 0, .int v3, .int v4]) (S' := [.int v4]) (σ' := (97, I, J, R)) rfl ?_
  refine az_E.br (c := v4 = 0) (tt := 234) (ff := 241) (L' := [.ref 73, .retAddr 0, .retAddr 0, .int v3, .int v4]) (S' := []) (σ' := (97, I, J, R)) rfl (fun hc_7 => ?_) (fun hc_7 => ?_)
  · rw [if_pos hc_7] at h
    refine az_E.sn 1 (pc' := 235) (L' := [.ref 73, .retAddr 0, .retAddr 0, .int v3, .int v4]) (S' := [.ref 73]) (σ' := (97, I, J, R)) rfl ?_
    cases hx_10 : rs_M_wrong I with
    | none => rw [hx_10] at h; cases h
    | some o =>
      rw [hx_10] at h
      obtain ⟨x_8, I_9⟩ := o
      dsimp only at h
      refine az_E.call (d := (d + 1)) (k' := 177) (vs := [.ref 73]) (pc' := 238) (S' := []) (Q1 := fun v s => v = some (.int x_8) ∧ s = (97, I_9, J, R)) rfl (az_E.deep (by omega) (re_M_wrong (J := J) (R := R)  hx_10 ⟨rfl, rfl⟩)) (fun v s hq => ?_)
      obtain ⟨rfl, rfl⟩ := hq
      show az_E az_F ex (d + 2) 185 238 [.ref 73, .retAddr 0, .retAddr 0, .int v3, .int v4] [.int x_8] (97, I_9, J, R) _
      refine az_E.sn 1 (pc' := 242) (L' := [.ref 73, .retAddr 0, .retAddr 0, .int v3, .int v4]) (S' := [.int x_8]) (σ' := (97, I_9, J, R)) rfl ?_
      have h := Option.some.inj h
      subst h
      exact az_E.ret (v := some (.int x_8)) (σ' := (97, I_9, J, R)) rfl hQ
  · rw [if_neg hc_7] at h
    refine az_E.sn 1 (pc' := 242) (L' := [.ref 73, .retAddr 0, .retAddr 0, .int v3, .int v4]) (S' := [.int v3]) (σ' := (97, I, J, R)) rfl ?_
    have h := Option.some.inj h
    subst h
    exact az_E.ret (v := some (.int v3)) (σ' := (97, I, J, R)) rfl hQ
set_option maxRecDepth 100000 in
set_option maxHeartbeats 4000000 in
theorem re_M_one_176_b {rec : az_GT} {d : Nat} {ex : az_X} {I : Nat → Nat → Int32} {J : Nat → Nat → Int64} {R : Nat → Nat → Option Nat} {v3 : Int32} {v4 : Int32} (hg_179 : ∀ (b1 b2 b3 b4 : Int32) (I : Nat → Nat → Int32) (o : Int32 × (Nat → Nat → Int32)), rec 179 b1 b2 b3 b4 I = some o → ∀ {J : Nat → Nat → Int64} {R : Nat → Nat → Option Nat} {Q : Option Value → az_S → Prop}, Q (some (.int o.1)) (97, o.2, J, R) → az_E az_F ex d 179 0 [.ref 73, .retAddr 0, .retAddr 0] [] (97, I, J, R) Q) (hg_180 : ∀ (b1 b2 b3 b4 : Int32) (I : Nat → Nat → Int32) (o : Int32 × (Nat → Nat → Int32)), rec 180 b1 b2 b3 b4 I = some o → ∀ {J : Nat → Nat → Int64} {R : Nat → Nat → Option Nat} {Q : Option Value → az_S → Prop}, Q (some (.int o.1)) (97, o.2, J, R) → az_E az_F ex d 180 0 [.ref 73, .retAddr 0, .retAddr 0] [] (97, I, J, R) Q) (hg_181 : ∀ (b1 b2 b3 b4 : Int32) (I : Nat → Nat → Int32) (o : Int32 × (Nat → Nat → Int32)), rec 181 b1 b2 b3 b4 I = some o → ∀ {J : Nat → Nat → Int64} {R : Nat → Nat → Option Nat} {Q : Option Value → az_S → Prop}, Q (some (.int o.1)) (97, o.2, J, R) → az_E az_F ex d 181 0 [.ref 73, .retAddr 0, .retAddr 0, .retAddr 0] [] (97, I, J, R) Q) (hg_182 : ∀ (b1 b2 b3 b4 : Int32) (I : Nat → Nat → Int32) (o : Int32 × (Nat → Nat → Int32)), rec 182 b1 b2 b3 b4 I = some o → ∀ {J : Nat → Nat → Int64} {R : Nat → Nat → Option Nat} {Q : Option Value → az_S → Prop}, Q (some (.int o.1)) (97, o.2, J, R) → az_E az_F ex d 182 0 [.ref 73, .retAddr 0, .retAddr 0, .retAddr 0] [] (97, I, J, R) Q) (hg_183 : ∀ (b1 b2 b3 b4 : Int32) (I : Nat → Nat → Int32) (o : Int32 × (Nat → Nat → Int32)), rec 183 b1 b2 b3 b4 I = some o → ∀ {J : Nat → Nat → Int64} {R : Nat → Nat → Option Nat} {Q : Option Value → az_S → Prop}, Q (some (.int o.1)) (97, o.2, J, R) → az_E az_F ex d 183 0 [.ref 73, .retAddr 0, .retAddr 0, .retAddr 0] [] (97, I, J, R) Q) (hg_185 : ∀ (b1 b2 b3 b4 : Int32) (I : Nat → Nat → Int32) (o : Int32 × (Nat → Nat → Int32)), rec 185 b1 b2 b3 b4 I = some o → ∀ {J : Nat → Nat → Int64} {R : Nat → Nat → Option Nat} {Q : Option Value → az_S → Prop}, Q (some (.int o.1)) (97, o.2, J, R) → az_E az_F ex d 185 0 [.ref 73, .retAddr 0, .retAddr 0, .retAddr 0, .retAddr 0] [] (97, I, J, R) Q) {x : ((Int32 × Int32 × (Nat → Nat → Int32)) ⊕ (Int32 × (Nat → Nat → Int32)))} (h : rs_M_one_176_b rec v3 v4 I = some x) {Q : Option Value → az_S → Prop} (hQ : Sum.elim (fun s => az_E az_F ex (d + 2) 185 176 [.ref 73, .retAddr 0, .retAddr 0, .int s.1, .int s.2.1] [] (97, s.2.2, J, R) Q) (fun x => Q (some (.int x.1)) (97, x.2, J, R)) x) : az_E az_F ex (d + 2) 185 176 [.ref 73, .retAddr 0, .retAddr 0, .int v3, .int v4] [] (97, I, J, R) Q := by
  unfold rs_M_one_176_b at h
  refine az_E.sn 2 (pc' := 179) (L' := [.ref 73, .retAddr 0, .retAddr 0, .int v3, .int v4]) (S' := [.int (4 : Int32), .int v4]) (σ' := (97, I, J, R)) rfl ?_
  refine az_E.br (c := (4 : Int32) ≤ v4) (tt := 229) (ff := 182) (L' := [.ref 73, .retAddr 0, .retAddr 0, .int v3, .int v4]) (S' := []) (σ' := (97, I, J, R)) rfl (fun hc_6 => ?_) (fun hc_6 => ?_)
  · rw [if_pos hc_6] at h
    obtain ⟨x, hx, rfl⟩ := Option.map_eq_some_iff.mp h
    exact az_E.forget (L := [.ref 73, .retAddr 0, .retAddr 0, .int v3, .int v4]) ⟨rfl, trivial, trivial, rfl, rfl, trivial⟩ (re_M_one_229 (I := I) (J := J) (R := R) hg_179 hg_180 hg_181 hg_182 hg_183 hg_185 hx hQ)
  · rw [if_neg hc_6] at h
    refine az_E.sn 1 (pc' := 183) (L' := [.ref 73, .retAddr 0, .retAddr 0, .int v3, .int v4]) (S' := [.ref 73]) (σ' := (97, I, J, R)) rfl ?_
    refine az_E.call (d := (d + 1)) (k' := 176) (vs := [.ref 73]) (pc' := 186) (S' := []) rfl ?_ (fun _ _ hq => hq)
    show az_E az_F ex (d + 1) 176 0 [.ref 73] [] (97, I, J, R) _
    refine az_E.sn 4 (pc' := 8) (L' := [.ref 73]) (S' := [.int (I 73 16), .int (I 73 15)]) (σ' := (97, I, J, R)) rfl ?_
    refine az_E.br (c := (I 73 16) ≤ (I 73 15)) (tt := 47) (ff := 11) (L' := [.ref 73]) (S' := []) (σ' := (97, I, J, R)) rfl (fun hc_11 => ?_) (fun hc_11 => ?_)
    · rw [if_pos hc_11] at h
      refine az_E.sn 1 (pc' := 48) (L' := [.ref 73]) (S' := [.int (0 : Int32)]) (σ' := (97, I, J, R)) rfl ?_
      refine az_E.ret (v := some (.int (0 : Int32))) (σ' := (97, I, J, R)) rfl ?_
      show az_E az_F ex (d + 2) 185 186 [.ref 73, .retAddr 0, .retAddr 0, .int v3, .int v4] [.int (0 : Int32)] (97, I, J, R) _
      refine az_E.sn 1 (pc' := 188) (L' := [.ref 73, .retAddr 0, .retAddr 0, .int v3, .int v4]) (S' := [.int (48 : Int32), .int (0 : Int32)]) (σ' := (97, I, J, R)) rfl ?_
      refine az_E.br (c := (0 : Int32) < (48 : Int32)) (tt := 229) (ff := 191) (L' := [.ref 73, .retAddr 0, .retAddr 0, .int v3, .int v4]) (S' := []) (σ' := (97, I, J, R)) rfl (fun _ => ?_) (fun hn => absurd (by decide) hn)
      obtain ⟨x, hx, rfl⟩ := Option.map_eq_some_iff.mp h
      exact az_E.forget (L := [.ref 73, .retAddr 0, .retAddr 0, .int v3, .int v4]) ⟨rfl, trivial, trivial, rfl, rfl, trivial⟩ (re_M_one_229 (I := I) (J := J) (R := R) hg_179 hg_180 hg_181 hg_182 hg_183 hg_185 hx hQ)
    · rw [if_neg hc_11] at h
      refine az_E.sn 2 (pc' := 15) (L' := [.ref 73]) (S' := [.int (I 73 14)]) (σ' := (97, I, J, R)) rfl ?_
      refine az_E.br (c := 0 ≤ (I 73 14)) (tt := 30) (ff := 18) (L' := [.ref 73]) (S' := []) (σ' := (97, I, J, R)) rfl (fun hc_12 => ?_) (fun hc_12 => ?_)
      · rw [if_pos hc_12] at h
        refine az_E.sn 7 (pc' := 43) (L' := [.ref 73]) (S' := [.int ((I 73 14) + (I 73 15)), .ref 81]) (σ' := (97, I, J, R)) rfl ?_
        by_cases hc_13 : ((I 73 14) + (I 73 15)) < 0 ∨ 120 ≤ ((I 73 14) + (I 73 15)).toNatClampNeg
        · rw [if_pos hc_13] at h; cases h
        · rw [if_neg hc_13] at h
          refine az_E.oi (o := az_ai az_F ex (97, I, J, R) 81 ((I 73 14) + (I 73 15))) (pc' := 44) (L' := [.ref 73]) (S' := []) (σ' := (97, I, J, R)) (x := (I 81 ((I 73 14) + (I 73 15)).toNatClampNeg)) rfl (if_neg hc_13) ?_
          refine az_E.sn 1 (pc' := 48) (L' := [.ref 73]) (S' := [.int (I 81 ((I 73 14) + (I 73 15)).toNatClampNeg)]) (σ' := (97, I, J, R)) rfl ?_
          refine az_E.ret (v := some (.int (I 81 ((I 73 14) + (I 73 15)).toNatClampNeg))) (σ' := (97, I, J, R)) rfl ?_
          show az_E az_F ex (d + 2) 185 186 [.ref 73, .retAddr 0, .retAddr 0, .int v3, .int v4] [.int (I 81 ((I 73 14) + (I 73 15)).toNatClampNeg)] (97, I, J, R) _
          refine az_E.sn 1 (pc' := 188) (L' := [.ref 73, .retAddr 0, .retAddr 0, .int v3, .int v4]) (S' := [.int (48 : Int32), .int (I 81 ((I 73 14) + (I 73 15)).toNatClampNeg)]) (σ' := (97, I, J, R)) rfl ?_
          refine az_E.br (c := (I 81 ((I 73 14) + (I 73 15)).toNatClampNeg) < (48 : Int32)) (tt := 229) (ff := 191) (L' := [.ref 73, .retAddr 0, .retAddr 0, .int v3, .int v4]) (S' := []) (σ' := (97, I, J, R)) rfl (fun hc_14 => ?_) (fun hc_14 => ?_)
          · rw [if_pos hc_14] at h
            obtain ⟨x, hx, rfl⟩ := Option.map_eq_some_iff.mp h
            exact az_E.forget (L := [.ref 73, .retAddr 0, .retAddr 0, .int v3, .int v4]) ⟨rfl, trivial, trivial, rfl, rfl, trivial⟩ (re_M_one_229 (I := I) (J := J) (R := R) hg_179 hg_180 hg_181 hg_182 hg_183 hg_185 hx hQ)
          · rw [if_neg hc_14] at h
            refine az_E.sn 1 (pc' := 192) (L' := [.ref 73, .retAddr 0, .retAddr 0, .int v3, .int v4]) (S' := [.ref 73]) (σ' := (97, I, J, R)) rfl ?_
            refine az_E.call (d := (d + 1)) (k' := 176) (vs := [.ref 73]) (pc' := 195) (S' := []) rfl ?_ (fun _ _ hq => hq)
            show az_E az_F ex (d + 1) 176 0 [.ref 73] [] (97, I, J, R) _
            refine az_E.sn 4 (pc' := 8) (L' := [.ref 73]) (S' := [.int (I 73 16), .int (I 73 15)]) (σ' := (97, I, J, R)) rfl ?_
            refine az_E.br (c := (I 73 16) ≤ (I 73 15)) (tt := 47) (ff := 11) (L' := [.ref 73]) (S' := []) (σ' := (97, I, J, R)) rfl (fun hc_15 => ?_) (fun hc_15 => ?_)
            · rw [if_pos hc_15] at h
              refine az_E.sn 1 (pc' := 48) (L' := [.ref 73]) (S' := [.int (0 : Int32)]) (σ' := (97, I, J, R)) rfl ?_
              refine az_E.ret (v := some (.int (0 : Int32))) (σ' := (97, I, J, R)) rfl ?_
              show az_E az_F ex (d + 2) 185 195 [.ref 73, .retAddr 0, .retAddr 0, .int v3, .int v4] [.int (0 : Int32)] (97, I, J, R) _
              refine az_E.sn 1 (pc' := 197) (L' := [.ref 73, .retAddr 0, .retAddr 0, .int v3, .int v4]) (S' := [.int (57 : Int32), .int (0 : Int32)]) (σ' := (97, I, J, R)) rfl ?_
              refine az_E.br (c := (57 : Int32) < (0 : Int32)) (tt := 229) (ff := 200) (L' := [.ref 73, .retAddr 0, .retAddr 0, .int v3, .int v4]) (S' := []) (σ' := (97, I, J, R)) rfl (fun hn => absurd hn (by decide)) (fun _ => ?_)
              refine az_E.sn 4 (pc' := 205) (L' := [.ref 73, .retAddr 0, .retAddr 0, .int v3, .int v4]) (S' := [.ref 73, .int ((10 : Int32) * v3)]) (σ' := (97, I, J, R)) rfl ?_
              refine az_E.call (d := (d + 1)) (k' := 176) (vs := [.ref 73]) (pc' := 208) (S' := [.int ((10 : Int32) * v3)]) rfl ?_ (fun _ _ hq => hq)
              show az_E az_F ex (d + 1) 176 0 [.ref 73] [] (97, I, J, R) _
              refine az_E.sn 4 (pc' := 8) (L' := [.ref 73]) (S' := [.int (I 73 16), .int (I 73 15)]) (σ' := (97, I, J, R)) rfl ?_
              refine az_E.br (c := (I 73 16) ≤ (I 73 15)) (tt := 47) (ff := 11) (L' := [.ref 73]) (S' := []) (σ' := (97, I, J, R)) rfl (fun hc_16 => ?_) (fun hc_16 => ?_)
              · rw [if_pos hc_16] at h
                refine az_E.sn 1 (pc' := 48) (L' := [.ref 73]) (S' := [.int (0 : Int32)]) (σ' := (97, I, J, R)) rfl ?_
                refine az_E.ret (v := some (.int (0 : Int32))) (σ' := (97, I, J, R)) rfl ?_
                show az_E az_F ex (d + 2) 185 208 [.ref 73, .retAddr 0, .retAddr 0, .int v3, .int v4] [.int (0 : Int32), .int ((10 : Int32) * v3)] (97, I, J, R) _
                refine az_E.sn 12 (pc' := 176) (L' := [.ref 73, .retAddr 0, .retAddr 0, .int ((((10 : Int32) * v3) + (0 : Int32)) - (48 : Int32)), .int (v4 + (1 : Int32))]) (S' := []) (σ' := (97, (az_u I 73 15 ((I 73 15) + (1 : Int32))), J, R)) rfl ?_
                have h := Option.some.inj h
                subst h
                exact az_E.forget (L := [.ref 73, .retAddr 0, .retAddr 0, .int ((((10 : Int32) * v3) + (0 : Int32)) - (48 : Int32)), .int (v4 + (1 : Int32))]) ⟨rfl, trivial, trivial, rfl, rfl, trivial⟩ hQ
              · rw [if_neg hc_16] at h
                refine az_E.sn 2 (pc' := 15) (L' := [.ref 73]) (S' := [.int (I 73 14)]) (σ' := (97, I, J, R)) rfl ?_
                refine az_E.br (c := 0 ≤ (I 73 14)) (tt := 30) (ff := 18) (L' := [.ref 73]) (S' := []) (σ' := (97, I, J, R)) rfl (fun hc_17 => ?_) (fun hc_17 => ?_)
                · rw [if_pos hc_17] at h
                  refine az_E.sn 7 (pc' := 43) (L' := [.ref 73]) (S' := [.int ((I 73 14) + (I 73 15)), .ref 81]) (σ' := (97, I, J, R)) rfl ?_
                  by_cases hc_18 : ((I 73 14) + (I 73 15)) < 0 ∨ 120 ≤ ((I 73 14) + (I 73 15)).toNatClampNeg
                  · rw [if_pos hc_18] at h; cases h
                  · rw [if_neg hc_18] at h
                    refine az_E.oi (o := az_ai az_F ex (97, I, J, R) 81 ((I 73 14) + (I 73 15))) (pc' := 44) (L' := [.ref 73]) (S' := []) (σ' := (97, I, J, R)) (x := (I 81 ((I 73 14) + (I 73 15)).toNatClampNeg)) rfl (if_neg hc_18) ?_
                    refine az_E.sn 1 (pc' := 48) (L' := [.ref 73]) (S' := [.int (I 81 ((I 73 14) + (I 73 15)).toNatClampNeg)]) (σ' := (97, I, J, R)) rfl ?_
                    refine az_E.ret (v := some (.int (I 81 ((I 73 14) + (I 73 15)).toNatClampNeg))) (σ' := (97, I, J, R)) rfl ?_
                    show az_E az_F ex (d + 2) 185 208 [.ref 73, .retAddr 0, .retAddr 0, .int v3, .int v4] [.int (I 81 ((I 73 14) + (I 73 15)).toNatClampNeg), .int ((10 : Int32) * v3)] (97, I, J, R) _
                    refine az_E.sn 12 (pc' := 176) (L' := [.ref 73, .retAddr 0, .retAddr 0, .int ((((10 : Int32) * v3) + (I 81 ((I 73 14) + (I 73 15)).toNatClampNeg)) - (48 : Int32)), .int (v4 + (1 : Int32))]) (S' := []) (σ' := (97, (az_u I 73 15 ((I 73 15) + (1 : Int32))), J, R)) rfl ?_
                    have h := Option.some.inj h
                    subst h
                    exact az_E.forget (L := [.ref 73, .retAddr 0, .retAddr 0, .int ((((10 : Int32) * v3) + (I 81 ((I 73 14) + (I 73 15)).toNatClampNeg)) - (48 : Int32)), .int (v4 + (1 : Int32))]) ⟨rfl, trivial, trivial, rfl, rfl, trivial⟩ hQ
                · rw [if_neg hc_17] at h
                  refine az_E.sn 4 (pc' := 26) (L' := [.ref 73]) (S' := [.int (I 73 15), .ref 80]) (σ' := (97, I, J, R)) rfl ?_
                  by_cases hc_19 : (I 73 15) < 0 ∨ 120 ≤ (I 73 15).toNatClampNeg
                  · rw [if_pos hc_19] at h; cases h
                  · rw [if_neg hc_19] at h
                    refine az_E.oi (o := az_ai az_F ex (97, I, J, R) 80 (I 73 15)) (pc' := 27) (L' := [.ref 73]) (S' := []) (σ' := (97, I, J, R)) (x := (I 80 (I 73 15).toNatClampNeg)) rfl (if_neg hc_19) ?_
                    refine az_E.sn 1 (pc' := 48) (L' := [.ref 73]) (S' := [.int (I 80 (I 73 15).toNatClampNeg)]) (σ' := (97, I, J, R)) rfl ?_
                    refine az_E.ret (v := some (.int (I 80 (I 73 15).toNatClampNeg))) (σ' := (97, I, J, R)) rfl ?_
                    show az_E az_F ex (d + 2) 185 208 [.ref 73, .retAddr 0, .retAddr 0, .int v3, .int v4] [.int (I 80 (I 73 15).toNatClampNeg), .int ((10 : Int32) * v3)] (97, I, J, R) _
                    refine az_E.sn 12 (pc' := 176) (L' := [.ref 73, .retAddr 0, .retAddr 0, .int ((((10 : Int32) * v3) + (I 80 (I 73 15).toNatClampNeg)) - (48 : Int32)), .int (v4 + (1 : Int32))]) (S' := []) (σ' := (97, (az_u I 73 15 ((I 73 15) + (1 : Int32))), J, R)) rfl ?_
                    have h := Option.some.inj h
                    subst h
                    exact az_E.forget (L := [.ref 73, .retAddr 0, .retAddr 0, .int ((((10 : Int32) * v3) + (I 80 (I 73 15).toNatClampNeg)) - (48 : Int32)), .int (v4 + (1 : Int32))]) ⟨rfl, trivial, trivial, rfl, rfl, trivial⟩ hQ
            · rw [if_neg hc_15] at h
              refine az_E.sn 2 (pc' := 15) (L' := [.ref 73]) (S' := [.int (I 73 14)]) (σ' := (97, I, J, R)) rfl ?_
              refine az_E.br (c := 0 ≤ (I 73 14)) (tt := 30) (ff := 18) (L' := [.ref 73]) (S' := []) (σ' := (97, I, J, R)) rfl (fun hc_20 => ?_) (fun hc_20 => ?_)
              · rw [if_pos hc_20] at h
                refine az_E.sn 7 (pc' := 43) (L' := [.ref 73]) (S' := [.int ((I 73 14) + (I 73 15)), .ref 81]) (σ' := (97, I, J, R)) rfl ?_
                by_cases hc_21 : ((I 73 14) + (I 73 15)) < 0 ∨ 120 ≤ ((I 73 14) + (I 73 15)).toNatClampNeg
                · rw [if_pos hc_21] at h; cases h
                · rw [if_neg hc_21] at h
                  refine az_E.oi (o := az_ai az_F ex (97, I, J, R) 81 ((I 73 14) + (I 73 15))) (pc' := 44) (L' := [.ref 73]) (S' := []) (σ' := (97, I, J, R)) (x := (I 81 ((I 73 14) + (I 73 15)).toNatClampNeg)) rfl (if_neg hc_21) ?_
                  refine az_E.sn 1 (pc' := 48) (L' := [.ref 73]) (S' := [.int (I 81 ((I 73 14) + (I 73 15)).toNatClampNeg)]) (σ' := (97, I, J, R)) rfl ?_
                  refine az_E.ret (v := some (.int (I 81 ((I 73 14) + (I 73 15)).toNatClampNeg))) (σ' := (97, I, J, R)) rfl ?_
                  show az_E az_F ex (d + 2) 185 195 [.ref 73, .retAddr 0, .retAddr 0, .int v3, .int v4] [.int (I 81 ((I 73 14) + (I 73 15)).toNatClampNeg)] (97, I, J, R) _
                  refine az_E.sn 1 (pc' := 197) (L' := [.ref 73, .retAddr 0, .retAddr 0, .int v3, .int v4]) (S' := [.int (57 : Int32), .int (I 81 ((I 73 14) + (I 73 15)).toNatClampNeg)]) (σ' := (97, I, J, R)) rfl ?_
                  refine az_E.br (c := (57 : Int32) < (I 81 ((I 73 14) + (I 73 15)).toNatClampNeg)) (tt := 229) (ff := 200) (L' := [.ref 73, .retAddr 0, .retAddr 0, .int v3, .int v4]) (S' := []) (σ' := (97, I, J, R)) rfl (fun hc_22 => ?_) (fun hc_22 => ?_)
                  · rw [if_pos hc_22] at h
                    obtain ⟨x, hx, rfl⟩ := Option.map_eq_some_iff.mp h
                    exact az_E.forget (L := [.ref 73, .retAddr 0, .retAddr 0, .int v3, .int v4]) ⟨rfl, trivial, trivial, rfl, rfl, trivial⟩ (re_M_one_229 (I := I) (J := J) (R := R) hg_179 hg_180 hg_181 hg_182 hg_183 hg_185 hx hQ)
                  · rw [if_neg hc_22] at h
                    refine az_E.sn 4 (pc' := 205) (L' := [.ref 73, .retAddr 0, .retAddr 0, .int v3, .int v4]) (S' := [.ref 73, .int ((10 : Int32) * v3)]) (σ' := (97, I, J, R)) rfl ?_
                    refine az_E.call (d := (d + 1)) (k' := 176) (vs := [.ref 73]) (pc' := 208) (S' := [.int ((10 : Int32) * v3)]) rfl ?_ (fun _ _ hq => hq)
                    show az_E az_F ex (d + 1) 176 0 [.ref 73] [] (97, I, J, R) _
                    refine az_E.sn 4 (pc' := 8) (L' := [.ref 73]) (S' := [.int (I 73 16), .int (I 73 15)]) (σ' := (97, I, J, R)) rfl ?_
                    refine az_E.br (c := (I 73 16) ≤ (I 73 15)) (tt := 47) (ff := 11) (L' := [.ref 73]) (S' := []) (σ' := (97, I, J, R)) rfl (fun hc_23 => ?_) (fun hc_23 => ?_)
                    · rw [if_pos hc_23] at h
                      refine az_E.sn 1 (pc' := 48) (L' := [.ref 73]) (S' := [.int (0 : Int32)]) (σ' := (97, I, J, R)) rfl ?_
                      refine az_E.ret (v := some (.int (0 : Int32))) (σ' := (97, I, J, R)) rfl ?_
                      show az_E az_F ex (d + 2) 185 208 [.ref 73, .retAddr 0, .retAddr 0, .int v3, .int v4] [.int (0 : Int32), .int ((10 : Int32) * v3)] (97, I, J, R) _
                      refine az_E.sn 12 (pc' := 176) (L' := [.ref 73, .retAddr 0, .retAddr 0, .int ((((10 : Int32) * v3) + (0 : Int32)) - (48 : Int32)), .int (v4 + (1 : Int32))]) (S' := []) (σ' := (97, (az_u I 73 15 ((I 73 15) + (1 : Int32))), J, R)) rfl ?_
                      have h := Option.some.inj h
                      subst h
                      exact az_E.forget (L := [.ref 73, .retAddr 0, .retAddr 0, .int ((((10 : Int32) * v3) + (0 : Int32)) - (48 : Int32)), .int (v4 + (1 : Int32))]) ⟨rfl, trivial, trivial, rfl, rfl, trivial⟩ hQ
                    · rw [if_neg hc_23] at h
                      refine az_E.sn 2 (pc' := 15) (L' := [.ref 73]) (S' := [.int (I 73 14)]) (σ' := (97, I, J, R)) rfl ?_
                      refine az_E.br (c := 0 ≤ (I 73 14)) (tt := 30) (ff := 18) (L' := [.ref 73]) (S' := []) (σ' := (97, I, J, R)) rfl (fun hc_24 => ?_) (fun hc_24 => ?_)
                      · rw [if_pos hc_24] at h
                        refine az_E.sn 7 (pc' := 43) (L' := [.ref 73]) (S' := [.int ((I 73 14) + (I 73 15)), .ref 81]) (σ' := (97, I, J, R)) rfl ?_
                        by_cases hc_25 : ((I 73 14) + (I 73 15)) < 0 ∨ 120 ≤ ((I 73 14) + (I 73 15)).toNatClampNeg
                        · rw [if_pos hc_25] at h; cases h
                        · rw [if_neg hc_25] at h
                          refine az_E.oi (o := az_ai az_F ex (97, I, J, R) 81 ((I 73 14) + (I 73 15))) (pc' := 44) (L' := [.ref 73]) (S' := []) (σ' := (97, I, J, R)) (x := (I 81 ((I 73 14) + (I 73 15)).toNatClampNeg)) rfl (if_neg hc_25) ?_
                          refine az_E.sn 1 (pc' := 48) (L' := [.ref 73]) (S' := [.int (I 81 ((I 73 14) + (I 73 15)).toNatClampNeg)]) (σ' := (97, I, J, R)) rfl ?_
                          refine az_E.ret (v := some (.int (I 81 ((I 73 14) + (I 73 15)).toNatClampNeg))) (σ' := (97, I, J, R)) rfl ?_
                          show az_E az_F ex (d + 2) 185 208 [.ref 73, .retAddr 0, .retAddr 0, .int v3, .int v4] [.int (I 81 ((I 73 14) + (I 73 15)).toNatClampNeg), .int ((10 : Int32) * v3)] (97, I, J, R) _
                          refine az_E.sn 12 (pc' := 176) (L' := [.ref 73, .retAddr 0, .retAddr 0, .int ((((10 : Int32) * v3) + (I 81 ((I 73 14) + (I 73 15)).toNatClampNeg)) - (48 : Int32)), .int (v4 + (1 : Int32))]) (S' := []) (σ' := (97, (az_u I 73 15 ((I 73 15) + (1 : Int32))), J, R)) rfl ?_
                          have h := Option.some.inj h
                          subst h
                          exact az_E.forget (L := [.ref 73, .retAddr 0, .retAddr 0, .int ((((10 : Int32) * v3) + (I 81 ((I 73 14) + (I 73 15)).toNatClampNeg)) - (48 : Int32)), .int (v4 + (1 : Int32))]) ⟨rfl, trivial, trivial, rfl, rfl, trivial⟩ hQ
                      · rw [if_neg hc_24] at h
                        refine az_E.sn 4 (pc' := 26) (L' := [.ref 73]) (S' := [.int (I 73 15), .ref 80]) (σ' := (97, I, J, R)) rfl ?_
                        by_cases hc_26 : (I 73 15) < 0 ∨ 120 ≤ (I 73 15).toNatClampNeg
                        · rw [if_pos hc_26] at h; cases h
                        · rw [if_neg hc_26] at h
                          refine az_E.oi (o := az_ai az_F ex (97, I, J, R) 80 (I 73 15)) (pc' := 27) (L' := [.ref 73]) (S' := []) (σ' := (97, I, J, R)) (x := (I 80 (I 73 15).toNatClampNeg)) rfl (if_neg hc_26) ?_
                          refine az_E.sn 1 (pc' := 48) (L' := [.ref 73]) (S' := [.int (I 80 (I 73 15).toNatClampNeg)]) (σ' := (97, I, J, R)) rfl ?_
                          refine az_E.ret (v := some (.int (I 80 (I 73 15).toNatClampNeg))) (σ' := (97, I, J, R)) rfl ?_
                          show az_E az_F ex (d + 2) 185 208 [.ref 73, .retAddr 0, .retAddr 0, .int v3, .int v4] [.int (I 80 (I 73 15).toNatClampNeg), .int ((10 : Int32) * v3)] (97, I, J, R) _
                          refine az_E.sn 12 (pc' := 176) (L' := [.ref 73, .retAddr 0, .retAddr 0, .int ((((10 : Int32) * v3) + (I 80 (I 73 15).toNatClampNeg)) - (48 : Int32)), .int (v4 + (1 : Int32))]) (S' := []) (σ' := (97, (az_u I 73 15 ((I 73 15) + (1 : Int32))), J, R)) rfl ?_
                          have h := Option.some.inj h
                          subst h
                          exact az_E.forget (L := [.ref 73, .retAddr 0, .retAddr 0, .int ((((10 : Int32) * v3) + (I 80 (I 73 15).toNatClampNeg)) - (48 : Int32)), .int (v4 + (1 : Int32))]) ⟨rfl, trivial, trivial, rfl, rfl, trivial⟩ hQ
              · rw [if_neg hc_20] at h
                refine az_E.sn 4 (pc' := 26) (L' := [.ref 73]) (S' := [.int (I 73 15), .ref 80]) (σ' := (97, I, J, R)) rfl ?_
                by_cases hc_27 : (I 73 15) < 0 ∨ 120 ≤ (I 73 15).toNatClampNeg
                · rw [if_pos hc_27] at h; cases h
                · rw [if_neg hc_27] at h
                  refine az_E.oi (o := az_ai az_F ex (97, I, J, R) 80 (I 73 15)) (pc' := 27) (L' := [.ref 73]) (S' := []) (σ' := (97, I, J, R)) (x := (I 80 (I 73 15).toNatClampNeg)) rfl (if_neg hc_27) ?_
                  refine az_E.sn 1 (pc' := 48) (L' := [.ref 73]) (S' := [.int (I 80 (I 73 15).toNatClampNeg)]) (σ' := (97, I, J, R)) rfl ?_
                  refine az_E.ret (v := some (.int (I 80 (I 73 15).toNatClampNeg))) (σ' := (97, I, J, R)) rfl ?_
                  show az_E az_F ex (d + 2) 185 195 [.ref 73, .retAddr 0, .retAddr 0, .int v3, .int v4] [.int (I 80 (I 73 15).toNatClampNeg)] (97, I, J, R) _
                  refine az_E.sn 1 (pc' := 197) (L' := [.ref 73, .retAddr 0, .retAddr 0, .int v3, .int v4]) (S' := [.int (57 : Int32), .int (I 80 (I 73 15).toNatClampNeg)]) (σ' := (97, I, J, R)) rfl ?_
                  refine az_E.br (c := (57 : Int32) < (I 80 (I 73 15).toNatClampNeg)) (tt := 229) (ff := 200) (L' := [.ref 73, .retAddr 0, .retAddr 0, .int v3, .int v4]) (S' := []) (σ' := (97, I, J, R)) rfl (fun hc_28 => ?_) (fun hc_28 => ?_)
                  · rw [if_pos hc_28] at h
                    obtain ⟨x, hx, rfl⟩ := Option.map_eq_some_iff.mp h
                    exact az_E.forget (L := [.ref 73, .retAddr 0, .retAddr 0, .int v3, .int v4]) ⟨rfl, trivial, trivial, rfl, rfl, trivial⟩ (re_M_one_229 (I := I) (J := J) (R := R) hg_179 hg_180 hg_181 hg_182 hg_183 hg_185 hx hQ)
                  · rw [if_neg hc_28] at h
                    refine az_E.sn 4 (pc' := 205) (L' := [.ref 73, .retAddr 0, .retAddr 0, .int v3, .int v4]) (S' := [.ref 73, .int ((10 : Int32) * v3)]) (σ' := (97, I, J, R)) rfl ?_
                    refine az_E.call (d := (d + 1)) (k' := 176) (vs := [.ref 73]) (pc' := 208) (S' := [.int ((10 : Int32) * v3)]) rfl ?_ (fun _ _ hq => hq)
                    show az_E az_F ex (d + 1) 176 0 [.ref 73] [] (97, I, J, R) _
                    refine az_E.sn 4 (pc' := 8) (L' := [.ref 73]) (S' := [.int (I 73 16), .int (I 73 15)]) (σ' := (97, I, J, R)) rfl ?_
                    refine az_E.br (c := (I 73 16) ≤ (I 73 15)) (tt := 47) (ff := 11) (L' := [.ref 73]) (S' := []) (σ' := (97, I, J, R)) rfl (fun hc_29 => ?_) (fun hc_29 => ?_)
                    · rw [if_pos hc_29] at h
                      refine az_E.sn 1 (pc' := 48) (L' := [.ref 73]) (S' := [.int (0 : Int32)]) (σ' := (97, I, J, R)) rfl ?_
                      refine az_E.ret (v := some (.int (0 : Int32))) (σ' := (97, I, J, R)) rfl ?_
                      show az_E az_F ex (d + 2) 185 208 [.ref 73, .retAddr 0, .retAddr 0, .int v3, .int v4] [.int (0 : Int32), .int ((10 : Int32) * v3)] (97, I, J, R) _
                      refine az_E.sn 12 (pc' := 176) (L' := [.ref 73, .retAddr 0, .retAddr 0, .int ((((10 : Int32) * v3) + (0 : Int32)) - (48 : Int32)), .int (v4 + (1 : Int32))]) (S' := []) (σ' := (97, (az_u I 73 15 ((I 73 15) + (1 : Int32))), J, R)) rfl ?_
                      have h := Option.some.inj h
                      subst h
                      exact az_E.forget (L := [.ref 73, .retAddr 0, .retAddr 0, .int ((((10 : Int32) * v3) + (0 : Int32)) - (48 : Int32)), .int (v4 + (1 : Int32))]) ⟨rfl, trivial, trivial, rfl, rfl, trivial⟩ hQ
                    · rw [if_neg hc_29] at h
                      refine az_E.sn 2 (pc' := 15) (L' := [.ref 73]) (S' := [.int (I 73 14)]) (σ' := (97, I, J, R)) rfl ?_
                      refine az_E.br (c := 0 ≤ (I 73 14)) (tt := 30) (ff := 18) (L' := [.ref 73]) (S' := []) (σ' := (97, I, J, R)) rfl (fun hc_30 => ?_) (fun hc_30 => ?_)
                      · rw [if_pos hc_30] at h
                        refine az_E.sn 7 (pc' := 43) (L' := [.ref 73]) (S' := [.int ((I 73 14) + (I 73 15)), .ref 81]) (σ' := (97, I, J, R)) rfl ?_
                        by_cases hc_31 : ((I 73 14) + (I 73 15)) < 0 ∨ 120 ≤ ((I 73 14) + (I 73 15)).toNatClampNeg
                        · rw [if_pos hc_31] at h; cases h
                        · rw [if_neg hc_31] at h
                          refine az_E.oi (o := az_ai az_F ex (97, I, J, R) 81 ((I 73 14) + (I 73 15))) (pc' := 44) (L' := [.ref 73]) (S' := []) (σ' := (97, I, J, R)) (x := (I 81 ((I 73 14) + (I 73 15)).toNatClampNeg)) rfl (if_neg hc_31) ?_
                          refine az_E.sn 1 (pc' := 48) (L' := [.ref 73]) (S' := [.int (I 81 ((I 73 14) + (I 73 15)).toNatClampNeg)]) (σ' := (97, I, J, R)) rfl ?_
                          refine az_E.ret (v := some (.int (I 81 ((I 73 14) + (I 73 15)).toNatClampNeg))) (σ' := (97, I, J, R)) rfl ?_
                          show az_E az_F ex (d + 2) 185 208 [.ref 73, .retAddr 0, .retAddr 0, .int v3, .int v4] [.int (I 81 ((I 73 14) + (I 73 15)).toNatClampNeg), .int ((10 : Int32) * v3)] (97, I, J, R) _
                          refine az_E.sn 12 (pc' := 176) (L' := [.ref 73, .retAddr 0, .retAddr 0, .int ((((10 : Int32) * v3) + (I 81 ((I 73 14) + (I 73 15)).toNatClampNeg)) - (48 : Int32)), .int (v4 + (1 : Int32))]) (S' := []) (σ' := (97, (az_u I 73 15 ((I 73 15) + (1 : Int32))), J, R)) rfl ?_
                          have h := Option.some.inj h
                          subst h
                          exact az_E.forget (L := [.ref 73, .retAddr 0, .retAddr 0, .int ((((10 : Int32) * v3) + (I 81 ((I 73 14) + (I 73 15)).toNatClampNeg)) - (48 : Int32)), .int (v4 + (1 : Int32))]) ⟨rfl, trivial, trivial, rfl, rfl, trivial⟩ hQ
                      · rw [if_neg hc_30] at h
                        refine az_E.sn 4 (pc' := 26) (L' := [.ref 73]) (S' := [.int (I 73 15), .ref 80]) (σ' := (97, I, J, R)) rfl ?_
                        by_cases hc_32 : (I 73 15) < 0 ∨ 120 ≤ (I 73 15).toNatClampNeg
                        · rw [if_pos hc_32] at h; cases h
                        · rw [if_neg hc_32] at h
                          refine az_E.oi (o := az_ai az_F ex (97, I, J, R) 80 (I 73 15)) (pc' := 27) (L' := [.ref 73]) (S' := []) (σ' := (97, I, J, R)) (x := (I 80 (I 73 15).toNatClampNeg)) rfl (if_neg hc_32) ?_
                          refine az_E.sn 1 (pc' := 48) (L' := [.ref 73]) (S' := [.int (I 80 (I 73 15).toNatClampNeg)]) (σ' := (97, I, J, R)) rfl ?_
                          refine az_E.ret (v := some (.int (I 80 (I 73 15).toNatClampNeg))) (σ' := (97, I, J, R)) rfl ?_
                          show az_E az_F ex (d + 2) 185 208 [.ref 73, .retAddr 0, .retAddr 0, .int v3, .int v4] [.int (I 80 (I 73 15).toNatClampNeg), .int ((10 : Int32) * v3)] (97, I, J, R) _
                          refine az_E.sn 12 (pc' := 176) (L' := [.ref 73, .retAddr 0, .retAddr 0, .int ((((10 : Int32) * v3) + (I 80 (I 73 15).toNatClampNeg)) - (48 : Int32)), .int (v4 + (1 : Int32))]) (S' := []) (σ' := (97, (az_u I 73 15 ((I 73 15) + (1 : Int32))), J, R)) rfl ?_
                          have h := Option.some.inj h
                          subst h
                          exact az_E.forget (L := [.ref 73, .retAddr 0, .retAddr 0, .int ((((10 : Int32) * v3) + (I 80 (I 73 15).toNatClampNeg)) - (48 : Int32)), .int (v4 + (1 : Int32))]) ⟨rfl, trivial, trivial, rfl, rfl, trivial⟩ hQ
      · rw [if_neg hc_12] at h
        refine az_E.sn 4 (pc' := 26) (L' := [.ref 73]) (S' := [.int (I 73 15), .ref 80]) (σ' := (97, I, J, R)) rfl ?_
        by_cases hc_33 : (I 73 15) < 0 ∨ 120 ≤ (I 73 15).toNatClampNeg
        · rw [if_pos hc_33] at h; cases h
        · rw [if_neg hc_33] at h
          refine az_E.oi (o := az_ai az_F ex (97, I, J, R) 80 (I 73 15)) (pc' := 27) (L' := [.ref 73]) (S' := []) (σ' := (97, I, J, R)) (x := (I 80 (I 73 15).toNatClampNeg)) rfl (if_neg hc_33) ?_
          refine az_E.sn 1 (pc' := 48) (L' := [.ref 73]) (S' := [.int (I 80 (I 73 15).toNatClampNeg)]) (σ' := (97, I, J, R)) rfl ?_
          refine az_E.ret (v := some (.int (I 80 (I 73 15).toNatClampNeg))) (σ' := (97, I, J, R)) rfl ?_
          show az_E az_F ex (d + 2) 185 186 [.ref 73, .retAddr 0, .retAddr 0, .int v3, .int v4] [.int (I 80 (I 73 15).toNatClampNeg)] (97, I, J, R) _
          refine az_E.sn 1 (pc' := 188) (L' := [.ref 73, .retAddr 0, .retAddr 0, .int v3, .int v4]) (S' := [.int (48 : Int32), .int (I 80 (I 73 15).toNatClampNeg)]) (σ' := (97, I, J, R)) rfl ?_
          refine az_E.br (c := (I 80 (I 73 15).toNatClampNeg) < (48 : Int32)) (tt := 229) (ff := 191) (L' := [.ref 73, .retAddr 0, .retAddr 0, .int v3, .int v4]) (S' := []) (σ' := (97, I, J, R)) rfl (fun hc_34 => ?_) (fun hc_34 => ?_)
          · rw [if_pos hc_34] at h
            obtain ⟨x, hx, rfl⟩ := Option.map_eq_some_iff.mp h
            exact az_E.forget (L := [.ref 73, .retAddr 0, .retAddr 0, .int v3, .int v4]) ⟨rfl, trivial, trivial, rfl, rfl, trivial⟩ (re_M_one_229 (I := I) (J := J) (R := R) hg_179 hg_180 hg_181 hg_182 hg_183 hg_185 hx hQ)
          · rw [if_neg hc_34] at h
            refine az_E.sn 1 (pc' := 192) (L' := [.ref 73, .retAddr 0, .retAddr 0, .int v3, .int v4]) (S' := [.ref 73]) (σ' := (97, I, J, R)) rfl ?_
            refine az_E.call (d := (d + 1)) (k' := 176) (vs := [.ref 73]) (pc' := 195) (S' := []) rfl ?_ (fun _ _ hq => hq)
            show az_E az_F ex (d + 1) 176 0 [.ref 73] [] (97, I, J, R) _
            refine az_E.sn 4 (pc' := 8) (L' := [.ref 73]) (S' := [.int (I 73 16), .int (I 73 15)]) (σ' := (97, I, J, R)) rfl ?_
            refine az_E.br (c := (I 73 16) ≤ (I 73 15)) (tt := 47) (ff := 11) (L' := [.ref 73]) (S' := []) (σ' := (97, I, J, R)) rfl (fun hc_35 => ?_) (fun hc_35 => ?_)
            · rw [if_pos hc_35] at h
              refine az_E.sn 1 (pc' := 48) (L' := [.ref 73]) (S' := [.int (0 : Int32)]) (σ' := (97, I, J, R)) rfl ?_
              refine az_E.ret (v := some (.int (0 : Int32))) (σ' := (97, I, J, R)) rfl ?_
              show az_E az_F ex (d + 2) 185 195 [.ref 73, .retAddr 0, .retAddr 0, .int v3, .int v4] [.int (0 : Int32)] (97, I, J, R) _
              refine az_E.sn 1 (pc' := 197) (L' := [.ref 73, .retAddr 0, .retAddr 0, .int v3, .int v4]) (S' := [.int (57 : Int32), .int (0 : Int32)]) (σ' := (97, I, J, R)) rfl ?_
              refine az_E.br (c := (57 : Int32) < (0 : Int32)) (tt := 229) (ff := 200) (L' := [.ref 73, .retAddr 0, .retAddr 0, .int v3, .int v4]) (S' := []) (σ' := (97, I, J, R)) rfl (fun hn => absurd hn (by decide)) (fun _ => ?_)
              refine az_E.sn 4 (pc' := 205) (L' := [.ref 73, .retAddr 0, .retAddr 0, .int v3, .int v4]) (S' := [.ref 73, .int ((10 : Int32) * v3)]) (σ' := (97, I, J, R)) rfl ?_
              refine az_E.call (d := (d + 1)) (k' := 176) (vs := [.ref 73]) (pc' := 208) (S' := [.int ((10 : Int32) * v3)]) rfl ?_ (fun _ _ hq => hq)
              show az_E az_F ex (d + 1) 176 0 [.ref 73] [] (97, I, J, R) _
              refine az_E.sn 4 (pc' := 8) (L' := [.ref 73]) (S' := [.int (I 73 16), .int (I 73 15)]) (σ' := (97, I, J, R)) rfl ?_
              refine az_E.br (c := (I 73 16) ≤ (I 73 15)) (tt := 47) (ff := 11) (L' := [.ref 73]) (S' := []) (σ' := (97, I, J, R)) rfl (fun hc_36 => ?_) (fun hc_36 => ?_)
              · rw [if_pos hc_36] at h
                refine az_E.sn 1 (pc' := 48) (L' := [.ref 73]) (S' := [.int (0 : Int32)]) (σ' := (97, I, J, R)) rfl ?_
                refine az_E.ret (v := some (.int (0 : Int32))) (σ' := (97, I, J, R)) rfl ?_
                show az_E az_F ex (d + 2) 185 208 [.ref 73, .retAddr 0, .retAddr 0, .int v3, .int v4] [.int (0 : Int32), .int ((10 : Int32) * v3)] (97, I, J, R) _
                refine az_E.sn 12 (pc' := 176) (L' := [.ref 73, .retAddr 0, .retAddr 0, .int ((((10 : Int32) * v3) + (0 : Int32)) - (48 : Int32)), .int (v4 + (1 : Int32))]) (S' := []) (σ' := (97, (az_u I 73 15 ((I 73 15) + (1 : Int32))), J, R)) rfl ?_
                have h := Option.some.inj h
                subst h
                exact az_E.forget (L := [.ref 73, .retAddr 0, .retAddr 0, .int ((((10 : Int32) * v3) + (0 : Int32)) - (48 : Int32)), .int (v4 + (1 : Int32))]) ⟨rfl, trivial, trivial, rfl, rfl, trivial⟩ hQ
              · rw [if_neg hc_36] at h
                refine az_E.sn 2 (pc' := 15) (L' := [.ref 73]) (S' := [.int (I 73 14)]) (σ' := (97, I, J, R)) rfl ?_
                refine az_E.br (c := 0 ≤ (I 73 14)) (tt := 30) (ff := 18) (L' := [.ref 73]) (S' := []) (σ' := (97, I, J, R)) rfl (fun hc_37 => ?_) (fun hc_37 => ?_)
                · rw [if_pos hc_37] at h
                  refine az_E.sn 7 (pc' := 43) (L' := [.ref 73]) (S' := [.int ((I 73 14) + (I 73 15)), .ref 81]) (σ' := (97, I, J, R)) rfl ?_
                  by_cases hc_38 : ((I 73 14) + (I 73 15)) < 0 ∨ 120 ≤ ((I 73 14) + (I 73 15)).toNatClampNeg
                  · rw [if_pos hc_38] at h; cases h
                  · rw [if_neg hc_38] at h
                    refine az_E.oi (o := az_ai az_F ex (97, I, J, R) 81 ((I 73 14) + (I 73 15))) (pc' := 44) (L' := [.ref 73]) (S' := []) (σ' := (97, I, J, R)) (x := (I 81 ((I 73 14) + (I 73 15)).toNatClampNeg)) rfl (if_neg hc_38) ?_
                    refine az_E.sn 1 (pc' := 48) (L' := [.ref 73]) (S' := [.int (I 81 ((I 73 14) + (I 73 15)).toNatClampNeg)]) (σ' := (97, I, J, R)) rfl ?_
                    refine az_E.ret (v := some (.int (I 81 ((I 73 14) + (I 73 15)).toNatClampNeg))) (σ' := (97, I, J, R)) rfl ?_
                    show az_E az_F ex (d + 2) 185 208 [.ref 73, .retAddr 0, .retAddr 0, .int v3, .int v4] [.int (I 81 ((I 73 14) + (I 73 15)).toNatClampNeg), .int ((10 : Int32) * v3)] (97, I, J, R) _
                    refine az_E.sn 12 (pc' := 176) (L' := [.ref 73, .retAddr 0, .retAddr 0, .int ((((10 : Int32) * v3) + (I 81 ((I 73 14) + (I 73 15)).toNatClampNeg)) - (48 : Int32)), .int (v4 + (1 : Int32))]) (S' := []) (σ' := (97, (az_u I 73 15 ((I 73 15) + (1 : Int32))), J, R)) rfl ?_
                    have h := Option.some.inj h
                    subst h
                    exact az_E.forget (L := [.ref 73, .retAddr 0, .retAddr 0, .int ((((10 : Int32) * v3) + (I 81 ((I 73 14) + (I 73 15)).toNatClampNeg)) - (48 : Int32)), .int (v4 + (1 : Int32))]) ⟨rfl, trivial, trivial, rfl, rfl, trivial⟩ hQ
                · rw [if_neg hc_37] at h
                  refine az_E.sn 4 (pc' := 26) (L' := [.ref 73]) (S' := [.int (I 73 15), .ref 80]) (σ' := (97, I, J, R)) rfl ?_
                  by_cases hc_39 : (I 73 15) < 0 ∨ 120 ≤ (I 73 15).toNatClampNeg
                  · rw [if_pos hc_39] at h; cases h
                  · rw [if_neg hc_39] at h
                    refine az_E.oi (o := az_ai az_F ex (97, I, J, R) 80 (I 73 15)) (pc' := 27) (L' := [.ref 73]) (S' := []) (σ' := (97, I, J, R)) (x := (I 80 (I 73 15).toNatClampNeg)) rfl (if_neg hc_39) ?_
                    refine az_E.sn 1 (pc' := 48) (L' := [.ref 73]) (S' := [.int (I 80 (I 73 15).toNatClampNeg)]) (σ' := (97, I, J, R)) rfl ?_
                    refine az_E.ret (v := some (.int (I 80 (I 73 15).toNatClampNeg))) (σ' := (97, I, J, R)) rfl ?_
                    show az_E az_F ex (d + 2) 185 208 [.ref 73, .retAddr 0, .retAddr 0, .int v3, .int v4] [.int (I 80 (I 73 15).toNatClampNeg), .int ((10 : Int32) * v3)] (97, I, J, R) _
                    refine az_E.sn 12 (pc' := 176) (L' := [.ref 73, .retAddr 0, .retAddr 0, .int ((((10 : Int32) * v3) + (I 80 (I 73 15).toNatClampNeg)) - (48 : Int32)), .int (v4 + (1 : Int32))]) (S' := []) (σ' := (97, (az_u I 73 15 ((I 73 15) + (1 : Int32))), J, R)) rfl ?_
                    have h := Option.some.inj h
                    subst h
                    exact az_E.forget (L := [.ref 73, .retAddr 0, .retAddr 0, .int ((((10 : Int32) * v3) + (I 80 (I 73 15).toNatClampNeg)) - (48 : Int32)), .int (v4 + (1 : Int32))]) ⟨rfl, trivial, trivial, rfl, rfl, trivial⟩ hQ
            · rw [if_neg hc_35] at h
              refine az_E.sn 2 (pc' := 15) (L' := [.ref 73]) (S' := [.int (I 73 14)]) (σ' := (97, I, J, R)) rfl ?_
              refine az_E.br (c := 0 ≤ (I 73 14)) (tt := 30) (ff := 18) (L' := [.ref 73]) (S' := []) (σ' := (97, I, J, R)) rfl (fun hc_40 => ?_) (fun hc_40 => ?_)
              · rw [if_pos hc_40] at h
                refine az_E.sn 7 (pc' := 43) (L' := [.ref 73]) (S' := [.int ((I 73 14) + (I 73 15)), .ref 81]) (σ' := (97, I, J, R)) rfl ?_
                by_cases hc_41 : ((I 73 14) + (I 73 15)) < 0 ∨ 120 ≤ ((I 73 14) + (I 73 15)).toNatClampNeg
                · rw [if_pos hc_41] at h; cases h
                · rw [if_neg hc_41] at h
                  refine az_E.oi (o := az_ai az_F ex (97, I, J, R) 81 ((I 73 14) + (I 73 15))) (pc' := 44) (L' := [.ref 73]) (S' := []) (σ' := (97, I, J, R)) (x := (I 81 ((I 73 14) + (I 73 15)).toNatClampNeg)) rfl (if_neg hc_41) ?_
                  refine az_E.sn 1 (pc' := 48) (L' := [.ref 73]) (S' := [.int (I 81 ((I 73 14) + (I 73 15)).toNatClampNeg)]) (σ' := (97, I, J, R)) rfl ?_
                  refine az_E.ret (v := some (.int (I 81 ((I 73 14) + (I 73 15)).toNatClampNeg))) (σ' := (97, I, J, R)) rfl ?_
                  show az_E az_F ex (d + 2) 185 195 [.ref 73, .retAddr 0, .retAddr 0, .int v3, .int v4] [.int (I 81 ((I 73 14) + (I 73 15)).toNatClampNeg)] (97, I, J, R) _
                  refine az_E.sn 1 (pc' := 197) (L' := [.ref 73, .retAddr 0, .retAddr 0, .int v3, .int v4]) (S' := [.int (57 : Int32), .int (I 81 ((I 73 14) + (I 73 15)).toNatClampNeg)]) (σ' := (97, I, J, R)) rfl ?_
                  refine az_E.br (c := (57 : Int32) < (I 81 ((I 73 14) + (I 73 15)).toNatClampNeg)) (tt := 229) (ff := 200) (L' := [.ref 73, .retAddr 0, .retAddr 0, .int v3, .int v4]) (S' := []) (σ' := (97, I, J, R)) rfl (fun hc_42 => ?_) (fun hc_42 => ?_)
                  · rw [if_pos hc_42] at h
                    obtain ⟨x, hx, rfl⟩ := Option.map_eq_some_iff.mp h
                    exact az_E.forget (L := [.ref 73, .retAddr 0, .retAddr 0, .int v3, .int v4]) ⟨rfl, trivial, trivial, rfl, rfl, trivial⟩ (re_M_one_229 (I := I) (J := J) (R := R) hg_179 hg_180 hg_181 hg_182 hg_183 hg_185 hx hQ)
                  · rw [if_neg hc_42] at h
                    refine az_E.sn 4 (pc' := 205) (L' := [.ref 73, .retAddr 0, .retAddr 0, .int v3, .int v4]) (S' := [.ref 73, .int ((10 : Int32) * v3)]) (σ' := (97, I, J, R)) rfl ?_
                    refine az_E.call (d := (d + 1)) (k' := 176) (vs := [.ref 73]) (pc' := 208) (S' := [.int ((10 : Int32) * v3)]) rfl ?_ (fun _ _ hq => hq)
                    show az_E az_F ex (d + 1) 176 0 [.ref 73] [] (97, I, J, R) _
                    refine az_E.sn 4 (pc' := 8) (L' := [.ref 73]) (S' := [.int (I 73 16), .int (I 73 15)]) (σ' := (97, I, J, R)) rfl ?_
                    refine az_E.br (c := (I 73 16) ≤ (I 73 15)) (tt := 47) (ff := 11) (L' := [.ref 73]) (S' := []) (σ' := (97, I, J, R)) rfl (fun hc_43 => ?_) (fun hc_43 => ?_)
                    · rw [if_pos hc_43] at h
                      refine az_E.sn 1 (pc' := 48) (L' := [.ref 73]) (S' := [.int (0 : Int32)]) (σ' := (97, I, J, R)) rfl ?_
                      refine az_E.ret (v := some (.int (0 : Int32))) (σ' := (97, I, J, R)) rfl ?_
                      show az_E az_F ex (d + 2) 185 208 [.ref 73, .retAddr 0, .retAddr 0, .int v3, .int v4] [.int (0 : Int32), .int ((10 : Int32) * v3)] (97, I, J, R) _
                      refine az_E.sn 12 (pc' := 176) (L' := [.ref 73, .retAddr 0, .retAddr 0, .int ((((10 : Int32) * v3) + (0 : Int32)) - (48 : Int32)), .int (v4 + (1 : Int32))]) (S' := []) (σ' := (97, (az_u I 73 15 ((I 73 15) + (1 : Int32))), J, R)) rfl ?_
                      have h := Option.some.inj h
                      subst h
                      exact az_E.forget (L := [.ref 73, .retAddr 0, .retAddr 0, .int ((((10 : Int32) * v3) + (0 : Int32)) - (48 : Int32)), .int (v4 + (1 : Int32))]) ⟨rfl, trivial, trivial, rfl, rfl, trivial⟩ hQ
                    · rw [if_neg hc_43] at h
                      refine az_E.sn 2 (pc' := 15) (L' := [.ref 73]) (S' := [.int (I 73 14)]) (σ' := (97, I, J, R)) rfl ?_
                      refine az_E.br (c := 0 ≤ (I 73 14)) (tt := 30) (ff := 18) (L' := [.ref 73]) (S' := []) (σ' := (97, I, J, R)) rfl (fun hc_44 => ?_) (fun hc_44 => ?_)
                      · rw [if_pos hc_44] at h
                        refine az_E.sn 7 (pc' := 43) (L' := [.ref 73]) (S' := [.int ((I 73 14) + (I 73 15)), .ref 81]) (σ' := (97, I, J, R)) rfl ?_
                        by_cases hc_45 : ((I 73 14) + (I 73 15)) < 0 ∨ 120 ≤ ((I 73 14) + (I 73 15)).toNatClampNeg
                        · rw [if_pos hc_45] at h; cases h
                        · rw [if_neg hc_45] at h
                          refine az_E.oi (o := az_ai az_F ex (97, I, J, R) 81 ((I 73 14) + (I 73 15))) (pc' := 44) (L' := [.ref 73]) (S' := []) (σ' := (97, I, J, R)) (x := (I 81 ((I 73 14) + (I 73 15)).toNatClampNeg)) rfl (if_neg hc_45) ?_
                          refine az_E.sn 1 (pc' := 48) (L' := [.ref 73]) (S' := [.int (I 81 ((I 73 14) + (I 73 15)).toNatClampNeg)]) (σ' := (97, I, J, R)) rfl ?_
                          refine az_E.ret (v := some (.int (I 81 ((I 73 14) + (I 73 15)).toNatClampNeg))) (σ' := (97, I, J, R)) rfl ?_
                          show az_E az_F ex (d + 2) 185 208 [.ref 73, .retAddr 0, .retAddr 0, .int v3, .int v4] [.int (I 81 ((I 73 14) + (I 73 15)).toNatClampNeg), .int ((10 : Int32) * v3)] (97, I, J, R) _
                          refine az_E.sn 12 (pc' := 176) (L' := [.ref 73, .retAddr 0, .retAddr 0, .int ((((10 : Int32) * v3) + (I 81 ((I 73 14) + (I 73 15)).toNatClampNeg)) - (48 : Int32)), .int (v4 + (1 : Int32))]) (S' := []) (σ' := (97, (az_u I 73 15 ((I 73 15) + (1 : Int32))), J, R)) rfl ?_
                          have h := Option.some.inj h
                          subst h
                          exact az_E.forget (L := [.ref 73, .retAddr 0, .retAddr 0, .int ((((10 : Int32) * v3) + (I 81 ((I 73 14) + (I 73 15)).toNatClampNeg)) - (48 : Int32)), .int (v4 + (1 : Int32))]) ⟨rfl, trivial, trivial, rfl, rfl, trivial⟩ hQ
                      · rw [if_neg hc_44] at h
                        refine az_E.sn 4 (pc' := 26) (L' := [.ref 73]) (S' := [.int (I 73 15), .ref 80]) (σ' := (97, I, J, R)) rfl ?_
                        by_cases hc_46 : (I 73 15) < 0 ∨ 120 ≤ (I 73 15).toNatClampNeg
                        · rw [if_pos hc_46] at h; cases h
                        · rw [if_neg hc_46] at h
                          refine az_E.oi (o := az_ai az_F ex (97, I, J, R) 80 (I 73 15)) (pc' := 27) (L' := [.ref 73]) (S' := []) (σ' := (97, I, J, R)) (x := (I 80 (I 73 15).toNatClampNeg)) rfl (if_neg hc_46) ?_
                          refine az_E.sn 1 (pc' := 48) (L' := [.ref 73]) (S' := [.int (I 80 (I 73 15).toNatClampNeg)]) (σ' := (97, I, J, R)) rfl ?_
                          refine az_E.ret (v := some (.int (I 80 (I 73 15).toNatClampNeg))) (σ' := (97, I, J, R)) rfl ?_
                          show az_E az_F ex (d + 2) 185 208 [.ref 73, .retAddr 0, .retAddr 0, .int v3, .int v4] [.int (I 80 (I 73 15).toNatClampNeg), .int ((10 : Int32) * v3)] (97, I, J, R) _
                          refine az_E.sn 12 (pc' := 176) (L' := [.ref 73, .retAddr 0, .retAddr 0, .int ((((10 : Int32) * v3) + (I 80 (I 73 15).toNatClampNeg)) - (48 : Int32)), .int (v4 + (1 : Int32))]) (S' := []) (σ' := (97, (az_u I 73 15 ((I 73 15) + (1 : Int32))), J, R)) rfl ?_
                          have h := Option.some.inj h
                          subst h
                          exact az_E.forget (L := [.ref 73, .retAddr 0, .retAddr 0, .int ((((10 : Int32) * v3) + (I 80 (I 73 15).toNatClampNeg)) - (48 : Int32)), .int (v4 + (1 : Int32))]) ⟨rfl, trivial, trivial, rfl, rfl, trivial⟩ hQ
              · rw [if_neg hc_40] at h
                refine az_E.sn 4 (pc' := 26) (L' := [.ref 73]) (S' := [.int (I 73 15), .ref 80]) (σ' := (97, I, J, R)) rfl ?_
                by_cases hc_47 : (I 73 15) < 0 ∨ 120 ≤ (I 73 15).toNatClampNeg
                · rw [if_pos hc_47] at h; cases h
                · rw [if_neg hc_47] at h
                  refine az_E.oi (o := az_ai az_F ex (97, I, J, R) 80 (I 73 15)) (pc' := 27) (L' := [.ref 73]) (S' := []) (σ' := (97, I, J, R)) (x := (I 80 (I 73 15).toNatClampNeg)) rfl (if_neg hc_47) ?_
                  refine az_E.sn 1 (pc' := 48) (L' := [.ref 73]) (S' := [.int (I 80 (I 73 15).toNatClampNeg)]) (σ' := (97, I, J, R)) rfl ?_
                  refine az_E.ret (v := some (.int (I 80 (I 73 15).toNatClampNeg))) (σ' := (97, I, J, R)) rfl ?_
                  show az_E az_F ex (d + 2) 185 195 [.ref 73, .retAddr 0, .retAddr 0, .int v3, .int v4] [.int (I 80 (I 73 15).toNatClampNeg)] (97, I, J, R) _
                  refine az_E.sn 1 (pc' := 197) (L' := [.ref 73, .retAddr 0, .retAddr 0, .int v3, .int v4]) (S' := [.int (57 : Int32), .int (I 80 (I 73 15).toNatClampNeg)]) (σ' := (97, I, J, R)) rfl ?_
                  refine az_E.br (c := (57 : Int32) < (I 80 (I 73 15).toNatClampNeg)) (tt := 229) (ff := 200) (L' := [.ref 73, .retAddr 0, .retAddr 0, .int v3, .int v4]) (S' := []) (σ' := (97, I, J, R)) rfl (fun hc_48 => ?_) (fun hc_48 => ?_)
                  · rw [if_pos hc_48] at h
                    obtain ⟨x, hx, rfl⟩ := Option.map_eq_some_iff.mp h
                    exact az_E.forget (L := [.ref 73, .retAddr 0, .retAddr 0, .int v3, .int v4]) ⟨rfl, trivial, trivial, rfl, rfl, trivial⟩ (re_M_one_229 (I := I) (J := J) (R := R) hg_179 hg_180 hg_181 hg_182 hg_183 hg_185 hx hQ)
                  · rw [if_neg hc_48] at h
                    refine az_E.sn 4 (pc' := 205) (L' := [.ref 73, .retAddr 0, .retAddr 0, .int v3, .int v4]) (S' := [.ref 73, .int ((10 : Int32) * v3)]) (σ' := (97, I, J, R)) rfl ?_
                    refine az_E.call (d := (d + 1)) (k' := 176) (vs := [.ref 73]) (pc' := 208) (S' := [.int ((10 : Int32) * v3)]) rfl ?_ (fun _ _ hq => hq)
                    show az_E az_F ex (d + 1) 176 0 [.ref 73] [] (97, I, J, R) _
                    refine az_E.sn 4 (pc' := 8) (L' := [.ref 73]) (S' := [.int (I 73 16), .int (I 73 15)]) (σ' := (97, I, J, R)) rfl ?_
                    refine az_E.br (c := (I 73 16) ≤ (I 73 15)) (tt := 47) (ff := 11) (L' := [.ref 73]) (S' := []) (σ' := (97, I, J, R)) rfl (fun hc_49 => ?_) (fun hc_49 => ?_)
                    · rw [if_pos hc_49] at h
                      refine az_E.sn 1 (pc' := 48) (L' := [.ref 73]) (S' := [.int (0 : Int32)]) (σ' := (97, I, J, R)) rfl ?_
                      refine az_E.ret (v := some (.int (0 : Int32))) (σ' := (97, I, J, R)) rfl ?_
                      show az_E az_F ex (d + 2) 185 208 [.ref 73, .retAddr 0, .retAddr 0, .int v3, .int v4] [.int (0 : Int32), .int ((10 : Int32) * v3)] (97, I, J, R) _
                      refine az_E.sn 12 (pc' := 176) (L' := [.ref 73, .retAddr 0, .retAddr 0, .int ((((10 : Int32) * v3) + (0 : Int32)) - (48 : Int32)), .int (v4 + (1 : Int32))]) (S' := []) (σ' := (97, (az_u I 73 15 ((I 73 15) + (1 : Int32))), J, R)) rfl ?_
                      have h := Option.some.inj h
                      subst h
                      exact az_E.forget (L := [.ref 73, .retAddr 0, .retAddr 0, .int ((((10 : Int32) * v3) + (0 : Int32)) - (48 : Int32)), .int (v4 + (1 : Int32))]) ⟨rfl, trivial, trivial, rfl, rfl, trivial⟩ hQ
                    · rw [if_neg hc_49] at h
                      refine az_E.sn 2 (pc' := 15) (L' := [.ref 73]) (S' := [.int (I 73 14)]) (σ' := (97, I, J, R)) rfl ?_
                      refine az_E.br (c := 0 ≤ (I 73 14)) (tt := 30) (ff := 18) (L' := [.ref 73]) (S' := []) (σ' := (97, I, J, R)) rfl (fun hc_50 => ?_) (fun hc_50 => ?_)
                      · rw [if_pos hc_50] at h
                        refine az_E.sn 7 (pc' := 43) (L' := [.ref 73]) (S' := [.int ((I 73 14) + (I 73 15)), .ref 81]) (σ' := (97, I, J, R)) rfl ?_
                        by_cases hc_51 : ((I 73 14) + (I 73 15)) < 0 ∨ 120 ≤ ((I 73 14) + (I 73 15)).toNatClampNeg
                        · rw [if_pos hc_51] at h; cases h
                        · rw [if_neg hc_51] at h
                          refine az_E.oi (o := az_ai az_F ex (97, I, J, R) 81 ((I 73 14) + (I 73 15))) (pc' := 44) (L' := [.ref 73]) (S' := []) (σ' := (97, I, J, R)) (x := (I 81 ((I 73 14) + (I 73 15)).toNatClampNeg)) rfl (if_neg hc_51) ?_
                          refine az_E.sn 1 (pc' := 48) (L' := [.ref 73]) (S' := [.int (I 81 ((I 73 14) + (I 73 15)).toNatClampNeg)]) (σ' := (97, I, J, R)) rfl ?_
                          refine az_E.ret (v := some (.int (I 81 ((I 73 14) + (I 73 15)).toNatClampNeg))) (σ' := (97, I, J, R)) rfl ?_
                          show az_E az_F ex (d + 2) 185 208 [.ref 73, .retAddr 0, .retAddr 0, .int v3, .int v4] [.int (I 81 ((I 73 14) + (I 73 15)).toNatClampNeg), .int ((10 : Int32) * v3)] (97, I, J, R) _
                          refine az_E.sn 12 (pc' := 176) (L' := [.ref 73, .retAddr 0, .retAddr 0, .int ((((10 : Int32) * v3) + (I 81 ((I 73 14) + (I 73 15)).toNatClampNeg)) - (48 : Int32)), .int (v4 + (1 : Int32))]) (S' := []) (σ' := (97, (az_u I 73 15 ((I 73 15) + (1 : Int32))), J, R)) rfl ?_
                          have h := Option.some.inj h
                          subst h
                          exact az_E.forget (L := [.ref 73, .retAddr 0, .retAddr 0, .int ((((10 : Int32) * v3) + (I 81 ((I 73 14) + (I 73 15)).toNatClampNeg)) - (48 : Int32)), .int (v4 + (1 : Int32))]) ⟨rfl, trivial, trivial, rfl, rfl, trivial⟩ hQ
                      · rw [if_neg hc_50] at h
                        refine az_E.sn 4 (pc' := 26) (L' := [.ref 73]) (S' := [.int (I 73 15), .ref 80]) (σ' := (97, I, J, R)) rfl ?_
                        by_cases hc_52 : (I 73 15) < 0 ∨ 120 ≤ (I 73 15).toNatClampNeg
                        · rw [if_pos hc_52] at h; cases h
                        · rw [if_neg hc_52] at h
                          refine az_E.oi (o := az_ai az_F ex (97, I, J, R) 80 (I 73 15)) (pc' := 27) (L' := [.ref 73]) (S' := []) (σ' := (97, I, J, R)) (x := (I 80 (I 73 15).toNatClampNeg)) rfl (if_neg hc_52) ?_
                          refine az_E.sn 1 (pc' := 48) (L' := [.ref 73]) (S' := [.int (I 80 (I 73 15).toNatClampNeg)]) (σ' := (97, I, J, R)) rfl ?_
                          refine az_E.ret (v := some (.int (I 80 (I 73 15).toNatClampNeg))) (σ' := (97, I, J, R)) rfl ?_
                          show az_E az_F ex (d + 2) 185 208 [.ref 73, .retAddr 0, .retAddr 0, .int v3, .int v4] [.int (I 80 (I 73 15).toNatClampNeg), .int ((10 : Int32) * v3)] (97, I, J, R) _
                          refine az_E.sn 12 (pc' := 176) (L' := [.ref 73, .retAddr 0, .retAddr 0, .int ((((10 : Int32) * v3) + (I 80 (I 73 15).toNatClampNeg)) - (48 : Int32)), .int (v4 + (1 : Int32))]) (S' := []) (σ' := (97, (az_u I 73 15 ((I 73 15) + (1 : Int32))), J, R)) rfl ?_
                          have h := Option.some.inj h
                          subst h
                          exact az_E.forget (L := [.ref 73, .retAddr 0, .retAddr 0, .int ((((10 : Int32) * v3) + (I 80 (I 73 15).toNatClampNeg)) - (48 : Int32)), .int (v4 + (1 : Int32))]) ⟨rfl, trivial, trivial, rfl, rfl, trivial⟩ hQ
set_option maxRecDepth 100000 in
set_option maxHeartbeats 4000000 in
theorem re_M_one_176 {rec : az_GT} {d : Nat} {ex : az_X} {I : Nat → Nat → Int32} {J : Nat → Nat → Int64} {R : Nat → Nat → Option Nat} {v3 : Int32} {v4 : Int32} (hg_179 : ∀ (b1 b2 b3 b4 : Int32) (I : Nat → Nat → Int32) (o : Int32 × (Nat → Nat → Int32)), rec 179 b1 b2 b3 b4 I = some o → ∀ {J : Nat → Nat → Int64} {R : Nat → Nat → Option Nat} {Q : Option Value → az_S → Prop}, Q (some (.int o.1)) (97, o.2, J, R) → az_E az_F ex d 179 0 [.ref 73, .retAddr 0, .retAddr 0] [] (97, I, J, R) Q) (hg_180 : ∀ (b1 b2 b3 b4 : Int32) (I : Nat → Nat → Int32) (o : Int32 × (Nat → Nat → Int32)), rec 180 b1 b2 b3 b4 I = some o → ∀ {J : Nat → Nat → Int64} {R : Nat → Nat → Option Nat} {Q : Option Value → az_S → Prop}, Q (some (.int o.1)) (97, o.2, J, R) → az_E az_F ex d 180 0 [.ref 73, .retAddr 0, .retAddr 0] [] (97, I, J, R) Q) (hg_181 : ∀ (b1 b2 b3 b4 : Int32) (I : Nat → Nat → Int32) (o : Int32 × (Nat → Nat → Int32)), rec 181 b1 b2 b3 b4 I = some o → ∀ {J : Nat → Nat → Int64} {R : Nat → Nat → Option Nat} {Q : Option Value → az_S → Prop}, Q (some (.int o.1)) (97, o.2, J, R) → az_E az_F ex d 181 0 [.ref 73, .retAddr 0, .retAddr 0, .retAddr 0] [] (97, I, J, R) Q) (hg_182 : ∀ (b1 b2 b3 b4 : Int32) (I : Nat → Nat → Int32) (o : Int32 × (Nat → Nat → Int32)), rec 182 b1 b2 b3 b4 I = some o → ∀ {J : Nat → Nat → Int64} {R : Nat → Nat → Option Nat} {Q : Option Value → az_S → Prop}, Q (some (.int o.1)) (97, o.2, J, R) → az_E az_F ex d 182 0 [.ref 73, .retAddr 0, .retAddr 0, .retAddr 0] [] (97, I, J, R) Q) (hg_183 : ∀ (b1 b2 b3 b4 : Int32) (I : Nat → Nat → Int32) (o : Int32 × (Nat → Nat → Int32)), rec 183 b1 b2 b3 b4 I = some o → ∀ {J : Nat → Nat → Int64} {R : Nat → Nat → Option Nat} {Q : Option Value → az_S → Prop}, Q (some (.int o.1)) (97, o.2, J, R) → az_E az_F ex d 183 0 [.ref 73, .retAddr 0, .retAddr 0, .retAddr 0] [] (97, I, J, R) Q) (hg_185 : ∀ (b1 b2 b3 b4 : Int32) (I : Nat → Nat → Int32) (o : Int32 × (Nat → Nat → Int32)), rec 185 b1 b2 b3 b4 I = some o → ∀ {J : Nat → Nat → Int64} {R : Nat → Nat → Option Nat} {Q : Option Value → az_S → Prop}, Q (some (.int o.1)) (97, o.2, J, R) → az_E az_F ex d 185 0 [.ref 73, .retAddr 0, .retAddr 0, .retAddr 0, .retAddr 0] [] (97, I, J, R) Q) {x : Int32 × (Nat → Nat → Int32)} (h : rs_M_one_176 rec I v3 v4 = some x) {Q : Option Value → az_S → Prop} (hQ : Q (some (.int x.1)) (97, x.2, J, R)) : az_E az_F ex (d + 2) 185 176 [.ref 73, .retAddr 0, .retAddr 0, .int v3, .int v4] [] (97, I, J, R) Q := by
  unfold rs_M_one_176 at h
  refine az_lp_E (G := fun s => az_E az_F ex (d + 2) 185 176 [.ref 73, .retAddr 0, .retAddr 0, .int s.1, .int s.2.1] [] (97, s.2.2, J, R) Q) (H := fun x => Q (some (.int x.1)) (97, x.2, J, R)) (fun s o hb ho => ?_) _ _ _ h hQ
  exact re_M_one_176_b hg_179 hg_180 hg_181 hg_182 hg_183 hg_185 hb ho
set_option maxRecDepth 100000 in
set_option maxHeartbeats 4000000 in
theorem re_M_one_104 {rec : az_GT} {d : Nat} {ex : az_X} {I : Nat → Nat → Int32} {J : Nat → Nat → Int64} {R : Nat → Nat → Option Nat} {v1 : Int32} {v2 : Int32} (hg_179 : ∀ (b1 b2 b3 b4 : Int32) (I : Nat → Nat → Int32) (o : Int32 × (Nat → Nat → Int32)), rec 179 b1 b2 b3 b4 I = some o → ∀ {J : Nat → Nat → Int64} {R : Nat → Nat → Option Nat} {Q : Option Value → az_S → Prop}, Q (some (.int o.1)) (97, o.2, J, R) → az_E az_F ex d 179 0 [.ref 73, .retAddr 0, .retAddr 0] [] (97, I, J, R) Q) (hg_180 : ∀ (b1 b2 b3 b4 : Int32) (I : Nat → Nat → Int32) (o : Int32 × (Nat → Nat → Int32)), rec 180 b1 b2 b3 b4 I = some o → ∀ {J : Nat → Nat → Int64} {R : Nat → Nat → Option Nat} {Q : Option Value → az_S → Prop}, Q (some (.int o.1)) (97, o.2, J, R) → az_E az_F ex d 180 0 [.ref 73, .retAddr 0, .retAddr 0] [] (97, I, J, R) Q) (hg_181 : ∀ (b1 b2 b3 b4 : Int32) (I : Nat → Nat → Int32) (o : Int32 × (Nat → Nat → Int32)), rec 181 b1 b2 b3 b4 I = some o → ∀ {J : Nat → Nat → Int64} {R : Nat → Nat → Option Nat} {Q : Option Value → az_S → Prop}, Q (some (.int o.1)) (97, o.2, J, R) → az_E az_F ex d 181 0 [.ref 73, .retAddr 0, .retAddr 0, .retAddr 0] [] (97, I, J, R) Q) (hg_182 : ∀ (b1 b2 b3 b4 : Int32) (I : Nat → Nat → Int32) (o : Int32 × (Nat → Nat → Int32)), rec 182 b1 b2 b3 b4 I = some o → ∀ {J : Nat → Nat → Int64} {R : Nat → Nat → Option Nat} {Q : Option Value → az_S → Prop}, Q (some (.int o.1)) (97, o.2, J, R) → az_E az_F ex d 182 0 [.ref 73, .retAddr 0, .retAddr 0, .retAddr 0] [] (97, I, J, R) Q) (hg_183 : ∀ (b1 b2 b3 b4 : Int32) (I : Nat → Nat → Int32) (o : Int32 × (Nat → Nat → Int32)), rec 183 b1 b2 b3 b4 I = some o → ∀ {J : Nat → Nat → Int64} {R : Nat → Nat → Option Nat} {Q : Option Value → az_S → Prop}, Q (some (.int o.1)) (97, o.2, J, R) → az_E az_F ex d 183 0 [.ref 73, .retAddr 0, .retAddr 0, .retAddr 0] [] (97, I, J, R) Q) (hg_185 : ∀ (b1 b2 b3 b4 : Int32) (I : Nat → Nat → Int32) (o : Int32 × (Nat → Nat → Int32)), rec 185 b1 b2 b3 b4 I = some o → ∀ {J : Nat → Nat → Int64} {R : Nat → Nat → Option Nat} {Q : Option Value → az_S → Prop}, Q (some (.int o.1)) (97, o.2, J, R) → az_E az_F ex d 185 0 [.ref 73, .retAddr 0, .retAddr 0, .retAddr 0, .retAddr 0] [] (97, I, J, R) Q) {x : Int32 × (Nat → Nat → Int32)} (h : rs_M_one_104 rec I v1 v2 = some x) {Q : Option Value → az_S → Prop} (hQ : Q (some (.int x.1)) (97, x.2, J, R)) : az_E az_F ex (d + 2) 185 104 [.ref 73, .int v1, .int v2, .retAddr 0, .retAddr 0] [] (97, I, J, R) Q := by
  unfold rs_M_one_104 at h
  refine az_E.sn 8 (pc' := 117) (L' := [.ref 73, .int v1, .int v2, .retAddr 0, .retAddr 0]) (S' := [.int (40 : Int32), .int v1]) (σ' := (97, (az_u I 73 18 ((I 73 18) - (1 : Int32))), J, R)) rfl ?_
  refine az_E.br (c := v1 = (40 : Int32)) (tt := 120) (ff := 124) (L' := [.ref 73, .int v1, .int v2, .retAddr 0, .retAddr 0]) (S' := []) (σ' := (97, (az_u I 73 18 ((I 73 18) - (1 : Int32))), J, R)) rfl (fun hc_73 => ?_) (fun hc_73 => ?_)
  · rw [if_pos hc_73] at h
    refine az_E.sn 2 (pc' := 144) (L' := [.ref 73, .int v1, .int v2, .retAddr 0, .retAddr 0]) (S' := [.int v2]) (σ' := (97, (az_u I 73 18 ((I 73 18) - (1 : Int32))), J, R)) rfl ?_
    have h := Option.some.inj h
    subst h
    exact az_E.ret (v := some (.int v2)) (σ' := (97, (az_u I 73 18 ((I 73 18) - (1 : Int32))), J, R)) rfl hQ
  · rw [if_neg hc_73] at h
    refine az_E.sn 2 (pc' := 127) (L' := [.ref 73, .int v1, .int v2, .retAddr 0, .retAddr 0]) (S' := [.int (45 : Int32), .int v1]) (σ' := (97, (az_u I 73 18 ((I 73 18) - (1 : Int32))), J, R)) rfl ?_
    refine az_E.br (c := v1 = (45 : Int32)) (tt := 130) (ff := 135) (L' := [.ref 73, .int v1, .int v2, .retAddr 0, .retAddr 0]) (S' := []) (σ' := (97, (az_u I 73 18 ((I 73 18) - (1 : Int32))), J, R)) rfl (fun hc_74 => ?_) (fun hc_74 => ?_)
    · rw [if_pos hc_74] at h
      refine az_E.sn 3 (pc' := 144) (L' := [.ref 73, .int v1, .int v2, .retAddr 0, .retAddr 0]) (S' := [.int (-v2)]) (σ' := (97, (az_u I 73 18 ((I 73 18) - (1 : Int32))), J, R)) rfl ?_
      have h := Option.some.inj h
      subst h
      exact az_E.ret (v := some (.int (-v2))) (σ' := (97, (az_u I 73 18 ((I 73 18) - (1 : Int32))), J, R)) rfl hQ
    · rw [if_neg hc_74] at h
      refine az_E.sn 1 (pc' := 136) (L' := [.ref 73, .int v1, .int v2, .retAddr 0, .retAddr 0]) (S' := [.int v2]) (σ' := (97, (az_u I 73 18 ((I 73 18) - (1 : Int32))), J, R)) rfl ?_
      refine az_E.br (c := v2 = 0) (tt := 139) (ff := 143) (L' := [.ref 73, .int v1, .int v2, .retAddr 0, .retAddr 0]) (S' := []) (σ' := (97, (az_u I 73 18 ((I 73 18) - (1 : Int32))), J, R)) rfl (fun hc_75 => ?_) (fun hc_75 => ?_)
      · rw [if_pos hc_75] at h
        refine az_E.sn 2 (pc' := 144) (L' := [.ref 73, .int v1, .int v2, .retAddr 0, .retAddr 0]) (S' := [.int (1 : Int32)]) (σ' := (97, (az_u I 73 18 ((I 73 18) - (1 : Int32))), J, R)) rfl ?_
        have h := Option.some.inj h
        subst h
        exact az_E.ret (v := some (.int (1 : Int32))) (σ' := (97, (az_u I 73 18 ((I 73 18) - (1 : Int32))), J, R)) rfl hQ
      · rw [if_neg hc_75] at h
        refine az_E.sn 1 (pc' := 144) (L' := [.ref 73, .int v1, .int v2, .retAddr 0, .retAddr 0]) (S' := [.int (0 : Int32)]) (σ' := (97, (az_u I 73 18 ((I 73 18) - (1 : Int32))), J, R)) rfl ?_
        have h := Option.some.inj h
        subst h
        exact az_E.ret (v := some (.int (0 : Int32))) (σ' := (97, (az_u I 73 18 ((I 73 18) - (1 : Int32))), J, R)) rfl hQ
set_option maxRecDepth 100000 in
set_option maxHeartbeats 4000000 in
theorem re_M_one_83 {rec : az_GT} {d : Nat} {ex : az_X} {I : Nat → Nat → Int32} {J : Nat → Nat → Int64} {R : Nat → Nat → Option Nat} {v1 : Int32} {s0 : Int32} (hg_179 : ∀ (b1 b2 b3 b4 : Int32) (I : Nat → Nat → Int32) (o : Int32 × (Nat → Nat → Int32)), rec 179 b1 b2 b3 b4 I = some o → ∀ {J : Nat → Nat → Int64} {R : Nat → Nat → Option Nat} {Q : Option Value → az_S → Prop}, Q (some (.int o.1)) (97, o.2, J, R) → az_E az_F ex d 179 0 [.ref 73, .retAddr 0, .retAddr 0] [] (97, I, J, R) Q) (hg_180 : ∀ (b1 b2 b3 b4 : Int32) (I : Nat → Nat → Int32) (o : Int32 × (Nat → Nat → Int32)), rec 180 b1 b2 b3 b4 I = some o → ∀ {J : Nat → Nat → Int64} {R : Nat → Nat → Option Nat} {Q : Option Value → az_S → Prop}, Q (some (.int o.1)) (97, o.2, J, R) → az_E az_F ex d 180 0 [.ref 73, .retAddr 0, .retAddr 0] [] (97, I, J, R) Q) (hg_181 : ∀ (b1 b2 b3 b4 : Int32) (I : Nat → Nat → Int32) (o : Int32 × (Nat → Nat → Int32)), rec 181 b1 b2 b3 b4 I = some o → ∀ {J : Nat → Nat → Int64} {R : Nat → Nat → Option Nat} {Q : Option Value → az_S → Prop}, Q (some (.int o.1)) (97, o.2, J, R) → az_E az_F ex d 181 0 [.ref 73, .retAddr 0, .retAddr 0, .retAddr 0] [] (97, I, J, R) Q) (hg_182 : ∀ (b1 b2 b3 b4 : Int32) (I : Nat → Nat → Int32) (o : Int32 × (Nat → Nat → Int32)), rec 182 b1 b2 b3 b4 I = some o → ∀ {J : Nat → Nat → Int64} {R : Nat → Nat → Option Nat} {Q : Option Value → az_S → Prop}, Q (some (.int o.1)) (97, o.2, J, R) → az_E az_F ex d 182 0 [.ref 73, .retAddr 0, .retAddr 0, .retAddr 0] [] (97, I, J, R) Q) (hg_183 : ∀ (b1 b2 b3 b4 : Int32) (I : Nat → Nat → Int32) (o : Int32 × (Nat → Nat → Int32)), rec 183 b1 b2 b3 b4 I = some o → ∀ {J : Nat → Nat → Int64} {R : Nat → Nat → Option Nat} {Q : Option Value → az_S → Prop}, Q (some (.int o.1)) (97, o.2, J, R) → az_E az_F ex d 183 0 [.ref 73, .retAddr 0, .retAddr 0, .retAddr 0] [] (97, I, J, R) Q) (hg_185 : ∀ (b1 b2 b3 b4 : Int32) (I : Nat → Nat → Int32) (o : Int32 × (Nat → Nat → Int32)), rec 185 b1 b2 b3 b4 I = some o → ∀ {J : Nat → Nat → Int64} {R : Nat → Nat → Option Nat} {Q : Option Value → az_S → Prop}, Q (some (.int o.1)) (97, o.2, J, R) → az_E az_F ex d 185 0 [.ref 73, .retAddr 0, .retAddr 0, .retAddr 0, .retAddr 0] [] (97, I, J, R) Q) {x : Int32 × (Nat → Nat → Int32)} (h : rs_M_one_83 rec I v1 s0 = some x) {Q : Option Value → az_S → Prop} (hQ : Q (some (.int x.1)) (97, x.2, J, R)) : az_E az_F ex (d + 2) 185 83 [.ref 73, .int v1, .retAddr 0, .retAddr 0, .retAddr 0] [.int s0] (97, I, J, R) Q := by
  unfold rs_M_one_83 at h
  refine az_E.sn 3 (pc' := 87) (L' := [.ref 73, .int v1, .int s0, .retAddr 0, .retAddr 0]) (S' := [.int (40 : Int32), .int v1]) (σ' := (97, I, J, R)) rfl ?_
  refine az_E.br (c := v1 = (40 : Int32)) (tt := 90) (ff := 104) (L' := [.ref 73, .int v1, .int s0, .retAddr 0, .retAddr 0]) (S' := []) (σ' := (97, I, J, R)) rfl (fun hc_65 => ?_) (fun hc_65 => ?_)
  · rw [if_pos hc_65] at h
    refine az_E.sn 2 (pc' := 93) (L' := [.ref 73, .int v1, .int s0, .retAddr 0, .retAddr 0]) (S' := [.int (41 : Int32), .ref 73]) (σ' := (97, I, J, R)) rfl ?_
    cases hx_68 : rs_M_takesByte I (41 : Int32) with
    | none => rw [hx_68] at h; cases h
    | some o =>
      rw [hx_68] at h
      obtain ⟨x_66, I_67⟩ := o
      dsimp only at h
      refine az_E.call (d := (d + 1)) (k' := 178) (vs := [.ref 73, .int (41 : Int32)]) (pc' := 96) (S' := []) (Q1 := fun v s => v = some (.int x_66) ∧ s = (97, I_67, J, R)) rfl (az_E.deep (by omega) (re_M_takesByte (J := J) (R := R)  hx_68 ⟨rfl, rfl⟩)) (fun v s hq => ?_)
      obtain ⟨rfl, rfl⟩ := hq
      show az_E az_F ex (d + 2) 185 96 [.ref 73, .int v1, .int s0, .retAddr 0, .retAddr 0] [.int x_66] (97, I_67, J, R) _
      refine az_E.br (c := x_66 = 0) (tt := 99) (ff := 104) (L' := [.ref 73, .int v1, .int s0, .retAddr 0, .retAddr 0]) (S' := []) (σ' := (97, I_67, J, R)) rfl (fun hc_69 => ?_) (fun hc_69 => ?_)
      · rw [if_pos hc_69] at h
        refine az_E.sn 1 (pc' := 100) (L' := [.ref 73, .int v1, .int s0, .retAddr 0, .retAddr 0]) (S' := [.ref 73]) (σ' := (97, I_67, J, R)) rfl ?_
        cases hx_72 : rs_M_wrong I_67 with
        | none => rw [hx_72] at h; cases h
        | some o =>
          rw [hx_72] at h
          obtain ⟨x_70, I_71⟩ := o
          dsimp only at h
          refine az_E.call (d := (d + 1)) (k' := 177) (vs := [.ref 73]) (pc' := 103) (S' := []) (Q1 := fun v s => v = some (.int x_70) ∧ s = (97, I_71, J, R)) rfl (az_E.deep (by omega) (re_M_wrong (J := J) (R := R)  hx_72 ⟨rfl, rfl⟩)) (fun v s hq => ?_)
          obtain ⟨rfl, rfl⟩ := hq
          show az_E az_F ex (d + 2) 185 103 [.ref 73, .int v1, .int s0, .retAddr 0, .retAddr 0] [.int x_70] (97, I_71, J, R) _
          have h := Option.some.inj h
          subst h
          exact az_E.ret (v := some (.int x_70)) (σ' := (97, I_71, J, R)) rfl hQ
      · rw [if_neg hc_69] at h
        exact az_E.forget (L := [.ref 73, .int v1, .int s0, .retAddr 0, .retAddr 0]) ⟨rfl, rfl, rfl, trivial, trivial, trivial⟩ (re_M_one_104 (I := I_67) (J := J) (R := R) hg_179 hg_180 hg_181 hg_182 hg_183 hg_185 h hQ)
  · rw [if_neg hc_65] at h
    exact az_E.forget (L := [.ref 73, .int v1, .int s0, .retAddr 0, .retAddr 0]) ⟨rfl, rfl, rfl, trivial, trivial, trivial⟩ (re_M_one_104 (I := I) (J := J) (R := R) hg_179 hg_180 hg_181 hg_182 hg_183 hg_185 h hQ)
set_option maxRecDepth 100000 in
set_option maxHeartbeats 4000000 in
theorem re_M_one_32 {rec : az_GT} {d : Nat} {ex : az_X} {I : Nat → Nat → Int32} {J : Nat → Nat → Int64} {R : Nat → Nat → Option Nat} {v1 : Int32} (hg_179 : ∀ (b1 b2 b3 b4 : Int32) (I : Nat → Nat → Int32) (o : Int32 × (Nat → Nat → Int32)), rec 179 b1 b2 b3 b4 I = some o → ∀ {J : Nat → Nat → Int64} {R : Nat → Nat → Option Nat} {Q : Option Value → az_S → Prop}, Q (some (.int o.1)) (97, o.2, J, R) → az_E az_F ex d 179 0 [.ref 73, .retAddr 0, .retAddr 0] [] (97, I, J, R) Q) (hg_180 : ∀ (b1 b2 b3 b4 : Int32) (I : Nat → Nat → Int32) (o : Int32 × (Nat → Nat → Int32)), rec 180 b1 b2 b3 b4 I = some o → ∀ {J : Nat → Nat → Int64} {R : Nat → Nat → Option Nat} {Q : Option Value → az_S → Prop}, Q (some (.int o.1)) (97, o.2, J, R) → az_E az_F ex d 180 0 [.ref 73, .retAddr 0, .retAddr 0] [] (97, I, J, R) Q) (hg_181 : ∀ (b1 b2 b3 b4 : Int32) (I : Nat → Nat → Int32) (o : Int32 × (Nat → Nat → Int32)), rec 181 b1 b2 b3 b4 I = some o → ∀ {J : Nat → Nat → Int64} {R : Nat → Nat → Option Nat} {Q : Option Value → az_S → Prop}, Q (some (.int o.1)) (97, o.2, J, R) → az_E az_F ex d 181 0 [.ref 73, .retAddr 0, .retAddr 0, .retAddr 0] [] (97, I, J, R) Q) (hg_182 : ∀ (b1 b2 b3 b4 : Int32) (I : Nat → Nat → Int32) (o : Int32 × (Nat → Nat → Int32)), rec 182 b1 b2 b3 b4 I = some o → ∀ {J : Nat → Nat → Int64} {R : Nat → Nat → Option Nat} {Q : Option Value → az_S → Prop}, Q (some (.int o.1)) (97, o.2, J, R) → az_E az_F ex d 182 0 [.ref 73, .retAddr 0, .retAddr 0, .retAddr 0] [] (97, I, J, R) Q) (hg_183 : ∀ (b1 b2 b3 b4 : Int32) (I : Nat → Nat → Int32) (o : Int32 × (Nat → Nat → Int32)), rec 183 b1 b2 b3 b4 I = some o → ∀ {J : Nat → Nat → Int64} {R : Nat → Nat → Option Nat} {Q : Option Value → az_S → Prop}, Q (some (.int o.1)) (97, o.2, J, R) → az_E az_F ex d 183 0 [.ref 73, .retAddr 0, .retAddr 0, .retAddr 0] [] (97, I, J, R) Q) (hg_185 : ∀ (b1 b2 b3 b4 : Int32) (I : Nat → Nat → Int32) (o : Int32 × (Nat → Nat → Int32)), rec 185 b1 b2 b3 b4 I = some o → ∀ {J : Nat → Nat → Int64} {R : Nat → Nat → Option Nat} {Q : Option Value → az_S → Prop}, Q (some (.int o.1)) (97, o.2, J, R) → az_E az_F ex d 185 0 [.ref 73, .retAddr 0, .retAddr 0, .retAddr 0, .retAddr 0] [] (97, I, J, R) Q) {x : Int32 × (Nat → Nat → Int32)} (h : rs_M_one_32 rec I v1 = some x) {Q : Option Value → az_S → Prop} (hQ : Q (some (.int x.1)) (97, x.2, J, R)) : az_E az_F ex (d + 2) 185 32 [.ref 73, .int v1, .retAddr 0, .retAddr 0, .retAddr 0] [] (97, I, J, R) Q := by
  unfold rs_M_one_32 at h
  refine az_E.sn 3 (pc' := 38) (L' := [.ref 73, .int v1, .retAddr 0, .retAddr 0, .retAddr 0]) (S' := [.int (6 : Int32), .int (I 73 18)]) (σ' := (97, I, J, R)) rfl ?_
  refine az_E.br (c := (I 73 18) = (6 : Int32)) (tt := 41) (ff := 46) (L' := [.ref 73, .int v1, .retAddr 0, .retAddr 0, .retAddr 0]) (S' := []) (σ' := (97, I, J, R)) rfl (fun hc_57 => ?_) (fun hc_57 => ?_)
  · rw [if_pos hc_57] at h
    refine az_E.sn 1 (pc' := 42) (L' := [.ref 73, .int v1, .retAddr 0, .retAddr 0, .retAddr 0]) (S' := [.ref 73]) (σ' := (97, I, J, R)) rfl ?_
    cases hx_60 : rs_M_wrong I with
    | none => rw [hx_60] at h; cases h
    | some o =>
      rw [hx_60] at h
      obtain ⟨x_58, I_59⟩ := o
      dsimp only at h
      refine az_E.call (d := (d + 1)) (k' := 177) (vs := [.ref 73]) (pc' := 45) (S' := []) (Q1 := fun v s => v = some (.int x_58) ∧ s = (97, I_59, J, R)) rfl (az_E.deep (by omega) (re_M_wrong (J := J) (R := R)  hx_60 ⟨rfl, rfl⟩)) (fun v s hq => ?_)
      obtain ⟨rfl, rfl⟩ := hq
      show az_E az_F ex (d + 2) 185 45 [.ref 73, .int v1, .retAddr 0, .retAddr 0, .retAddr 0] [.int x_58] (97, I_59, J, R) _
      have h := Option.some.inj h
      subst h
      exact az_E.ret (v := some (.int x_58)) (σ' := (97, I_59, J, R)) rfl hQ
  · rw [if_neg hc_57] at h
    refine az_E.sn 14 (pc' := 69) (L' := [.ref 73, .int v1, .retAddr 0, .retAddr 0, .retAddr 0]) (S' := [.int (40 : Int32), .int v1]) (σ' := (97, (az_u (az_u I 73 18 ((I 73 18) + (1 : Int32))) 73 15 ((I 73 15) + (1 : Int32))), J, R)) rfl ?_
    refine az_E.br (c := v1 = (40 : Int32)) (tt := 72) (ff := 79) (L' := [.ref 73, .int v1, .retAddr 0, .retAddr 0, .retAddr 0]) (S' := []) (σ' := (97, (az_u (az_u I 73 18 ((I 73 18) + (1 : Int32))) 73 15 ((I 73 15) + (1 : Int32))), J, R)) rfl (fun hc_61 => ?_) (fun hc_61 => ?_)
    · rw [if_pos hc_61] at h
      refine az_E.sn 1 (pc' := 73) (L' := [.ref 73, .int v1, .retAddr 0, .retAddr 0, .retAddr 0]) (S' := [.ref 73]) (σ' := (97, (az_u (az_u I 73 18 ((I 73 18) + (1 : Int32))) 73 15 ((I 73 15) + (1 : Int32))), J, R)) rfl ?_
      cases hx_64 : rec 179 0 0 0 0 (az_u (az_u I 73 18 ((I 73 18) + (1 : Int32))) 73 15 ((I 73 15) + (1 : Int32))) with
      | none => rw [hx_64] at h; cases h
      | some o =>
        rw [hx_64] at h
        obtain ⟨x_62, I_63⟩ := o
        dsimp only at h
        refine az_E.call (d := (d + 1)) (k' := 179) (vs := [.ref 73]) (pc' := 76) (S' := []) (Q1 := fun v s => v = some (.int x_62) ∧ s = (97, I_63, J, R)) rfl (az_E.deep (by omega) (hg_179 _ _ _ _ _ _ hx_64 (J := J) (R := R)  ⟨rfl, rfl⟩)) (fun v s hq => ?_)
        obtain ⟨rfl, rfl⟩ := hq
        show az_E az_F ex (d + 2) 185 76 [.ref 73, .int v1, .retAddr 0, .retAddr 0, .retAddr 0] [.int x_62] (97, I_63, J, R) _
        refine az_E.sn 1 (pc' := 83) (L' := [.ref 73, .int v1, .retAddr 0, .retAddr 0, .retAddr 0]) (S' := [.int x_62]) (σ' := (97, I_63, J, R)) rfl ?_
        exact az_E.forget (L := [.ref 73, .int v1, .retAddr 0, .retAddr 0, .retAddr 0]) ⟨rfl, rfl, trivial, trivial, trivial, trivial⟩ (re_M_one_83 (I := I_63) (J := J) (R := R) hg_179 hg_180 hg_181 hg_182 hg_183 hg_185 h hQ)
    · rw [if_neg hc_61] at h
      refine az_E.sn 1 (pc' := 80) (L' := [.ref 73, .int v1, .retAddr 0, .retAddr 0, .retAddr 0]) (S' := [.ref 73]) (σ' := (97, (az_u (az_u I 73 18 ((I 73 18) + (1 : Int32))) 73 15 ((I 73 15) + (1 : Int32))), J, R)) rfl ?_
      cases hx_78 : rec 185 0 0 0 0 (az_u (az_u I 73 18 ((I 73 18) + (1 : Int32))) 73 15 ((I 73 15) + (1 : Int32))) with
      | none => rw [hx_78] at h; cases h
      | some o =>
        rw [hx_78] at h
        obtain ⟨x_76, I_77⟩ := o
        dsimp only at h
        refine az_E.call (d := (d + 1)) (k' := 185) (vs := [.ref 73]) (pc' := 83) (S' := []) (Q1 := fun v s => v = some (.int x_76) ∧ s = (97, I_77, J, R)) rfl (az_E.deep (by omega) (hg_185 _ _ _ _ _ _ hx_78 (J := J) (R := R)  ⟨rfl, rfl⟩)) (fun v s hq => ?_)
        obtain ⟨rfl, rfl⟩ := hq
        show az_E az_F ex (d + 2) 185 83 [.ref 73, .int v1, .retAddr 0, .retAddr 0, .retAddr 0] [.int x_76] (97, I_77, J, R) _
        exact az_E.forget (L := [.ref 73, .int v1, .retAddr 0, .retAddr 0, .retAddr 0]) ⟨rfl, rfl, trivial, trivial, trivial, trivial⟩ (re_M_one_83 (I := I_77) (J := J) (R := R) hg_179 hg_180 hg_181 hg_182 hg_183 hg_185 h hQ)
set_option maxRecDepth 100000 in
set_option maxHeartbeats 4000000 in
theorem re_M_one {rec : az_GT} {d : Nat} {ex : az_X} {I : Nat → Nat → Int32} {J : Nat → Nat → Int64} {R : Nat → Nat → Option Nat} (hg_179 : ∀ (b1 b2 b3 b4 : Int32) (I : Nat → Nat → Int32) (o : Int32 × (Nat → Nat → Int32)), rec 179 b1 b2 b3 b4 I = some o → ∀ {J : Nat → Nat → Int64} {R : Nat → Nat → Option Nat} {Q : Option Value → az_S → Prop}, Q (some (.int o.1)) (97, o.2, J, R) → az_E az_F ex d 179 0 [.ref 73, .retAddr 0, .retAddr 0] [] (97, I, J, R) Q) (hg_180 : ∀ (b1 b2 b3 b4 : Int32) (I : Nat → Nat → Int32) (o : Int32 × (Nat → Nat → Int32)), rec 180 b1 b2 b3 b4 I = some o → ∀ {J : Nat → Nat → Int64} {R : Nat → Nat → Option Nat} {Q : Option Value → az_S → Prop}, Q (some (.int o.1)) (97, o.2, J, R) → az_E az_F ex d 180 0 [.ref 73, .retAddr 0, .retAddr 0] [] (97, I, J, R) Q) (hg_181 : ∀ (b1 b2 b3 b4 : Int32) (I : Nat → Nat → Int32) (o : Int32 × (Nat → Nat → Int32)), rec 181 b1 b2 b3 b4 I = some o → ∀ {J : Nat → Nat → Int64} {R : Nat → Nat → Option Nat} {Q : Option Value → az_S → Prop}, Q (some (.int o.1)) (97, o.2, J, R) → az_E az_F ex d 181 0 [.ref 73, .retAddr 0, .retAddr 0, .retAddr 0] [] (97, I, J, R) Q) (hg_182 : ∀ (b1 b2 b3 b4 : Int32) (I : Nat → Nat → Int32) (o : Int32 × (Nat → Nat → Int32)), rec 182 b1 b2 b3 b4 I = some o → ∀ {J : Nat → Nat → Int64} {R : Nat → Nat → Option Nat} {Q : Option Value → az_S → Prop}, Q (some (.int o.1)) (97, o.2, J, R) → az_E az_F ex d 182 0 [.ref 73, .retAddr 0, .retAddr 0, .retAddr 0] [] (97, I, J, R) Q) (hg_183 : ∀ (b1 b2 b3 b4 : Int32) (I : Nat → Nat → Int32) (o : Int32 × (Nat → Nat → Int32)), rec 183 b1 b2 b3 b4 I = some o → ∀ {J : Nat → Nat → Int64} {R : Nat → Nat → Option Nat} {Q : Option Value → az_S → Prop}, Q (some (.int o.1)) (97, o.2, J, R) → az_E az_F ex d 183 0 [.ref 73, .retAddr 0, .retAddr 0, .retAddr 0] [] (97, I, J, R) Q) (hg_185 : ∀ (b1 b2 b3 b4 : Int32) (I : Nat → Nat → Int32) (o : Int32 × (Nat → Nat → Int32)), rec 185 b1 b2 b3 b4 I = some o → ∀ {J : Nat → Nat → Int64} {R : Nat → Nat → Option Nat} {Q : Option Value → az_S → Prop}, Q (some (.int o.1)) (97, o.2, J, R) → az_E az_F ex d 185 0 [.ref 73, .retAddr 0, .retAddr 0, .retAddr 0, .retAddr 0] [] (97, I, J, R) Q) {o : Int32 × (Nat → Nat → Int32)} (h : rs_M_one rec I = some o) {Q : Option Value → az_S → Prop} (hQ : Q (some (.int o.1)) (97, o.2, J, R)) : az_E az_F ex (d + 2) 185 0 [.ref 73, .retAddr 0, .retAddr 0, .retAddr 0, .retAddr 0] [] (97, I, J, R) Q := by
  unfold rs_M_one at h
  refine az_E.sn 2 (pc' := 4) (L' := [.ref 73, .retAddr 0, .retAddr 0, .retAddr 0, .retAddr 0]) (S' := [.int (I 73 17)]) (σ' := (97, I, J, R)) rfl ?_
  refine az_E.br (c := (I 73 17) < 0) (tt := 9) (ff := 7) (L' := [.ref 73, .retAddr 0, .retAddr 0, .retAddr 0, .retAddr 0]) (S' := []) (σ' := (97, I, J, R)) rfl (fun hc_1 => ?_) (fun hc_1 => ?_)
  · rw [if_pos hc_1] at h
    refine az_E.sn 1 (pc' := 10) (L' := [.ref 73, .retAddr 0, .retAddr 0, .retAddr 0, .retAddr 0]) (S' := [.ref 73]) (σ' := (97, I, J, R)) rfl ?_
    refine az_E.call (d := (d + 1)) (k' := 176) (vs := [.ref 73]) (pc' := 13) (S' := []) rfl ?_ (fun _ _ hq => hq)
    show az_E az_F ex (d + 1) 176 0 [.ref 73] [] (97, I, J, R) _
    refine az_E.sn 4 (pc' := 8) (L' := [.ref 73]) (S' := [.int (I 73 16), .int (I 73 15)]) (σ' := (97, I, J, R)) rfl ?_
    refine az_E.br (c := (I 73 16) ≤ (I 73 15)) (tt := 47) (ff := 11) (L' := [.ref 73]) (S' := []) (σ' := (97, I, J, R)) rfl (fun hc_2 => ?_) (fun hc_2 => ?_)
    · rw [if_pos hc_2] at h
      refine az_E.sn 1 (pc' := 48) (L' := [.ref 73]) (S' := [.int (0 : Int32)]) (σ' := (97, I, J, R)) rfl ?_
      refine az_E.ret (v := some (.int (0 : Int32))) (σ' := (97, I, J, R)) rfl ?_
      show az_E az_F ex (d + 2) 185 13 [.ref 73, .retAddr 0, .retAddr 0, .retAddr 0, .retAddr 0] [.int (0 : Int32)] (97, I, J, R) _
      refine az_E.sn 3 (pc' := 17) (L' := [.ref 73, .int (0 : Int32), .retAddr 0, .retAddr 0, .retAddr 0]) (S' := [.int (33 : Int32), .int (0 : Int32)]) (σ' := (97, I, J, R)) rfl ?_
      refine az_E.br (c := (0 : Int32) = (33 : Int32)) (tt := 32) (ff := 20) (L' := [.ref 73, .int (0 : Int32), .retAddr 0, .retAddr 0, .retAddr 0]) (S' := []) (σ' := (97, I, J, R)) rfl (fun hn => absurd hn (by decide)) (fun _ => ?_)
      refine az_E.sn 2 (pc' := 23) (L' := [.ref 73, .int (0 : Int32), .retAddr 0, .retAddr 0, .retAddr 0]) (S' := [.int (45 : Int32), .int (0 : Int32)]) (σ' := (97, I, J, R)) rfl ?_
      refine az_E.br (c := (0 : Int32) = (45 : Int32)) (tt := 32) (ff := 26) (L' := [.ref 73, .int (0 : Int32), .retAddr 0, .retAddr 0, .retAddr 0]) (S' := []) (σ' := (97, I, J, R)) rfl (fun hn => absurd hn (by decide)) (fun _ => ?_)
      refine az_E.sn 2 (pc' := 29) (L' := [.ref 73, .int (0 : Int32), .retAddr 0, .retAddr 0, .retAddr 0]) (S' := [.int (40 : Int32), .int (0 : Int32)]) (σ' := (97, I, J, R)) rfl ?_
      refine az_E.br (c := (0 : Int32) = (40 : Int32)) (tt := 32) (ff := 145) (L' := [.ref 73, .int (0 : Int32), .retAddr 0, .retAddr 0, .retAddr 0]) (S' := []) (σ' := (97, I, J, R)) rfl (fun hn => absurd hn (by decide)) (fun _ => ?_)
      refine az_E.sn 1 (pc' := 146) (L' := [.ref 73, .int (0 : Int32), .retAddr 0, .retAddr 0, .retAddr 0]) (S' := [.int (0 : Int32)]) (σ' := (97, I, J, R)) rfl ?_
      cases hx_4 : rs_M_nameOf (0 : Int32) with
      | none => rw [hx_4] at h; cases h
      | some x_3 =>
        rw [hx_4] at h
        dsimp only at h
        refine az_E.call (d := (d + 1)) (k' := 184) (vs := [.int (0 : Int32)]) (pc' := 149) (S' := []) (Q1 := fun v s => v = some (.int x_3) ∧ s = (97, I, J, R)) rfl (az_E.deep (by omega) (re_M_nameOf (J := J) (R := R)  hx_4 ⟨rfl, rfl⟩)) (fun v s hq => ?_)
        obtain ⟨rfl, rfl⟩ := hq
        show az_E az_F ex (d + 2) 185 149 [.ref 73, .int (0 : Int32), .retAddr 0, .retAddr 0, .retAddr 0] [.int x_3] (97, I, J, R) _
        refine az_E.sn 2 (pc' := 151) (L' := [.ref 73, .int (0 : Int32), .int x_3, .retAddr 0, .retAddr 0]) (S' := [.int x_3]) (σ' := (97, I, J, R)) rfl ?_
        refine az_E.br (c := x_3 < 0) (tt := 171) (ff := 154) (L' := [.ref 73, .int (0 : Int32), .int x_3, .retAddr 0, .retAddr 0]) (S' := []) (σ' := (97, I, J, R)) rfl (fun hc_5 => ?_) (fun hc_5 => ?_)
        · rw [if_pos hc_5] at h
          refine az_E.sn 4 (pc' := 176) (L' := [.ref 73, .int (0 : Int32), .int x_3, .int (0 : Int32), .int (0 : Int32)]) (S' := []) (σ' := (97, I, J, R)) rfl ?_
          exact az_E.forget (L := [.ref 73, .retAddr 0, .retAddr 0, .int (0 : Int32), .int (0 : Int32)]) ⟨rfl, trivial, trivial, rfl, rfl, trivial⟩ (re_M_one_176 (I := I) (J := J) (R := R) hg_179 hg_180 hg_181 hg_182 hg_183 hg_185 h hQ)
        · rw [if_neg hc_5] at h
          refine az_E.sn 9 (pc' := 169) (L' := [.ref 73, .int (0 : Int32), .int x_3, .retAddr 0, .retAddr 0]) (S' := [.int x_3, .ref 82]) (σ' := (97, (az_u I 73 15 ((I 73 15) + (1 : Int32))), J, R)) rfl ?_
          by_cases hc_53 : x_3 < 0 ∨ 6 ≤ x_3.toNatClampNeg
          · rw [if_pos hc_53] at h; cases h
          · rw [if_neg hc_53] at h
            refine az_E.oi (o := az_ai az_F ex (97, (az_u I 73 15 ((I 73 15) + (1 : Int32))), J, R) 82 x_3) (pc' := 170) (L' := [.ref 73, .int (0 : Int32), .int x_3, .retAddr 0, .retAddr 0]) (S' := []) (σ' := (97, (az_u I 73 15 ((I 73 15) + (1 : Int32))), J, R)) (x := (I 82 x_3.toNatClampNeg)) rfl (if_neg hc_53) ?_
            have h := Option.some.inj h
            subst h
            exact az_E.ret (v := some (.int (I 82 x_3.toNatClampNeg))) (σ' := (97, (az_u I 73 15 ((I 73 15) + (1 : Int32))), J, R)) rfl hQ
    · rw [if_neg hc_2] at h
      refine az_E.sn 2 (pc' := 15) (L' := [.ref 73]) (S' := [.int (I 73 14)]) (σ' := (97, I, J, R)) rfl ?_
      refine az_E.br (c := 0 ≤ (I 73 14)) (tt := 30) (ff := 18) (L' := [.ref 73]) (S' := []) (σ' := (97, I, J, R)) rfl (fun hc_54 => ?_) (fun hc_54 => ?_)
      · rw [if_pos hc_54] at h
        refine az_E.sn 7 (pc' := 43) (L' := [.ref 73]) (S' := [.int ((I 73 14) + (I 73 15)), .ref 81]) (σ' := (97, I, J, R)) rfl ?_
        by_cases hc_55 : ((I 73 14) + (I 73 15)) < 0 ∨ 120 ≤ ((I 73 14) + (I 73 15)).toNatClampNeg
        · rw [if_pos hc_55] at h; cases h
        · rw [if_neg hc_55] at h
          refine az_E.oi (o := az_ai az_F ex (97, I, J, R) 81 ((I 73 14) + (I 73 15))) (pc' := 44) (L' := [.ref 73]) (S' := []) (σ' := (97, I, J, R)) (x := (I 81 ((I 73 14) + (I 73 15)).toNatClampNeg)) rfl (if_neg hc_55) ?_
          refine az_E.sn 1 (pc' := 48) (L' := [.ref 73]) (S' := [.int (I 81 ((I 73 14) + (I 73 15)).toNatClampNeg)]) (σ' := (97, I, J, R)) rfl ?_
          refine az_E.ret (v := some (.int (I 81 ((I 73 14) + (I 73 15)).toNatClampNeg))) (σ' := (97, I, J, R)) rfl ?_
          show az_E az_F ex (d + 2) 185 13 [.ref 73, .retAddr 0, .retAddr 0, .retAddr 0, .retAddr 0] [.int (I 81 ((I 73 14) + (I 73 15)).toNatClampNeg)] (97, I, J, R) _
          refine az_E.sn 3 (pc' := 17) (L' := [.ref 73, .int (I 81 ((I 73 14) + (I 73 15)).toNatClampNeg), .retAddr 0, .retAddr 0, .retAddr 0]) (S' := [.int (33 : Int32), .int (I 81 ((I 73 14) + (I 73 15)).toNatClampNeg)]) (σ' := (97, I, J, R)) rfl ?_
          refine az_E.br (c := (I 81 ((I 73 14) + (I 73 15)).toNatClampNeg) = (33 : Int32)) (tt := 32) (ff := 20) (L' := [.ref 73, .int (I 81 ((I 73 14) + (I 73 15)).toNatClampNeg), .retAddr 0, .retAddr 0, .retAddr 0]) (S' := []) (σ' := (97, I, J, R)) rfl (fun hc_56 => ?_) (fun hc_56 => ?_)
          · rw [if_pos hc_56] at h
            exact az_E.forget (L := [.ref 73, .int (I 81 ((I 73 14) + (I 73 15)).toNatClampNeg), .retAddr 0, .retAddr 0, .retAddr 0]) ⟨rfl, rfl, trivial, trivial, trivial, trivial⟩ (re_M_one_32 (I := I) (J := J) (R := R) hg_179 hg_180 hg_181 hg_182 hg_183 hg_185 h hQ)
          · rw [if_neg hc_56] at h
            refine az_E.sn 2 (pc' := 23) (L' := [.ref 73, .int (I 81 ((I 73 14) + (I 73 15)).toNatClampNeg), .retAddr 0, .retAddr 0, .retAddr 0]) (S' := [.int (45 : Int32), .int (I 81 ((I 73 14) + (I 73 15)).toNatClampNeg)]) (σ' := (97, I, J, R)) rfl ?_
            refine az_E.br (c := (I 81 ((I 73 14) + (I 73 15)).toNatClampNeg) = (45 : Int32)) (tt := 32) (ff := 26) (L' := [.ref 73, .int (I 81 ((I 73 14) + (I 73 15)).toNatClampNeg), .retAddr 0, .retAddr 0, .retAddr 0]) (S' := []) (σ' := (97, I, J, R)) rfl (fun hc_79 => ?_) (fun hc_79 => ?_)
            · rw [if_pos hc_79] at h
              exact az_E.forget (L := [.ref 73, .int (I 81 ((I 73 14) + (I 73 15)).toNatClampNeg), .retAddr 0, .retAddr 0, .retAddr 0]) ⟨rfl, rfl, trivial, trivial, trivial, trivial⟩ (re_M_one_32 (I := I) (J := J) (R := R) hg_179 hg_180 hg_181 hg_182 hg_183 hg_185 h hQ)
            · rw [if_neg hc_79] at h
              refine az_E.sn 2 (pc' := 29) (L' := [.ref 73, .int (I 81 ((I 73 14) + (I 73 15)).toNatClampNeg), .retAddr 0, .retAddr 0, .retAddr 0]) (S' := [.int (40 : Int32), .int (I 81 ((I 73 14) + (I 73 15)).toNatClampNeg)]) (σ' := (97, I, J, R)) rfl ?_
              refine az_E.br (c := (I 81 ((I 73 14) + (I 73 15)).toNatClampNeg) = (40 : Int32)) (tt := 32) (ff := 145) (L' := [.ref 73, .int (I 81 ((I 73 14) + (I 73 15)).toNatClampNeg), .retAddr 0, .retAddr 0, .retAddr 0]) (S' := []) (σ' := (97, I, J, R)) rfl (fun hc_80 => ?_) (fun hc_80 => ?_)
              · rw [if_pos hc_80] at h
                exact az_E.forget (L := [.ref 73, .int (I 81 ((I 73 14) + (I 73 15)).toNatClampNeg), .retAddr 0, .retAddr 0, .retAddr 0]) ⟨rfl, rfl, trivial, trivial, trivial, trivial⟩ (re_M_one_32 (I := I) (J := J) (R := R) hg_179 hg_180 hg_181 hg_182 hg_183 hg_185 h hQ)
              · rw [if_neg hc_80] at h
                refine az_E.sn 1 (pc' := 146) (L' := [.ref 73, .int (I 81 ((I 73 14) + (I 73 15)).toNatClampNeg), .retAddr 0, .retAddr 0, .retAddr 0]) (S' := [.int (I 81 ((I 73 14) + (I 73 15)).toNatClampNeg)]) (σ' := (97, I, J, R)) rfl ?_
                cases hx_82 : rs_M_nameOf (I 81 ((I 73 14) + (I 73 15)).toNatClampNeg) with
                | none => rw [hx_82] at h; cases h
                | some x_81 =>
                  rw [hx_82] at h
                  dsimp only at h
                  refine az_E.call (d := (d + 1)) (k' := 184) (vs := [.int (I 81 ((I 73 14) + (I 73 15)).toNatClampNeg)]) (pc' := 149) (S' := []) (Q1 := fun v s => v = some (.int x_81) ∧ s = (97, I, J, R)) rfl (az_E.deep (by omega) (re_M_nameOf (J := J) (R := R)  hx_82 ⟨rfl, rfl⟩)) (fun v s hq => ?_)
                  obtain ⟨rfl, rfl⟩ := hq
                  show az_E az_F ex (d + 2) 185 149 [.ref 73, .int (I 81 ((I 73 14) + (I 73 15)).toNatClampNeg), .retAddr 0, .retAddr 0, .retAddr 0] [.int x_81] (97, I, J, R) _
                  refine az_E.sn 2 (pc' := 151) (L' := [.ref 73, .int (I 81 ((I 73 14) + (I 73 15)).toNatClampNeg), .int x_81, .retAddr 0, .retAddr 0]) (S' := [.int x_81]) (σ' := (97, I, J, R)) rfl ?_
                  refine az_E.br (c := x_81 < 0) (tt := 171) (ff := 154) (L' := [.ref 73, .int (I 81 ((I 73 14) + (I 73 15)).toNatClampNeg), .int x_81, .retAddr 0, .retAddr 0]) (S' := []) (σ' := (97, I, J, R)) rfl (fun hc_83 => ?_) (fun hc_83 => ?_)
                  · rw [if_pos hc_83] at h
                    refine az_E.sn 4 (pc' := 176) (L' := [.ref 73, .int (I 81 ((I 73 14) + (I 73 15)).toNatClampNeg), .int x_81, .int (0 : Int32), .int (0 : Int32)]) (S' := []) (σ' := (97, I, J, R)) rfl ?_
                    exact az_E.forget (L := [.ref 73, .retAddr 0, .retAddr 0, .int (0 : Int32), .int (0 : Int32)]) ⟨rfl, trivial, trivial, rfl, rfl, trivial⟩ (re_M_one_176 (I := I) (J := J) (R := R) hg_179 hg_180 hg_181 hg_182 hg_183 hg_185 h hQ)
                  · rw [if_neg hc_83] at h
                    refine az_E.sn 9 (pc' := 169) (L' := [.ref 73, .int (I 81 ((I 73 14) + (I 73 15)).toNatClampNeg), .int x_81, .retAddr 0, .retAddr 0]) (S' := [.int x_81, .ref 82]) (σ' := (97, (az_u I 73 15 ((I 73 15) + (1 : Int32))), J, R)) rfl ?_
                    by_cases hc_84 : x_81 < 0 ∨ 6 ≤ x_81.toNatClampNeg
                    · rw [if_pos hc_84] at h; cases h
                    · rw [if_neg hc_84] at h
                      refine az_E.oi (o := az_ai az_F ex (97, (az_u I 73 15 ((I 73 15) + (1 : Int32))), J, R) 82 x_81) (pc' := 170) (L' := [.ref 73, .int (I 81 ((I 73 14) + (I 73 15)).toNatClampNeg), .int x_81, .retAddr 0, .retAddr 0]) (S' := []) (σ' := (97, (az_u I 73 15 ((I 73 15) + (1 : Int32))), J, R)) (x := (I 82 x_81.toNatClampNeg)) rfl (if_neg hc_84) ?_
                      have h := Option.some.inj h
                      subst h
                      exact az_E.ret (v := some (.int (I 82 x_81.toNatClampNeg))) (σ' := (97, (az_u I 73 15 ((I 73 15) + (1 : Int32))), J, R)) rfl hQ
      · rw [if_neg hc_54] at h
        refine az_E.sn 4 (pc' := 26) (L' := [.ref 73]) (S' := [.int (I 73 15), .ref 80]) (σ' := (97, I, J, R)) rfl ?_
        by_cases hc_85 : (I 73 15) < 0 ∨ 120 ≤ (I 73 15).toNatClampNeg
        · rw [if_pos hc_85] at h; cases h
        · rw [if_neg hc_85] at h
          refine az_E.oi (o := az_ai az_F ex (97, I, J, R) 80 (I 73 15)) (pc' := 27) (L' := [.ref 73]) (S' := []) (σ' := (97, I, J, R)) (x := (I 80 (I 73 15).toNatClampNeg)) rfl (if_neg hc_85) ?_
          refine az_E.sn 1 (pc' := 48) (L' := [.ref 73]) (S' := [.int (I 80 (I 73 15).toNatClampNeg)]) (σ' := (97, I, J, R)) rfl ?_
          refine az_E.ret (v := some (.int (I 80 (I 73 15).toNatClampNeg))) (σ' := (97, I, J, R)) rfl ?_
          show az_E az_F ex (d + 2) 185 13 [.ref 73, .retAddr 0, .retAddr 0, .retAddr 0, .retAddr 0] [.int (I 80 (I 73 15).toNatClampNeg)] (97, I, J, R) _
          refine az_E.sn 3 (pc' := 17) (L' := [.ref 73, .int (I 80 (I 73 15).toNatClampNeg), .retAddr 0, .retAddr 0, .retAddr 0]) (S' := [.int (33 : Int32), .int (I 80 (I 73 15).toNatClampNeg)]) (σ' := (97, I, J, R)) rfl ?_
          refine az_E.br (c := (I 80 (I 73 15).toNatClampNeg) = (33 : Int32)) (tt := 32) (ff := 20) (L' := [.ref 73, .int (I 80 (I 73 15).toNatClampNeg), .retAddr 0, .retAddr 0, .retAddr 0]) (S' := []) (σ' := (97, I, J, R)) rfl (fun hc_86 => ?_) (fun hc_86 => ?_)
          · rw [if_pos hc_86] at h
            exact az_E.forget (L := [.ref 73, .int (I 80 (I 73 15).toNatClampNeg), .retAddr 0, .retAddr 0, .retAddr 0]) ⟨rfl, rfl, trivial, trivial, trivial, trivial⟩ (re_M_one_32 (I := I) (J := J) (R := R) hg_179 hg_180 hg_181 hg_182 hg_183 hg_185 h hQ)
          · rw [if_neg hc_86] at h
            refine az_E.sn 2 (pc' := 23) (L' := [.ref 73, .int (I 80 (I 73 15).toNatClampNeg), .retAddr 0, .retAddr 0, .retAddr 0]) (S' := [.int (45 : Int32), .int (I 80 (I 73 15).toNatClampNeg)]) (σ' := (97, I, J, R)) rfl ?_
            refine az_E.br (c := (I 80 (I 73 15).toNatClampNeg) = (45 : Int32)) (tt := 32) (ff := 26) (L' := [.ref 73, .int (I 80 (I 73 15).toNatClampNeg), .retAddr 0, .retAddr 0, .retAddr 0]) (S' := []) (σ' := (97, I, J, R)) rfl (fun hc_87 => ?_) (fun hc_87 => ?_)
            · rw [if_pos hc_87] at h
              exact az_E.forget (L := [.ref 73, .int (I 80 (I 73 15).toNatClampNeg), .retAddr 0, .retAddr 0, .retAddr 0]) ⟨rfl, rfl, trivial, trivial, trivial, trivial⟩ (re_M_one_32 (I := I) (J := J) (R := R) hg_179 hg_180 hg_181 hg_182 hg_183 hg_185 h hQ)
            · rw [if_neg hc_87] at h
              refine az_E.sn 2 (pc' := 29) (L' := [.ref 73, .int (I 80 (I 73 15).toNatClampNeg), .retAddr 0, .retAddr 0, .retAddr 0]) (S' := [.int (40 : Int32), .int (I 80 (I 73 15).toNatClampNeg)]) (σ' := (97, I, J, R)) rfl ?_
              refine az_E.br (c := (I 80 (I 73 15).toNatClampNeg) = (40 : Int32)) (tt := 32) (ff := 145) (L' := [.ref 73, .int (I 80 (I 73 15).toNatClampNeg), .retAddr 0, .retAddr 0, .retAddr 0]) (S' := []) (σ' := (97, I, J, R)) rfl (fun hc_88 => ?_) (fun hc_88 => ?_)
              · rw [if_pos hc_88] at h
                exact az_E.forget (L := [.ref 73, .int (I 80 (I 73 15).toNatClampNeg), .retAddr 0, .retAddr 0, .retAddr 0]) ⟨rfl, rfl, trivial, trivial, trivial, trivial⟩ (re_M_one_32 (I := I) (J := J) (R := R) hg_179 hg_180 hg_181 hg_182 hg_183 hg_185 h hQ)
              · rw [if_neg hc_88] at h
                refine az_E.sn 1 (pc' := 146) (L' := [.ref 73, .int (I 80 (I 73 15).toNatClampNeg), .retAddr 0, .retAddr 0, .retAddr 0]) (S' := [.int (I 80 (I 73 15).toNatClampNeg)]) (σ' := (97, I, J, R)) rfl ?_
                cases hx_90 : rs_M_nameOf (I 80 (I 73 15).toNatClampNeg) with
                | none => rw [hx_90] at h; cases h
                | some x_89 =>
                  rw [hx_90] at h
                  dsimp only at h
                  refine az_E.call (d := (d + 1)) (k' := 184) (vs := [.int (I 80 (I 73 15).toNatClampNeg)]) (pc' := 149) (S' := []) (Q1 := fun v s => v = some (.int x_89) ∧ s = (97, I, J, R)) rfl (az_E.deep (by omega) (re_M_nameOf (J := J) (R := R)  hx_90 ⟨rfl, rfl⟩)) (fun v s hq => ?_)
                  obtain ⟨rfl, rfl⟩ := hq
                  show az_E az_F ex (d + 2) 185 149 [.ref 73, .int (I 80 (I 73 15).toNatClampNeg), .retAddr 0, .retAddr 0, .retAddr 0] [.int x_89] (97, I, J, R) _
                  refine az_E.sn 2 (pc' := 151) (L' := [.ref 73, .int (I 80 (I 73 15).toNatClampNeg), .int x_89, .retAddr 0, .retAddr 0]) (S' := [.int x_89]) (σ' := (97, I, J, R)) rfl ?_
                  refine az_E.br (c := x_89 < 0) (tt := 171) (ff := 154) (L' := [.ref 73, .int (I 80 (I 73 15).toNatClampNeg), .int x_89, .retAddr 0, .retAddr 0]) (S' := []) (σ' := (97, I, J, R)) rfl (fun hc_91 => ?_) (fun hc_91 => ?_)
                  · rw [if_pos hc_91] at h
                    refine az_E.sn 4 (pc' := 176) (L' := [.ref 73, .int (I 80 (I 73 15).toNatClampNeg), .int x_89, .int (0 : Int32), .int (0 : Int32)]) (S' := []) (σ' := (97, I, J, R)) rfl ?_
                    exact az_E.forget (L := [.ref 73, .retAddr 0, .retAddr 0, .int (0 : Int32), .int (0 : Int32)]) ⟨rfl, trivial, trivial, rfl, rfl, trivial⟩ (re_M_one_176 (I := I) (J := J) (R := R) hg_179 hg_180 hg_181 hg_182 hg_183 hg_185 h hQ)
                  · rw [if_neg hc_91] at h
                    refine az_E.sn 9 (pc' := 169) (L' := [.ref 73, .int (I 80 (I 73 15).toNatClampNeg), .int x_89, .retAddr 0, .retAddr 0]) (S' := [.int x_89, .ref 82]) (σ' := (97, (az_u I 73 15 ((I 73 15) + (1 : Int32))), J, R)) rfl ?_
                    by_cases hc_92 : x_89 < 0 ∨ 6 ≤ x_89.toNatClampNeg
                    · rw [if_pos hc_92] at h; cases h
                    · rw [if_neg hc_92] at h
                      refine az_E.oi (o := az_ai az_F ex (97, (az_u I 73 15 ((I 73 15) + (1 : Int32))), J, R) 82 x_89) (pc' := 170) (L' := [.ref 73, .int (I 80 (I 73 15).toNatClampNeg), .int x_89, .retAddr 0, .retAddr 0]) (S' := []) (σ' := (97, (az_u I 73 15 ((I 73 15) + (1 : Int32))), J, R)) (x := (I 82 x_89.toNatClampNeg)) rfl (if_neg hc_92) ?_
                      have h := Option.some.inj h
                      subst h
                      exact az_E.ret (v := some (.int (I 82 x_89.toNatClampNeg))) (σ' := (97, (az_u I 73 15 ((I 73 15) + (1 : Int32))), J, R)) rfl hQ
  · rw [if_neg hc_1] at h
    refine az_E.sn 1 (pc' := 8) (L' := [.ref 73, .retAddr 0, .retAddr 0, .retAddr 0, .retAddr 0]) (S' := [.int (0 : Int32)]) (σ' := (97, I, J, R)) rfl ?_
    have h := Option.some.inj h
    subst h
    exact az_E.ret (v := some (.int (0 : Int32))) (σ' := (97, I, J, R)) rfl hQ
set_option maxRecDepth 100000 in
set_option maxHeartbeats 4000000 in
theorem re_G3 {ex : az_X} : ∀ n : Nat, (∀ (b1 b2 b3 b4 : Int32) (I : Nat → Nat → Int32) (o : Int32 × (Nat → Nat → Int32)), rs_G3 n 179 b1 b2 b3 b4 I = some o → ∀ {J : Nat → Nat → Int64} {R : Nat → Nat → Option Nat} {Q : Option Value → az_S → Prop}, Q (some (.int o.1)) (97, o.2, J, R) → az_E az_F ex (n * 2) 179 0 [.ref 73, .retAddr 0, .retAddr 0] [] (97, I, J, R) Q) ∧ (∀ (b1 b2 b3 b4 : Int32) (I : Nat → Nat → Int32) (o : Int32 × (Nat → Nat → Int32)), rs_G3 n 180 b1 b2 b3 b4 I = some o → ∀ {J : Nat → Nat → Int64} {R : Nat → Nat → Option Nat} {Q : Option Value → az_S → Prop}, Q (some (.int o.1)) (97, o.2, J, R) → az_E az_F ex (n * 2) 180 0 [.ref 73, .retAddr 0, .retAddr 0] [] (97, I, J, R) Q) ∧ (∀ (b1 b2 b3 b4 : Int32) (I : Nat → Nat → Int32) (o : Int32 × (Nat → Nat → Int32)), rs_G3 n 181 b1 b2 b3 b4 I = some o → ∀ {J : Nat → Nat → Int64} {R : Nat → Nat → Option Nat} {Q : Option Value → az_S → Prop}, Q (some (.int o.1)) (97, o.2, J, R) → az_E az_F ex (n * 2) 181 0 [.ref 73, .retAddr 0, .retAddr 0, .retAddr 0] [] (97, I, J, R) Q) ∧ (∀ (b1 b2 b3 b4 : Int32) (I : Nat → Nat → Int32) (o : Int32 × (Nat → Nat → Int32)), rs_G3 n 182 b1 b2 b3 b4 I = some o → ∀ {J : Nat → Nat → Int64} {R : Nat → Nat → Option Nat} {Q : Option Value → az_S → Prop}, Q (some (.int o.1)) (97, o.2, J, R) → az_E az_F ex (n * 2) 182 0 [.ref 73, .retAddr 0, .retAddr 0, .retAddr 0] [] (97, I, J, R) Q) ∧ (∀ (b1 b2 b3 b4 : Int32) (I : Nat → Nat → Int32) (o : Int32 × (Nat → Nat → Int32)), rs_G3 n 183 b1 b2 b3 b4 I = some o → ∀ {J : Nat → Nat → Int64} {R : Nat → Nat → Option Nat} {Q : Option Value → az_S → Prop}, Q (some (.int o.1)) (97, o.2, J, R) → az_E az_F ex (n * 2) 183 0 [.ref 73, .retAddr 0, .retAddr 0, .retAddr 0] [] (97, I, J, R) Q) ∧ (∀ (b1 b2 b3 b4 : Int32) (I : Nat → Nat → Int32) (o : Int32 × (Nat → Nat → Int32)), rs_G3 n 185 b1 b2 b3 b4 I = some o → ∀ {J : Nat → Nat → Int64} {R : Nat → Nat → Option Nat} {Q : Option Value → az_S → Prop}, Q (some (.int o.1)) (97, o.2, J, R) → az_E az_F ex (n * 2) 185 0 [.ref 73, .retAddr 0, .retAddr 0, .retAddr 0, .retAddr 0] [] (97, I, J, R) Q) := by
  intro n
  induction n with
  | zero =>
    refine ⟨?_, ?_, ?_, ?_, ?_, ?_⟩
    all_goals (intro b1 b2 b3 b4 I o h; cases h)
  | succ n ih =>
    obtain ⟨hg_179, hg_180, hg_181, hg_182, hg_183, hg_185⟩ := ih
    have e : (n + 1) * 2 = n * 2 + 2 := by omega
    rw [e]
    refine ⟨?_, ?_, ?_, ?_, ?_, ?_⟩
    · intro b1 b2 b3 b4 I o h J R Q  hQ
      replace h : rs_M_either (rs_G3 n)  I  = some o := h
      exact re_M_either hg_179 hg_180 hg_181 hg_182 hg_183 hg_185  h hQ
    · intro b1 b2 b3 b4 I o h J R Q  hQ
      replace h : rs_M_both (rs_G3 n)  I  = some o := h
      exact re_M_both hg_179 hg_180 hg_181 hg_182 hg_183 hg_185  h hQ
    · intro b1 b2 b3 b4 I o h J R Q  hQ
      replace h : rs_M_compared (rs_G3 n)  I  = some o := h
      exact re_M_compared hg_179 hg_180 hg_181 hg_182 hg_183 hg_185  h hQ
    · intro b1 b2 b3 b4 I o h J R Q  hQ
      replace h : rs_M_sums (rs_G3 n)  I  = some o := h
      exact re_M_sums hg_179 hg_180 hg_181 hg_182 hg_183 hg_185  h hQ
    · intro b1 b2 b3 b4 I o h J R Q  hQ
      replace h : rs_M_product (rs_G3 n)  I  = some o := h
      exact re_M_product hg_179 hg_180 hg_181 hg_182 hg_183 hg_185  h hQ
    · intro b1 b2 b3 b4 I o h J R Q  hQ
      replace h : rs_M_one (rs_G3 n)  I  = some o := h
      exact re_M_one hg_179 hg_180 hg_181 hg_182 hg_183 hg_185  h hQ
set_option maxRecDepth 100000 in
set_option maxHeartbeats 4000000 in
theorem re_G3_179 {ex : az_X} {n : Nat} : ∀ (b1 b2 b3 b4 : Int32) (I : Nat → Nat → Int32) (o : Int32 × (Nat → Nat → Int32)), rs_G3 n 179 b1 b2 b3 b4 I = some o → ∀ {J : Nat → Nat → Int64} {R : Nat → Nat → Option Nat} {Q : Option Value → az_S → Prop}, Q (some (.int o.1)) (97, o.2, J, R) → az_E az_F ex (n * 2) 179 0 [.ref 73, .retAddr 0, .retAddr 0] [] (97, I, J, R) Q := (re_G3 n).1
set_option maxRecDepth 100000 in
set_option maxHeartbeats 4000000 in
theorem re_G3_180 {ex : az_X} {n : Nat} : ∀ (b1 b2 b3 b4 : Int32) (I : Nat → Nat → Int32) (o : Int32 × (Nat → Nat → Int32)), rs_G3 n 180 b1 b2 b3 b4 I = some o → ∀ {J : Nat → Nat → Int64} {R : Nat → Nat → Option Nat} {Q : Option Value → az_S → Prop}, Q (some (.int o.1)) (97, o.2, J, R) → az_E az_F ex (n * 2) 180 0 [.ref 73, .retAddr 0, .retAddr 0] [] (97, I, J, R) Q := (re_G3 n).2.1
set_option maxRecDepth 100000 in
set_option maxHeartbeats 4000000 in
theorem re_G3_181 {ex : az_X} {n : Nat} : ∀ (b1 b2 b3 b4 : Int32) (I : Nat → Nat → Int32) (o : Int32 × (Nat → Nat → Int32)), rs_G3 n 181 b1 b2 b3 b4 I = some o → ∀ {J : Nat → Nat → Int64} {R : Nat → Nat → Option Nat} {Q : Option Value → az_S → Prop}, Q (some (.int o.1)) (97, o.2, J, R) → az_E az_F ex (n * 2) 181 0 [.ref 73, .retAddr 0, .retAddr 0, .retAddr 0] [] (97, I, J, R) Q := (re_G3 n).2.2.1
set_option maxRecDepth 100000 in
set_option maxHeartbeats 4000000 in
theorem re_G3_182 {ex : az_X} {n : Nat} : ∀ (b1 b2 b3 b4 : Int32) (I : Nat → Nat → Int32) (o : Int32 × (Nat → Nat → Int32)), rs_G3 n 182 b1 b2 b3 b4 I = some o → ∀ {J : Nat → Nat → Int64} {R : Nat → Nat → Option Nat} {Q : Option Value → az_S → Prop}, Q (some (.int o.1)) (97, o.2, J, R) → az_E az_F ex (n * 2) 182 0 [.ref 73, .retAddr 0, .retAddr 0, .retAddr 0] [] (97, I, J, R) Q := (re_G3 n).2.2.2.1
set_option maxRecDepth 100000 in
set_option maxHeartbeats 4000000 in
theorem re_G3_183 {ex : az_X} {n : Nat} : ∀ (b1 b2 b3 b4 : Int32) (I : Nat → Nat → Int32) (o : Int32 × (Nat → Nat → Int32)), rs_G3 n 183 b1 b2 b3 b4 I = some o → ∀ {J : Nat → Nat → Int64} {R : Nat → Nat → Option Nat} {Q : Option Value → az_S → Prop}, Q (some (.int o.1)) (97, o.2, J, R) → az_E az_F ex (n * 2) 183 0 [.ref 73, .retAddr 0, .retAddr 0, .retAddr 0] [] (97, I, J, R) Q := (re_G3 n).2.2.2.2.1
set_option maxRecDepth 100000 in
set_option maxHeartbeats 4000000 in
theorem re_G3_185 {ex : az_X} {n : Nat} : ∀ (b1 b2 b3 b4 : Int32) (I : Nat → Nat → Int32) (o : Int32 × (Nat → Nat → Int32)), rs_G3 n 185 b1 b2 b3 b4 I = some o → ∀ {J : Nat → Nat → Int64} {R : Nat → Nat → Option Nat} {Q : Option Value → az_S → Prop}, Q (some (.int o.1)) (97, o.2, J, R) → az_E az_F ex (n * 2) 185 0 [.ref 73, .retAddr 0, .retAddr 0, .retAddr 0, .retAddr 0] [] (97, I, J, R) Q := (re_G3 n).2.2.2.2.2
set_option maxRecDepth 100000 in
set_option maxHeartbeats 4000000 in
theorem re_M_workOut_107 {ex : az_X} {I : Nat → Nat → Int32} {J : Nat → Nat → Int64} {R : Nat → Nat → Option Nat} {v4 : Int32} {x : Int32 × (Nat → Nat → Int32)} (h : rs_M_workOut_107 I v4 = some x) {Q : Option Value → az_S → Prop} (hQ : Q (some (.int x.1)) (97, x.2, J, R)) : az_E az_F ex 121 186 107 [.ref 73, .retAddr 0, .retAddr 0, .retAddr 0, .int v4, .retAddr 0, .retAddr 0, .retAddr 0] [] (97, I, J, R) Q := by
  unfold rs_M_workOut_107 at h
  refine az_E.sn 2 (pc' := 111) (L' := [.ref 73, .retAddr 0, .retAddr 0, .retAddr 0, .int v4, .retAddr 0, .retAddr 0, .retAddr 0]) (S' := [.int (I 73 17)]) (σ' := (97, I, J, R)) rfl ?_
  refine az_E.br (c := 0 ≤ (I 73 17)) (tt := 130) (ff := 114) (L' := [.ref 73, .retAddr 0, .retAddr 0, .retAddr 0, .int v4, .retAddr 0, .retAddr 0, .retAddr 0]) (S' := []) (σ' := (97, I, J, R)) rfl (fun hc_2 => ?_) (fun hc_2 => ?_)
  · rw [if_pos hc_2] at h
    refine az_E.sn 1 (pc' := 132) (L' := [.ref 73, .retAddr 0, .retAddr 0, .retAddr 0, .int v4, .retAddr 0, .retAddr 0, .retAddr 0]) (S' := [.int v4]) (σ' := (97, I, J, R)) rfl ?_
    have h := Option.some.inj h
    subst h
    exact az_E.ret (v := some (.int v4)) (σ' := (97, I, J, R)) rfl hQ
  · rw [if_neg hc_2] at h
    refine az_E.sn 4 (pc' := 122) (L' := [.ref 73, .retAddr 0, .retAddr 0, .retAddr 0, .int v4, .retAddr 0, .retAddr 0, .retAddr 0]) (S' := [.int (I 73 16), .int (I 73 15)]) (σ' := (97, I, J, R)) rfl ?_
    refine az_E.br (c := (I 73 16) ≤ (I 73 15)) (tt := 130) (ff := 125) (L' := [.ref 73, .retAddr 0, .retAddr 0, .retAddr 0, .int v4, .retAddr 0, .retAddr 0, .retAddr 0]) (S' := []) (σ' := (97, I, J, R)) rfl (fun hc_3 => ?_) (fun hc_3 => ?_)
    · rw [if_pos hc_3] at h
      refine az_E.sn 1 (pc' := 132) (L' := [.ref 73, .retAddr 0, .retAddr 0, .retAddr 0, .int v4, .retAddr 0, .retAddr 0, .retAddr 0]) (S' := [.int v4]) (σ' := (97, I, J, R)) rfl ?_
      have h := Option.some.inj h
      subst h
      exact az_E.ret (v := some (.int v4)) (σ' := (97, I, J, R)) rfl hQ
    · rw [if_neg hc_3] at h
      refine az_E.sn 1 (pc' := 126) (L' := [.ref 73, .retAddr 0, .retAddr 0, .retAddr 0, .int v4, .retAddr 0, .retAddr 0, .retAddr 0]) (S' := [.ref 73]) (σ' := (97, I, J, R)) rfl ?_
      cases hx_6 : rs_M_wrong I with
      | none => rw [hx_6] at h; cases h
      | some o =>
        rw [hx_6] at h
        obtain ⟨x_4, I_5⟩ := o
        dsimp only at h
        refine az_E.call (d := 120) (k' := 177) (vs := [.ref 73]) (pc' := 129) (S' := []) (Q1 := fun v s => v = some (.int x_4) ∧ s = (97, I_5, J, R)) rfl (az_E.deep (by omega) (re_M_wrong (J := J) (R := R)  hx_6 ⟨rfl, rfl⟩)) (fun v s hq => ?_)
        obtain ⟨rfl, rfl⟩ := hq
        show az_E az_F ex 121 186 129 [.ref 73, .retAddr 0, .retAddr 0, .retAddr 0, .int v4, .retAddr 0, .retAddr 0, .retAddr 0] [.int x_4] (97, I_5, J, R) _
        have h := Option.some.inj h
        subst h
        exact az_E.ret (v := some (.int x_4)) (σ' := (97, I_5, J, R)) rfl hQ
set_option maxRecDepth 100000 in
set_option maxHeartbeats 4000000 in
theorem re_M_workOut_96 {ex : az_X} {I : Nat → Nat → Int32} {J : Nat → Nat → Int64} {R : Nat → Nat → Option Nat} {v3 : Int32} {v4 : Int32} {x : ((Int32 × Int32 × Int32 × (Nat → Nat → Int32)) ⊕ (Int32 × (Nat → Nat → Int32)))} (h : rs_M_workOut_96 I v3 v4 = some x) {Q : Option Value → az_S → Prop} (hQ : Sum.elim (fun s => az_E az_F ex 121 186 33 [.ref 73, .retAddr 0, .retAddr 0, .int s.1, .int s.2.1, .int s.2.2.1, .retAddr 0, .retAddr 0] [] (97, s.2.2.2, J, R) Q) (fun x => Q (some (.int x.1)) (97, x.2, J, R)) x) : az_E az_F ex 121 186 96 [.ref 73, .retAddr 0, .retAddr 0, .int v3, .int v4, .retAddr 0, .retAddr 0, .retAddr 0] [] (97, I, J, R) Q := by
  unfold rs_M_workOut_96 at h
  refine az_E.sn 2 (pc' := 99) (L' := [.ref 73, .retAddr 0, .retAddr 0, .int v3, .int v4, .retAddr 0, .retAddr 0, .retAddr 0]) (S' := [.int (59 : Int32), .ref 73]) (σ' := (97, I, J, R)) rfl ?_
  cases hx_17 : rs_M_takesByte I (59 : Int32) with
  | none => rw [hx_17] at h; cases h
  | some o =>
    rw [hx_17] at h
    obtain ⟨x_15, I_16⟩ := o
    dsimp only at h
    refine az_E.call (d := 120) (k' := 178) (vs := [.ref 73, .int (59 : Int32)]) (pc' := 102) (S' := []) (Q1 := fun v s => v = some (.int x_15) ∧ s = (97, I_16, J, R)) rfl (az_E.deep (by omega) (re_M_takesByte (J := J) (R := R)  hx_17 ⟨rfl, rfl⟩)) (fun v s hq => ?_)
    obtain ⟨rfl, rfl⟩ := hq
    show az_E az_F ex 121 186 102 [.ref 73, .retAddr 0, .retAddr 0, .int v3, .int v4, .retAddr 0, .retAddr 0, .retAddr 0] [.int x_15] (97, I_16, J, R) _
    refine az_E.sn 2 (pc' := 33) (L' := [.ref 73, .retAddr 0, .retAddr 0, .int v3, .int v4, .int x_15, .retAddr 0, .retAddr 0]) (S' := []) (σ' := (97, I_16, J, R)) rfl ?_
    have h := Option.some.inj h
    subst h
    exact az_E.forget (L := [.ref 73, .retAddr 0, .retAddr 0, .int v3, .int v4, .int x_15, .retAddr 0, .retAddr 0]) ⟨rfl, trivial, trivial, rfl, rfl, rfl, trivial, trivial, trivial⟩ hQ
set_option maxRecDepth 100000 in
set_option maxHeartbeats 4000000 in
theorem re_M_workOut_74 {ex : az_X} {I : Nat → Nat → Int32} {J : Nat → Nat → Int64} {R : Nat → Nat → Option Nat} {v3 : Int32} {v4 : Int32} {v6 : Int32} {v7 : Int32} {x : ((Int32 × Int32 × Int32 × (Nat → Nat → Int32)) ⊕ (Int32 × (Nat → Nat → Int32)))} (h : rs_M_workOut_74 I v3 v4 v6 v7 = some x) {Q : Option Value → az_S → Prop} (hQ : Sum.elim (fun s => az_E az_F ex 121 186 33 [.ref 73, .retAddr 0, .retAddr 0, .int s.1, .int s.2.1, .int s.2.2.1, .retAddr 0, .retAddr 0] [] (97, s.2.2.2, J, R) Q) (fun x => Q (some (.int x.1)) (97, x.2, J, R)) x) : az_E az_F ex 121 186 74 [.ref 73, .retAddr 0, .retAddr 0, .int v3, .int v4, .retAddr 0, .int v6, .int v7] [] (97, I, J, R) Q := by
  unfold rs_M_workOut_74 at h
  refine az_E.sn 2 (pc' := 78) (L' := [.ref 73, .retAddr 0, .retAddr 0, .int v3, .int v4, .retAddr 0, .int v6, .int v7]) (S' := [.int (I 73 17)]) (σ' := (97, I, J, R)) rfl ?_
  refine az_E.br (c := 0 ≤ (I 73 17)) (tt := 96) (ff := 81) (L' := [.ref 73, .retAddr 0, .retAddr 0, .int v3, .int v4, .retAddr 0, .int v6, .int v7]) (S' := []) (σ' := (97, I, J, R)) rfl (fun hc_14 => ?_) (fun hc_14 => ?_)
  · rw [if_pos hc_14] at h
    exact az_E.forget (L := [.ref 73, .retAddr 0, .retAddr 0, .int v3, .int v4, .retAddr 0, .retAddr 0, .retAddr 0]) ⟨rfl, trivial, trivial, rfl, rfl, trivial, trivial, trivial, trivial⟩ (re_M_workOut_96 (I := I) (J := J) (R := R)  h hQ)
  · rw [if_neg hc_14] at h
    refine az_E.sn 1 (pc' := 83) (L' := [.ref 73, .retAddr 0, .retAddr 0, .int v3, .int v4, .retAddr 0, .int v6, .int v7]) (S' := [.int v7]) (σ' := (97, I, J, R)) rfl ?_
    refine az_E.br (c := v7 = 0) (tt := 96) (ff := 86) (L' := [.ref 73, .retAddr 0, .retAddr 0, .int v3, .int v4, .retAddr 0, .int v6, .int v7]) (S' := []) (σ' := (97, I, J, R)) rfl (fun hc_18 => ?_) (fun hc_18 => ?_)
    · rw [if_pos hc_18] at h
      exact az_E.forget (L := [.ref 73, .retAddr 0, .retAddr 0, .int v3, .int v4, .retAddr 0, .retAddr 0, .retAddr 0]) ⟨rfl, trivial, trivial, rfl, rfl, trivial, trivial, trivial, trivial⟩ (re_M_workOut_96 (I := I) (J := J) (R := R)  h hQ)
    · rw [if_neg hc_18] at h
      refine az_E.sn 1 (pc' := 87) (L' := [.ref 73, .retAddr 0, .retAddr 0, .int v3, .int v4, .retAddr 0, .int v6, .int v7]) (S' := [.int v3]) (σ' := (97, I, J, R)) rfl ?_
      refine az_E.br (c := v3 = 0) (tt := 90) (ff := 96) (L' := [.ref 73, .retAddr 0, .retAddr 0, .int v3, .int v4, .retAddr 0, .int v6, .int v7]) (S' := []) (σ' := (97, I, J, R)) rfl (fun hc_19 => ?_) (fun hc_19 => ?_)
      · rw [if_pos hc_19] at h
        refine az_E.sn 4 (pc' := 96) (L' := [.ref 73, .retAddr 0, .retAddr 0, .int (1 : Int32), .int v6, .retAddr 0, .int v6, .int v7]) (S' := []) (σ' := (97, I, J, R)) rfl ?_
        exact az_E.forget (L := [.ref 73, .retAddr 0, .retAddr 0, .int (1 : Int32), .int v6, .retAddr 0, .retAddr 0, .retAddr 0]) ⟨rfl, trivial, trivial, rfl, rfl, trivial, trivial, trivial, trivial⟩ (re_M_workOut_96 (I := I) (J := J) (R := R)  h hQ)
      · rw [if_neg hc_19] at h
        exact az_E.forget (L := [.ref 73, .retAddr 0, .retAddr 0, .int v3, .int v4, .retAddr 0, .retAddr 0, .retAddr 0]) ⟨rfl, trivial, trivial, rfl, rfl, trivial, trivial, trivial, trivial⟩ (re_M_workOut_96 (I := I) (J := J) (R := R)  h hQ)
set_option maxRecDepth 100000 in
set_option maxHeartbeats 4000000 in
theorem re_M_workOut_66 {ex : az_X} {I : Nat → Nat → Int32} {J : Nat → Nat → Int64} {R : Nat → Nat → Option Nat} {v3 : Int32} {v4 : Int32} {s0 : Int32} {x : ((Int32 × Int32 × Int32 × (Nat → Nat → Int32)) ⊕ (Int32 × (Nat → Nat → Int32)))} (h : rs_M_workOut_66 I v3 v4 s0 = some x) {Q : Option Value → az_S → Prop} (hQ : Sum.elim (fun s => az_E az_F ex 121 186 33 [.ref 73, .retAddr 0, .retAddr 0, .int s.1, .int s.2.1, .int s.2.2.1, .retAddr 0, .retAddr 0] [] (97, s.2.2.2, J, R) Q) (fun x => Q (some (.int x.1)) (97, x.2, J, R)) x) : az_E az_F ex 121 186 66 [.ref 73, .retAddr 0, .retAddr 0, .int v3, .int v4, .retAddr 0, .retAddr 0, .retAddr 0] [.int s0] (97, I, J, R) Q := by
  unfold rs_M_workOut_66 at h
  refine az_E.sn 2 (pc' := 69) (L' := [.ref 73, .retAddr 0, .retAddr 0, .int v3, .int v4, .retAddr 0, .retAddr 0, .int s0]) (S' := [.ref 73]) (σ' := (97, I, J, R)) rfl ?_
  cases hx_23 : rs_G3 60 179 0 0 0 0 I with
  | none => rw [hx_23] at h; cases h
  | some o =>
    rw [hx_23] at h
    obtain ⟨x_21, I_22⟩ := o
    dsimp only at h
    refine az_E.call (d := 120) (k' := 179) (vs := [.ref 73]) (pc' := 72) (S' := []) (Q1 := fun v s => v = some (.int x_21) ∧ s = (97, I_22, J, R)) rfl (az_E.deep (by omega) (re_G3_179 (n := 60) _ _ _ _ _ _ hx_23 (J := J) (R := R)  ⟨rfl, rfl⟩)) (fun v s hq => ?_)
    obtain ⟨rfl, rfl⟩ := hq
    show az_E az_F ex 121 186 72 [.ref 73, .retAddr 0, .retAddr 0, .int v3, .int v4, .retAddr 0, .retAddr 0, .int s0] [.int x_21] (97, I_22, J, R) _
    refine az_E.sn 1 (pc' := 74) (L' := [.ref 73, .retAddr 0, .retAddr 0, .int v3, .int v4, .retAddr 0, .int x_21, .int s0]) (S' := []) (σ' := (97, I_22, J, R)) rfl ?_
    exact az_E.forget (L := [.ref 73, .retAddr 0, .retAddr 0, .int v3, .int v4, .retAddr 0, .int x_21, .int s0]) ⟨rfl, trivial, trivial, rfl, rfl, trivial, rfl, rfl, trivial⟩ (re_M_workOut_74 (I := I_22) (J := J) (R := R)  h hQ)
set_option maxRecDepth 100000 in
set_option maxHeartbeats 4000000 in
theorem re_M_workOut_33_b {ex : az_X} {I : Nat → Nat → Int32} {J : Nat → Nat → Int64} {R : Nat → Nat → Option Nat} {v3 : Int32} {v4 : Int32} {v5 : Int32} {x : ((Int32 × Int32 × Int32 × (Nat → Nat → Int32)) ⊕ (Int32 × (Nat → Nat → Int32)))} (h : rs_M_workOut_33_b v3 v4 v5 I = some x) {Q : Option Value → az_S → Prop} (hQ : Sum.elim (fun s => az_E az_F ex 121 186 33 [.ref 73, .retAddr 0, .retAddr 0, .int s.1, .int s.2.1, .int s.2.2.1, .retAddr 0, .retAddr 0] [] (97, s.2.2.2, J, R) Q) (fun x => Q (some (.int x.1)) (97, x.2, J, R)) x) : az_E az_F ex 121 186 33 [.ref 73, .retAddr 0, .retAddr 0, .int v3, .int v4, .int v5, .retAddr 0, .retAddr 0] [] (97, I, J, R) Q := by
  unfold rs_M_workOut_33_b at h
  refine az_E.sn 1 (pc' := 35) (L' := [.ref 73, .retAddr 0, .retAddr 0, .int v3, .int v4, .int v5, .retAddr 0, .retAddr 0]) (S' := [.int v5]) (σ' := (97, I, J, R)) rfl ?_
  refine az_E.br (c := v5 = 0) (tt := 107) (ff := 38) (L' := [.ref 73, .retAddr 0, .retAddr 0, .int v3, .int v4, .int v5, .retAddr 0, .retAddr 0]) (S' := []) (σ' := (97, I, J, R)) rfl (fun hc_1 => ?_) (fun hc_1 => ?_)
  · rw [if_pos hc_1] at h
    obtain ⟨x, hx, rfl⟩ := Option.map_eq_some_iff.mp h
    exact az_E.forget (L := [.ref 73, .retAddr 0, .retAddr 0, .retAddr 0, .int v4, .retAddr 0, .retAddr 0, .retAddr 0]) ⟨rfl, trivial, trivial, trivial, rfl, trivial, trivial, trivial, trivial⟩ (re_M_workOut_107 (I := I) (J := J) (R := R)  hx hQ)
  · rw [if_neg hc_1] at h
    refine az_E.sn 1 (pc' := 39) (L' := [.ref 73, .retAddr 0, .retAddr 0, .int v3, .int v4, .int v5, .retAddr 0, .retAddr 0]) (S' := [.ref 73]) (σ' := (97, I, J, R)) rfl ?_
    cases hx_9 : rs_G3 60 179 0 0 0 0 I with
    | none => rw [hx_9] at h; cases h
    | some o =>
      rw [hx_9] at h
      obtain ⟨x_7, I_8⟩ := o
      dsimp only at h
      refine az_E.call (d := 120) (k' := 179) (vs := [.ref 73]) (pc' := 42) (S' := []) (Q1 := fun v s => v = some (.int x_7) ∧ s = (97, I_8, J, R)) rfl (az_E.deep (by omega) (re_G3_179 (n := 60) _ _ _ _ _ _ hx_9 (J := J) (R := R)  ⟨rfl, rfl⟩)) (fun v s hq => ?_)
      obtain ⟨rfl, rfl⟩ := hq
      show az_E az_F ex 121 186 42 [.ref 73, .retAddr 0, .retAddr 0, .int v3, .int v4, .int v5, .retAddr 0, .retAddr 0] [.int x_7] (97, I_8, J, R) _
      refine az_E.sn 5 (pc' := 50) (L' := [.ref 73, .retAddr 0, .retAddr 0, .int v3, .int v4, .int v5, .int x_7, .int (1 : Int32)]) (S' := [.int (63 : Int32), .ref 73]) (σ' := (97, I_8, J, R)) rfl ?_
      cases hx_12 : rs_M_takesByte I_8 (63 : Int32) with
      | none => rw [hx_12] at h; cases h
      | some o =>
        rw [hx_12] at h
        obtain ⟨x_10, I_11⟩ := o
        dsimp only at h
        refine az_E.call (d := 120) (k' := 178) (vs := [.ref 73, .int (63 : Int32)]) (pc' := 53) (S' := []) (Q1 := fun v s => v = some (.int x_10) ∧ s = (97, I_11, J, R)) rfl (az_E.deep (by omega) (re_M_takesByte (J := J) (R := R)  hx_12 ⟨rfl, rfl⟩)) (fun v s hq => ?_)
        obtain ⟨rfl, rfl⟩ := hq
        show az_E az_F ex 121 186 53 [.ref 73, .retAddr 0, .retAddr 0, .int v3, .int v4, .int v5, .int x_7, .int (1 : Int32)] [.int x_10] (97, I_11, J, R) _
        refine az_E.br (c := x_10 = 0) (tt := 74) (ff := 56) (L' := [.ref 73, .retAddr 0, .retAddr 0, .int v3, .int v4, .int v5, .int x_7, .int (1 : Int32)]) (S' := []) (σ' := (97, I_11, J, R)) rfl (fun hc_13 => ?_) (fun hc_13 => ?_)
        · rw [if_pos hc_13] at h
          exact az_E.forget (L := [.ref 73, .retAddr 0, .retAddr 0, .int v3, .int v4, .retAddr 0, .int x_7, .int (1 : Int32)]) ⟨rfl, trivial, trivial, rfl, rfl, trivial, rfl, rfl, trivial⟩ (re_M_workOut_74 (I := I_11) (J := J) (R := R)  h hQ)
        · rw [if_neg hc_13] at h
          refine az_E.sn 1 (pc' := 58) (L' := [.ref 73, .retAddr 0, .retAddr 0, .int v3, .int v4, .int v5, .int x_7, .int (1 : Int32)]) (S' := [.int x_7]) (σ' := (97, I_11, J, R)) rfl ?_
          refine az_E.br (c := x_7 = 0) (tt := 65) (ff := 61) (L' := [.ref 73, .retAddr 0, .retAddr 0, .int v3, .int v4, .int v5, .int x_7, .int (1 : Int32)]) (S' := []) (σ' := (97, I_11, J, R)) rfl (fun hc_20 => ?_) (fun hc_20 => ?_)
          · rw [if_pos hc_20] at h
            refine az_E.sn 1 (pc' := 66) (L' := [.ref 73, .retAddr 0, .retAddr 0, .int v3, .int v4, .int v5, .int x_7, .int (1 : Int32)]) (S' := [.int (0 : Int32)]) (σ' := (97, I_11, J, R)) rfl ?_
            exact az_E.forget (L := [.ref 73, .retAddr 0, .retAddr 0, .int v3, .int v4, .retAddr 0, .retAddr 0, .retAddr 0]) ⟨rfl, trivial, trivial, rfl, rfl, trivial, trivial, trivial, trivial⟩ (re_M_workOut_66 (I := I_11) (J := J) (R := R)  h hQ)
          · rw [if_neg hc_20] at h
            refine az_E.sn 2 (pc' := 66) (L' := [.ref 73, .retAddr 0, .retAddr 0, .int v3, .int v4, .int v5, .int x_7, .int (1 : Int32)]) (S' := [.int (1 : Int32)]) (σ' := (97, I_11, J, R)) rfl ?_
            exact az_E.forget (L := [.ref 73, .retAddr 0, .retAddr 0, .int v3, .int v4, .retAddr 0, .retAddr 0, .retAddr 0]) ⟨rfl, trivial, trivial, rfl, rfl, trivial, trivial, trivial, trivial⟩ (re_M_workOut_66 (I := I_11) (J := J) (R := R)  h hQ)
set_option maxRecDepth 100000 in
set_option maxHeartbeats 4000000 in
theorem re_M_workOut_33 {ex : az_X} {I : Nat → Nat → Int32} {J : Nat → Nat → Int64} {R : Nat → Nat → Option Nat} {v3 : Int32} {v4 : Int32} {v5 : Int32} {x : Int32 × (Nat → Nat → Int32)} (h : rs_M_workOut_33 I v3 v4 v5 = some x) {Q : Option Value → az_S → Prop} (hQ : Q (some (.int x.1)) (97, x.2, J, R)) : az_E az_F ex 121 186 33 [.ref 73, .retAddr 0, .retAddr 0, .int v3, .int v4, .int v5, .retAddr 0, .retAddr 0] [] (97, I, J, R) Q := by
  unfold rs_M_workOut_33 at h
  refine az_lp_E (G := fun s => az_E az_F ex 121 186 33 [.ref 73, .retAddr 0, .retAddr 0, .int s.1, .int s.2.1, .int s.2.2.1, .retAddr 0, .retAddr 0] [] (97, s.2.2.2, J, R) Q) (H := fun x => Q (some (.int x.1)) (97, x.2, J, R)) (fun s o hb ho => ?_) _ _ _ h hQ
  exact re_M_workOut_33_b  hb ho
set_option maxRecDepth 100000 in
set_option maxHeartbeats 4000000 in
theorem re_M_workOut {ex : az_X} {I : Nat → Nat → Int32} {J : Nat → Nat → Int64} {R : Nat → Nat → Option Nat} {a1 : Int32} {a2 : Int32} {o : Int32 × (Nat → Nat → Int32)} (h : rs_M_workOut I a1 a2 = some o) {Q : Option Value → az_S → Prop} (hQ : Q (some (.int o.1)) (97, o.2, J, R)) : az_E az_F ex 121 186 0 [.ref 73, .int a1, .int a2, .retAddr 0, .retAddr 0, .retAddr 0, .retAddr 0, .retAddr 0] [] (97, I, J, R) Q := by
  unfold rs_M_workOut at h
  refine az_E.sn 21 (pc' := 33) (L' := [.ref 73, .int a1, .int a2, .int (0 : Int32), .int (0 : Int32), .int (1 : Int32), .retAddr 0, .retAddr 0]) (S' := []) (σ' := (97, (az_u (az_u (az_u (az_u (az_u I 73 14 a1) 73 15 (0 : Int32)) 73 16 a2) 73 17 (-1 : Int32)) 73 18 (0 : Int32)), J, R)) rfl ?_
  exact az_E.forget (L := [.ref 73, .retAddr 0, .retAddr 0, .int (0 : Int32), .int (0 : Int32), .int (1 : Int32), .retAddr 0, .retAddr 0]) ⟨rfl, trivial, trivial, rfl, rfl, rfl, trivial, trivial, trivial⟩ (re_M_workOut_33 (I := (az_u (az_u (az_u (az_u (az_u I 73 14 a1) 73 15 (0 : Int32)) 73 16 a2) 73 17 (-1 : Int32)) 73 18 (0 : Int32))) (J := J) (R := R)  h hQ)
set_option maxRecDepth 100000 in
set_option maxHeartbeats 4000000 in
theorem re_M_law_37_b {ex : az_X} {I : Nat → Nat → Int32} {J : Nat → Nat → Int64} {R : Nat → Nat → Option Nat} {v2 : Int32} {v3 : Int32} {x : ((Int32 × (Nat → Nat → Int32)) ⊕ (Int32 × (Nat → Nat → Int32)))} (h : rs_M_law_37_b v2 v3 I = some x) {Q : Option Value → az_S → Prop} (hQ : Sum.elim (fun s => az_E az_F ex 122 187 37 [.ref 73, .retAddr 0, .int v2, .int s.1] [] (97, s.2, J, R) Q) (fun x => Q (some (.int x.1)) (97, x.2, J, R)) x) : az_E az_F ex 122 187 37 [.ref 73, .retAddr 0, .int v2, .int v3] [] (97, I, J, R) Q := by
  unfold rs_M_law_37_b at h
  refine az_E.sn 2 (pc' := 39) (L' := [.ref 73, .retAddr 0, .int v2, .int v3]) (S' := [.int v2, .int v3]) (σ' := (97, I, J, R)) rfl ?_
  refine az_E.br (c := v2 ≤ v3) (tt := 60) (ff := 42) (L' := [.ref 73, .retAddr 0, .int v2, .int v3]) (S' := []) (σ' := (97, I, J, R)) rfl (fun hc_5 => ?_) (fun hc_5 => ?_)
  · rw [if_pos hc_5] at h
    refine az_E.sn 4 (pc' := 66) (L' := [.ref 73, .retAddr 0, .int v2, .int v3]) (S' := [.int (1 : Int32)]) (σ' := (97, (az_u I 73 13 v2), J, R)) rfl ?_
    have h := Option.some.inj h
    subst h
    exact az_E.ret (v := some (.int (1 : Int32))) (σ' := (97, (az_u I 73 13 v2), J, R)) rfl hQ
  · rw [if_neg hc_5] at h
    refine az_E.sn 6 (pc' := 52) (L' := [.ref 73, .retAddr 0, .int v2, .int v3]) (S' := [.int v3, .ref 80, .int v3, .ref 81]) (σ' := (97, I, J, R)) rfl ?_
    by_cases hc_6 : v3 < 0 ∨ 120 ≤ v3.toNatClampNeg
    · rw [if_pos hc_6] at h; cases h
    · rw [if_neg hc_6] at h
      refine az_E.oi (o := az_ai az_F ex (97, I, J, R) 80 v3) (pc' := 53) (L' := [.ref 73, .retAddr 0, .int v2, .int v3]) (S' := [.int v3, .ref 81]) (σ' := (97, I, J, R)) (x := (I 80 v3.toNatClampNeg)) rfl (if_neg hc_6) ?_
      by_cases hc_7 : v3 < 0 ∨ 120 ≤ v3.toNatClampNeg
      · rw [if_pos hc_7] at h; cases h
      · rw [if_neg hc_7] at h
        refine az_E.o (o := az_si az_F (97, I, J, R) 81 v3 (I 80 v3.toNatClampNeg)) (pc' := 54) (L' := [.ref 73, .retAddr 0, .int v2, .int v3]) (S' := []) (x := (97, (az_u I 81 v3.toNatClampNeg (I 80 v3.toNatClampNeg)), J, R)) rfl (if_neg hc_7) ?_
        refine az_E.sn 2 (pc' := 37) (L' := [.ref 73, .retAddr 0, .int v2, .int (v3 + (1 : Int32))]) (S' := []) (σ' := (97, (az_u I 81 v3.toNatClampNeg (I 80 v3.toNatClampNeg)), J, R)) rfl ?_
        have h := Option.some.inj h
        subst h
        exact az_E.forget (L := [.ref 73, .retAddr 0, .int v2, .int (v3 + (1 : Int32))]) ⟨rfl, trivial, rfl, rfl, trivial⟩ hQ
set_option maxRecDepth 100000 in
set_option maxHeartbeats 4000000 in
theorem re_M_law_37 {ex : az_X} {I : Nat → Nat → Int32} {J : Nat → Nat → Int64} {R : Nat → Nat → Option Nat} {v2 : Int32} {v3 : Int32} {x : Int32 × (Nat → Nat → Int32)} (h : rs_M_law_37 I v2 v3 = some x) {Q : Option Value → az_S → Prop} (hQ : Q (some (.int x.1)) (97, x.2, J, R)) : az_E az_F ex 122 187 37 [.ref 73, .retAddr 0, .int v2, .int v3] [] (97, I, J, R) Q := by
  unfold rs_M_law_37 at h
  refine az_lp_E (G := fun s => az_E az_F ex 122 187 37 [.ref 73, .retAddr 0, .int v2, .int s.1] [] (97, s.2, J, R) Q) (H := fun x => Q (some (.int x.1)) (97, x.2, J, R)) (fun s o hb ho => ?_) _ _ _ h hQ
  exact re_M_law_37_b  hb ho
set_option maxRecDepth 100000 in
set_option maxHeartbeats 4000000 in
theorem re_M_law {ex : az_X} {I : Nat → Nat → Int32} {J : Nat → Nat → Int64} {R : Nat → Nat → Option Nat} {o : Int32 × (Nat → Nat → Int32)} (h : rs_M_law I = some o) {Q : Option Value → az_S → Prop} (hQ : Q (some (.int o.1)) (97, o.2, J, R)) : az_E az_F ex 122 187 0 [.ref 73, .retAddr 0, .retAddr 0, .retAddr 0] [] (97, I, J, R) Q := by
  unfold rs_M_law at h
  refine az_E.sn 4 (pc' := 6) (L' := [.ref 73, .retAddr 0, .retAddr 0, .retAddr 0]) (S' := [.int (I 73 11), .int (-1 : Int32), .ref 73]) (σ' := (97, I, J, R)) rfl ?_
  cases hx_3 : rs_M_workOut I (-1 : Int32) (I 73 11) with
  | none => rw [hx_3] at h; cases h
  | some o =>
    rw [hx_3] at h
    obtain ⟨x_1, I_2⟩ := o
    dsimp only at h
    refine az_E.call (d := 121) (k' := 186) (vs := [.ref 73, .int (-1 : Int32), .int (I 73 11)]) (pc' := 9) (S' := []) (Q1 := fun v s => v = some (.int x_1) ∧ s = (97, I_2, J, R)) rfl (az_E.deep (by omega) (re_M_workOut (J := J) (R := R)  hx_3 ⟨rfl, rfl⟩)) (fun v s hq => ?_)
    obtain ⟨rfl, rfl⟩ := hq
    show az_E az_F ex 122 187 9 [.ref 73, .retAddr 0, .retAddr 0, .retAddr 0] [.int x_1] (97, I_2, J, R) _
    refine az_E.sn 9 (pc' := 24) (L' := [.ref 73, .int x_1, .int (I_2 73 11), .retAddr 0]) (S' := [.int (I_2 73 17)]) (σ' := (97, (az_u I_2 73 11 (0 : Int32)), J, R)) rfl ?_
    refine az_E.br (c := (I_2 73 17) < 0) (tt := 35) (ff := 27) (L' := [.ref 73, .int x_1, .int (I_2 73 11), .retAddr 0]) (S' := []) (σ' := (97, (az_u I_2 73 11 (0 : Int32)), J, R)) rfl (fun hc_4 => ?_) (fun hc_4 => ?_)
    · rw [if_pos hc_4] at h
      refine az_E.sn 2 (pc' := 37) (L' := [.ref 73, .int x_1, .int (I_2 73 11), .int (0 : Int32)]) (S' := []) (σ' := (97, (az_u I_2 73 11 (0 : Int32)), J, R)) rfl ?_
      exact az_E.forget (L := [.ref 73, .retAddr 0, .int (I_2 73 11), .int (0 : Int32)]) ⟨rfl, trivial, rfl, rfl, trivial⟩ (re_M_law_37 (I := (az_u I_2 73 11 (0 : Int32))) (J := J) (R := R)  h hQ)
    · rw [if_neg hc_4] at h
      refine az_E.sn 4 (pc' := 34) (L' := [.ref 73, .int x_1, .int (I_2 73 11), .retAddr 0]) (S' := [.int ((-100 : Int32) - (I_2 73 17))]) (σ' := (97, (az_u I_2 73 11 (0 : Int32)), J, R)) rfl ?_
      have h := Option.some.inj h
      subst h
      exact az_E.ret (v := some (.int ((-100 : Int32) - (I_2 73 17)))) (σ' := (97, (az_u I_2 73 11 (0 : Int32)), J, R)) rfl hQ
set_option maxRecDepth 100000 in
set_option maxHeartbeats 4000000 in
theorem re_X_sideCell {ex : az_X} {I : Nat → Nat → Int32} {J : Nat → Nat → Int64} {R : Nat → Nat → Option Nat} {a0 : Int32} {a1 : Int32} {o : Int32} (h : rs_X_sideCell a0 a1 = some o) {Q : Option Value → az_S → Prop} (hQ : Q (some (.int o)) (97, I, J, R)) : az_E az_F ex 0 141 0 [.int a0, .int a1] [] (97, I, J, R) Q := by
  unfold rs_X_sideCell at h
  refine az_E.sn 1 (pc' := 1) (L' := [.int a0, .int a1]) (S' := [.int a1]) (σ' := (97, I, J, R)) rfl ?_
  by_cases hc_1 : a1 = (0 : Int32)
  · rw [if_pos hc_1] at h
    refine az_E.sw hc_1 (pc' := 32) (L' := [.int a0, .int a1]) (S' := []) (σ' := (97, I, J, R)) rfl ?_
    refine az_E.sn 2 (pc' := 35) (L' := [.int a0, .int a1]) (S' := [.int (12 : Int32), .int a0]) (σ' := (97, I, J, R)) rfl ?_
    refine az_E.br (c := a0 < (12 : Int32)) (tt := 45) (ff := 38) (L' := [.int a0, .int a1]) (S' := []) (σ' := (97, I, J, R)) rfl (fun hc_2 => ?_) (fun hc_2 => ?_)
    · rw [if_pos hc_2] at h
      refine az_E.sn 1 (pc' := 46) (L' := [.int a0, .int a1]) (S' := [.int (-1 : Int32)]) (σ' := (97, I, J, R)) rfl ?_
      have h := Option.some.inj h
      subst h
      exact az_E.ret (v := some (.int (-1 : Int32))) (σ' := (97, I, J, R)) rfl hQ
    · rw [if_neg hc_2] at h
      refine az_E.sn 4 (pc' := 46) (L' := [.int a0, .int a1]) (S' := [.int (a0 - (12 : Int32))]) (σ' := (97, I, J, R)) rfl ?_
      have h := Option.some.inj h
      subst h
      exact az_E.ret (v := some (.int (a0 - (12 : Int32)))) (σ' := (97, I, J, R)) rfl hQ
  · rw [if_neg hc_1] at h
    by_cases hc_3 : a1 = (1 : Int32)
    · rw [if_pos hc_3] at h
      refine az_E.sw hc_3 (pc' := 47) (L' := [.int a0, .int a1]) (S' := []) (σ' := (97, I, J, R)) rfl ?_
      refine az_E.sn 2 (pc' := 50) (L' := [.int a0, .int a1]) (S' := [.int (12 : Int32), .int a0]) (σ' := (97, I, J, R)) rfl ?_
      have hd_4 : ¬ ((12 : Int32) = 0) := by decide
      refine az_E.dv (c := (12 : Int32) = 0) (pc' := 51) (L' := [.int a0, .int a1]) (S' := [.int (a0 - a0 / (12 : Int32) * (12 : Int32))]) (σ' := (97, I, J, R)) rfl hd_4 ?_
      refine az_E.sn 1 (pc' := 53) (L' := [.int a0, .int a1]) (S' := [.int (11 : Int32), .int (a0 - a0 / (12 : Int32) * (12 : Int32))]) (σ' := (97, I, J, R)) rfl ?_
      refine az_E.br (c := (11 : Int32) ≤ (a0 - a0 / (12 : Int32) * (12 : Int32))) (tt := 62) (ff := 56) (L' := [.int a0, .int a1]) (S' := []) (σ' := (97, I, J, R)) rfl (fun hc_5 => ?_) (fun hc_5 => ?_)
      · rw [if_pos hc_5] at h
        refine az_E.sn 1 (pc' := 63) (L' := [.int a0, .int a1]) (S' := [.int (-1 : Int32)]) (σ' := (97, I, J, R)) rfl ?_
        have h := Option.some.inj h
        subst h
        exact az_E.ret (v := some (.int (-1 : Int32))) (σ' := (97, I, J, R)) rfl hQ
      · rw [if_neg hc_5] at h
        refine az_E.sn 4 (pc' := 63) (L' := [.int a0, .int a1]) (S' := [.int (a0 + (1 : Int32))]) (σ' := (97, I, J, R)) rfl ?_
        have h := Option.some.inj h
        subst h
        exact az_E.ret (v := some (.int (a0 + (1 : Int32)))) (σ' := (97, I, J, R)) rfl hQ
    · rw [if_neg hc_3] at h
      by_cases hc_6 : a1 = (2 : Int32)
      · rw [if_pos hc_6] at h
        refine az_E.sw hc_6 (pc' := 64) (L' := [.int a0, .int a1]) (S' := []) (σ' := (97, I, J, R)) rfl ?_
        refine az_E.sn 2 (pc' := 68) (L' := [.int a0, .int a1]) (S' := [.int (132 : Int32), .int a0]) (σ' := (97, I, J, R)) rfl ?_
        refine az_E.br (c := (132 : Int32) ≤ a0) (tt := 78) (ff := 71) (L' := [.int a0, .int a1]) (S' := []) (σ' := (97, I, J, R)) rfl (fun hc_7 => ?_) (fun hc_7 => ?_)
        · rw [if_pos hc_7] at h
          refine az_E.sn 1 (pc' := 79) (L' := [.int a0, .int a1]) (S' := [.int (-1 : Int32)]) (σ' := (97, I, J, R)) rfl ?_
          have h := Option.some.inj h
          subst h
          exact az_E.ret (v := some (.int (-1 : Int32))) (σ' := (97, I, J, R)) rfl hQ
        · rw [if_neg hc_7] at h
          refine az_E.sn 4 (pc' := 79) (L' := [.int a0, .int a1]) (S' := [.int (a0 + (12 : Int32))]) (σ' := (97, I, J, R)) rfl ?_
          have h := Option.some.inj h
          subst h
          exact az_E.ret (v := some (.int (a0 + (12 : Int32)))) (σ' := (97, I, J, R)) rfl hQ
      · rw [if_neg hc_6] at h
        by_cases hc_8 : a1 = (3 : Int32)
        · rw [if_pos hc_8] at h
          refine az_E.sw hc_8 (pc' := 80) (L' := [.int a0, .int a1]) (S' := []) (σ' := (97, I, J, R)) rfl ?_
          refine az_E.sn 2 (pc' := 83) (L' := [.int a0, .int a1]) (S' := [.int (12 : Int32), .int a0]) (σ' := (97, I, J, R)) rfl ?_
          have hd_9 : ¬ ((12 : Int32) = 0) := by decide
          refine az_E.dv (c := (12 : Int32) = 0) (pc' := 84) (L' := [.int a0, .int a1]) (S' := [.int (a0 - a0 / (12 : Int32) * (12 : Int32))]) (σ' := (97, I, J, R)) rfl hd_9 ?_
          refine az_E.br (c := (a0 - a0 / (12 : Int32) * (12 : Int32)) ≤ 0) (tt := 93) (ff := 87) (L' := [.int a0, .int a1]) (S' := []) (σ' := (97, I, J, R)) rfl (fun hc_10 => ?_) (fun hc_10 => ?_)
          · rw [if_pos hc_10] at h
            refine az_E.sn 1 (pc' := 94) (L' := [.int a0, .int a1]) (S' := [.int (-1 : Int32)]) (σ' := (97, I, J, R)) rfl ?_
            have h := Option.some.inj h
            subst h
            exact az_E.ret (v := some (.int (-1 : Int32))) (σ' := (97, I, J, R)) rfl hQ
          · rw [if_neg hc_10] at h
            refine az_E.sn 4 (pc' := 94) (L' := [.int a0, .int a1]) (S' := [.int (a0 - (1 : Int32))]) (σ' := (97, I, J, R)) rfl ?_
            have h := Option.some.inj h
            subst h
            exact az_E.ret (v := some (.int (a0 - (1 : Int32)))) (σ' := (97, I, J, R)) rfl hQ
        · rw [if_neg hc_8] at h
          have ehc_1 := az_nei hc_1 (z := 0) (by decide)
          have ehc_3 := az_nei hc_3 (z := 1) (by decide)
          have ehc_6 := az_nei hc_6 (z := 2) (by decide)
          have ehc_8 := az_nei hc_8 (z := 3) (by decide)
          refine az_E.swd (a := 95) (lo := 0) (hi := 3) (offs := #[31, 46, 63, 79]) rfl (by omega) ?_
          refine az_E.sn 1 (pc' := 96) (L' := [.int a0, .int a1]) (S' := [.int (-1 : Int32)]) (σ' := (97, I, J, R)) rfl ?_
          have h := Option.some.inj h
          subst h
          exact az_E.ret (v := some (.int (-1 : Int32))) (σ' := (97, I, J, R)) rfl hQ
set_option maxRecDepth 100000 in
set_option maxHeartbeats 4000000 in
theorem re_X_areSideBySide_2_b {ex : az_X} {I : Nat → Nat → Int32} {J : Nat → Nat → Int64} {R : Nat → Nat → Option Nat} {v0 : Int32} {v1 : Int32} {v2 : Int32} {x : ((Int32) ⊕ (Int32))} (h : rs_X_areSideBySide_2_b v0 v1 v2 = some x) {Q : Option Value → az_S → Prop} (hQ : Sum.elim (fun s => az_E az_F ex 1 142 2 [.int v0, .int v1, .int s] [] (97, I, J, R) Q) (fun x => Q (some (.int x)) (97, I, J, R)) x) : az_E az_F ex 1 142 2 [.int v0, .int v1, .int v2] [] (97, I, J, R) Q := by
  unfold rs_X_areSideBySide_2_b at h
  refine az_E.sn 2 (pc' := 4) (L' := [.int v0, .int v1, .int v2]) (S' := [.int (4 : Int32), .int v2]) (σ' := (97, I, J, R)) rfl ?_
  refine az_E.br (c := (4 : Int32) ≤ v2) (tt := 24) (ff := 7) (L' := [.int v0, .int v1, .int v2]) (S' := []) (σ' := (97, I, J, R)) rfl (fun hc_1 => ?_) (fun hc_1 => ?_)
  · rw [if_pos hc_1] at h
    refine az_E.sn 1 (pc' := 25) (L' := [.int v0, .int v1, .int v2]) (S' := [.int (0 : Int32)]) (σ' := (97, I, J, R)) rfl ?_
    have h := Option.some.inj h
    subst h
    exact az_E.ret (v := some (.int (0 : Int32))) (σ' := (97, I, J, R)) rfl hQ
  · rw [if_neg hc_1] at h
    refine az_E.sn 2 (pc' := 9) (L' := [.int v0, .int v1, .int v2]) (S' := [.int v2, .int v0]) (σ' := (97, I, J, R)) rfl ?_
    cases hx_3 : rs_X_sideCell v0 v2 with
    | none => rw [hx_3] at h; cases h
    | some x_2 =>
      rw [hx_3] at h
      dsimp only at h
      refine az_E.call (d := 0) (k' := 141) (vs := [.int v0, .int v2]) (pc' := 12) (S' := []) (Q1 := fun v s => v = some (.int x_2) ∧ s = (97, I, J, R)) rfl (az_E.deep (by omega) (re_X_sideCell (J := J) (R := R)  hx_3 ⟨rfl, rfl⟩)) (fun v s hq => ?_)
      obtain ⟨rfl, rfl⟩ := hq
      show az_E az_F ex 1 142 12 [.int v0, .int v1, .int v2] [.int x_2] (97, I, J, R) _
      refine az_E.sn 1 (pc' := 13) (L' := [.int v0, .int v1, .int v2]) (S' := [.int v1, .int x_2]) (σ' := (97, I, J, R)) rfl ?_
      refine az_E.br (c := x_2 = v1) (tt := 16) (ff := 18) (L' := [.int v0, .int v1, .int v2]) (S' := []) (σ' := (97, I, J, R)) rfl (fun hc_4 => ?_) (fun hc_4 => ?_)
      · rw [if_pos hc_4] at h
        refine az_E.sn 1 (pc' := 17) (L' := [.int v0, .int v1, .int v2]) (S' := [.int (1 : Int32)]) (σ' := (97, I, J, R)) rfl ?_
        have h := Option.some.inj h
        subst h
        exact az_E.ret (v := some (.int (1 : Int32))) (σ' := (97, I, J, R)) rfl hQ
      · rw [if_neg hc_4] at h
        refine az_E.sn 2 (pc' := 2) (L' := [.int v0, .int v1, .int (v2 + (1 : Int32))]) (S' := []) (σ' := (97, I, J, R)) rfl ?_
        have h := Option.some.inj h
        subst h
        exact az_E.forget (L := [.int v0, .int v1, .int (v2 + (1 : Int32))]) ⟨rfl, rfl, rfl, trivial⟩ hQ
set_option maxRecDepth 100000 in
set_option maxHeartbeats 4000000 in
theorem re_X_areSideBySide_2 {ex : az_X} {I : Nat → Nat → Int32} {J : Nat → Nat → Int64} {R : Nat → Nat → Option Nat} {v0 : Int32} {v1 : Int32} {v2 : Int32} {x : Int32} (h : rs_X_areSideBySide_2 v0 v1 v2 = some x) {Q : Option Value → az_S → Prop} (hQ : Q (some (.int x)) (97, I, J, R)) : az_E az_F ex 1 142 2 [.int v0, .int v1, .int v2] [] (97, I, J, R) Q := by
  unfold rs_X_areSideBySide_2 at h
  refine az_lp_E (G := fun s => az_E az_F ex 1 142 2 [.int v0, .int v1, .int s] [] (97, I, J, R) Q) (H := fun x => Q (some (.int x)) (97, I, J, R)) (fun s o hb ho => ?_) _ _ _ h hQ
  exact re_X_areSideBySide_2_b  hb ho
set_option maxRecDepth 100000 in
set_option maxHeartbeats 4000000 in
theorem re_X_areSideBySide {ex : az_X} {I : Nat → Nat → Int32} {J : Nat → Nat → Int64} {R : Nat → Nat → Option Nat} {a0 : Int32} {a1 : Int32} {o : Int32} (h : rs_X_areSideBySide a0 a1 = some o) {Q : Option Value → az_S → Prop} (hQ : Q (some (.int o)) (97, I, J, R)) : az_E az_F ex 1 142 0 [.int a0, .int a1, .retAddr 0] [] (97, I, J, R) Q := by
  unfold rs_X_areSideBySide at h
  refine az_E.sn 2 (pc' := 2) (L' := [.int a0, .int a1, .int (0 : Int32)]) (S' := []) (σ' := (97, I, J, R)) rfl ?_
  exact az_E.forget (L := [.int a0, .int a1, .int (0 : Int32)]) ⟨rfl, rfl, rfl, trivial⟩ (re_X_areSideBySide_2 (I := I) (J := J) (R := R)  h hQ)
set_option maxRecDepth 100000 in
set_option maxHeartbeats 4000000 in
theorem re_La_joined {ex : az_X} {I : Nat → Nat → Int32} {J : Nat → Nat → Int64} {R : Nat → Nat → Option Nat} {a0 : Int32} {a1 : Int32} {a2 : Int32} {o : Int32} (h : rs_La_joined a0 a1 a2 = some o) {Q : Option Value → az_S → Prop} (hQ : Q (some (.int o)) (97, I, J, R)) : az_E az_F ex 0 33 0 [.int a0, .int a1, .int a2] [] (97, I, J, R) Q := by
  unfold rs_La_joined at h
  refine az_E.sn 1 (pc' := 1) (L' := [.int a0, .int a1, .int a2]) (S' := [.int a1]) (σ' := (97, I, J, R)) rfl ?_
  by_cases hc_1 : a1 = (37 : Int32)
  · rw [if_pos hc_1] at h
    refine az_E.sw hc_1 (pc' := 177) (L' := [.int a0, .int a1, .int a2]) (S' := []) (σ' := (97, I, J, R)) rfl ?_
    refine az_E.sn 1 (pc' := 178) (L' := [.int a0, .int a1, .int a2]) (S' := [.int a2]) (σ' := (97, I, J, R)) rfl ?_
    refine az_E.br (c := a2 = 0) (tt := 181) (ff := 185) (L' := [.int a0, .int a1, .int a2]) (S' := []) (σ' := (97, I, J, R)) rfl (fun hc_2 => ?_) (fun hc_2 => ?_)
    · rw [if_pos hc_2] at h
      refine az_E.sn 2 (pc' := 188) (L' := [.int a0, .int a1, .int a2]) (S' := [.int (0 : Int32)]) (σ' := (97, I, J, R)) rfl ?_
      have h := Option.some.inj h
      subst h
      exact az_E.ret (v := some (.int (0 : Int32))) (σ' := (97, I, J, R)) rfl hQ
    · rw [if_neg hc_2] at h
      refine az_E.sn 2 (pc' := 187) (L' := [.int a0, .int a1, .int a2]) (S' := [.int a2, .int a0]) (σ' := (97, I, J, R)) rfl ?_
      by_cases hd_3 : a2 = 0
      · rw [if_pos hd_3] at h; cases h
      · rw [if_neg hd_3] at h
        refine az_E.dv (c := a2 = 0) (pc' := 188) (L' := [.int a0, .int a1, .int a2]) (S' := [.int (a0 - a0 / a2 * a2)]) (σ' := (97, I, J, R)) rfl hd_3 ?_
        have h := Option.some.inj h
        subst h
        exact az_E.ret (v := some (.int (a0 - a0 / a2 * a2))) (σ' := (97, I, J, R)) rfl hQ
  · rw [if_neg hc_1] at h
    by_cases hc_4 : a1 = (38 : Int32)
    · rw [if_pos hc_4] at h
      refine az_E.sw hc_4 (pc' := 106) (L' := [.int a0, .int a1, .int a2]) (S' := []) (σ' := (97, I, J, R)) rfl ?_
      refine az_E.sn 1 (pc' := 107) (L' := [.int a0, .int a1, .int a2]) (S' := [.int a0]) (σ' := (97, I, J, R)) rfl ?_
      refine az_E.br (c := a0 = 0) (tt := 118) (ff := 110) (L' := [.int a0, .int a1, .int a2]) (S' := []) (σ' := (97, I, J, R)) rfl (fun hc_5 => ?_) (fun hc_5 => ?_)
      · rw [if_pos hc_5] at h
        refine az_E.sn 1 (pc' := 119) (L' := [.int a0, .int a1, .int a2]) (S' := [.int (0 : Int32)]) (σ' := (97, I, J, R)) rfl ?_
        have h := Option.some.inj h
        subst h
        exact az_E.ret (v := some (.int (0 : Int32))) (σ' := (97, I, J, R)) rfl hQ
      · rw [if_neg hc_5] at h
        refine az_E.sn 1 (pc' := 111) (L' := [.int a0, .int a1, .int a2]) (S' := [.int a2]) (σ' := (97, I, J, R)) rfl ?_
        refine az_E.br (c := a2 = 0) (tt := 118) (ff := 114) (L' := [.int a0, .int a1, .int a2]) (S' := []) (σ' := (97, I, J, R)) rfl (fun hc_6 => ?_) (fun hc_6 => ?_)
        · rw [if_pos hc_6] at h
          refine az_E.sn 1 (pc' := 119) (L' := [.int a0, .int a1, .int a2]) (S' := [.int (0 : Int32)]) (σ' := (97, I, J, R)) rfl ?_
          have h := Option.some.inj h
          subst h
          exact az_E.ret (v := some (.int (0 : Int32))) (σ' := (97, I, J, R)) rfl hQ
        · rw [if_neg hc_6] at h
          refine az_E.sn 2 (pc' := 119) (L' := [.int a0, .int a1, .int a2]) (S' := [.int (1 : Int32)]) (σ' := (97, I, J, R)) rfl ?_
          have h := Option.some.inj h
          subst h
          exact az_E.ret (v := some (.int (1 : Int32))) (σ' := (97, I, J, R)) rfl hQ
    · rw [if_neg hc_4] at h
      by_cases hc_7 : a1 = (42 : Int32)
      · rw [if_pos hc_7] at h
        refine az_E.sw hc_7 (pc' := 161) (L' := [.int a0, .int a1, .int a2]) (S' := []) (σ' := (97, I, J, R)) rfl ?_
        refine az_E.sn 3 (pc' := 164) (L' := [.int a0, .int a1, .int a2]) (S' := [.int (a0 * a2)]) (σ' := (97, I, J, R)) rfl ?_
        have h := Option.some.inj h
        subst h
        exact az_E.ret (v := some (.int (a0 * a2))) (σ' := (97, I, J, R)) rfl hQ
      · rw [if_neg hc_7] at h
        by_cases hc_8 : a1 = (43 : Int32)
        · rw [if_pos hc_8] at h
          refine az_E.sw hc_8 (pc' := 153) (L' := [.int a0, .int a1, .int a2]) (S' := []) (σ' := (97, I, J, R)) rfl ?_
          refine az_E.sn 3 (pc' := 156) (L' := [.int a0, .int a1, .int a2]) (S' := [.int (a0 + a2)]) (σ' := (97, I, J, R)) rfl ?_
          have h := Option.some.inj h
          subst h
          exact az_E.ret (v := some (.int (a0 + a2))) (σ' := (97, I, J, R)) rfl hQ
        · rw [if_neg hc_8] at h
          by_cases hc_9 : a1 = (45 : Int32)
          · rw [if_pos hc_9] at h
            refine az_E.sw hc_9 (pc' := 157) (L' := [.int a0, .int a1, .int a2]) (S' := []) (σ' := (97, I, J, R)) rfl ?_
            refine az_E.sn 3 (pc' := 160) (L' := [.int a0, .int a1, .int a2]) (S' := [.int (a0 - a2)]) (σ' := (97, I, J, R)) rfl ?_
            have h := Option.some.inj h
            subst h
            exact az_E.ret (v := some (.int (a0 - a2))) (σ' := (97, I, J, R)) rfl hQ
          · rw [if_neg hc_9] at h
            by_cases hc_10 : a1 = (47 : Int32)
            · rw [if_pos hc_10] at h
              refine az_E.sw hc_10 (pc' := 165) (L' := [.int a0, .int a1, .int a2]) (S' := []) (σ' := (97, I, J, R)) rfl ?_
              refine az_E.sn 1 (pc' := 166) (L' := [.int a0, .int a1, .int a2]) (S' := [.int a2]) (σ' := (97, I, J, R)) rfl ?_
              refine az_E.br (c := a2 = 0) (tt := 169) (ff := 173) (L' := [.int a0, .int a1, .int a2]) (S' := []) (σ' := (97, I, J, R)) rfl (fun hc_11 => ?_) (fun hc_11 => ?_)
              · rw [if_pos hc_11] at h
                refine az_E.sn 2 (pc' := 176) (L' := [.int a0, .int a1, .int a2]) (S' := [.int (0 : Int32)]) (σ' := (97, I, J, R)) rfl ?_
                have h := Option.some.inj h
                subst h
                exact az_E.ret (v := some (.int (0 : Int32))) (σ' := (97, I, J, R)) rfl hQ
              · rw [if_neg hc_11] at h
                refine az_E.sn 2 (pc' := 175) (L' := [.int a0, .int a1, .int a2]) (S' := [.int a2, .int a0]) (σ' := (97, I, J, R)) rfl ?_
                by_cases hd_12 : a2 = 0
                · rw [if_pos hd_12] at h; cases h
                · rw [if_neg hd_12] at h
                  refine az_E.dv (c := a2 = 0) (pc' := 176) (L' := [.int a0, .int a1, .int a2]) (S' := [.int (a0 / a2)]) (σ' := (97, I, J, R)) rfl hd_12 ?_
                  have h := Option.some.inj h
                  subst h
                  exact az_E.ret (v := some (.int (a0 / a2))) (σ' := (97, I, J, R)) rfl hQ
            · rw [if_neg hc_10] at h
              by_cases hc_13 : a1 = (60 : Int32)
              · rw [if_pos hc_13] at h
                refine az_E.sw hc_13 (pc' := 120) (L' := [.int a0, .int a1, .int a2]) (S' := []) (σ' := (97, I, J, R)) rfl ?_
                refine az_E.sn 2 (pc' := 122) (L' := [.int a0, .int a1, .int a2]) (S' := [.int a2, .int a0]) (σ' := (97, I, J, R)) rfl ?_
                refine az_E.br (c := a2 ≤ a0) (tt := 129) (ff := 125) (L' := [.int a0, .int a1, .int a2]) (S' := []) (σ' := (97, I, J, R)) rfl (fun hc_14 => ?_) (fun hc_14 => ?_)
                · rw [if_pos hc_14] at h
                  refine az_E.sn 1 (pc' := 130) (L' := [.int a0, .int a1, .int a2]) (S' := [.int (0 : Int32)]) (σ' := (97, I, J, R)) rfl ?_
                  have h := Option.some.inj h
                  subst h
                  exact az_E.ret (v := some (.int (0 : Int32))) (σ' := (97, I, J, R)) rfl hQ
                · rw [if_neg hc_14] at h
                  refine az_E.sn 2 (pc' := 130) (L' := [.int a0, .int a1, .int a2]) (S' := [.int (1 : Int32)]) (σ' := (97, I, J, R)) rfl ?_
                  have h := Option.some.inj h
                  subst h
                  exact az_E.ret (v := some (.int (1 : Int32))) (σ' := (97, I, J, R)) rfl hQ
              · rw [if_neg hc_13] at h
                by_cases hc_15 : a1 = (61 : Int32)
                · rw [if_pos hc_15] at h
                  refine az_E.sw hc_15 (pc' := 131) (L' := [.int a0, .int a1, .int a2]) (S' := []) (σ' := (97, I, J, R)) rfl ?_
                  refine az_E.sn 2 (pc' := 133) (L' := [.int a0, .int a1, .int a2]) (S' := [.int a2, .int a0]) (σ' := (97, I, J, R)) rfl ?_
                  refine az_E.br (c := a0 = a2) (tt := 136) (ff := 140) (L' := [.int a0, .int a1, .int a2]) (S' := []) (σ' := (97, I, J, R)) rfl (fun hc_16 => ?_) (fun hc_16 => ?_)
                  · rw [if_pos hc_16] at h
                    refine az_E.sn 2 (pc' := 141) (L' := [.int a0, .int a1, .int a2]) (S' := [.int (1 : Int32)]) (σ' := (97, I, J, R)) rfl ?_
                    have h := Option.some.inj h
                    subst h
                    exact az_E.ret (v := some (.int (1 : Int32))) (σ' := (97, I, J, R)) rfl hQ
                  · rw [if_neg hc_16] at h
                    refine az_E.sn 1 (pc' := 141) (L' := [.int a0, .int a1, .int a2]) (S' := [.int (0 : Int32)]) (σ' := (97, I, J, R)) rfl ?_
                    have h := Option.some.inj h
                    subst h
                    exact az_E.ret (v := some (.int (0 : Int32))) (σ' := (97, I, J, R)) rfl hQ
                · rw [if_neg hc_15] at h
                  by_cases hc_17 : a1 = (62 : Int32)
                  · rw [if_pos hc_17] at h
                    refine az_E.sw hc_17 (pc' := 142) (L' := [.int a0, .int a1, .int a2]) (S' := []) (σ' := (97, I, J, R)) rfl ?_
                    refine az_E.sn 2 (pc' := 144) (L' := [.int a0, .int a1, .int a2]) (S' := [.int a2, .int a0]) (σ' := (97, I, J, R)) rfl ?_
                    refine az_E.br (c := a0 ≤ a2) (tt := 151) (ff := 147) (L' := [.int a0, .int a1, .int a2]) (S' := []) (σ' := (97, I, J, R)) rfl (fun hc_18 => ?_) (fun hc_18 => ?_)
                    · rw [if_pos hc_18] at h
                      refine az_E.sn 1 (pc' := 152) (L' := [.int a0, .int a1, .int a2]) (S' := [.int (0 : Int32)]) (σ' := (97, I, J, R)) rfl ?_
                      have h := Option.some.inj h
                      subst h
                      exact az_E.ret (v := some (.int (0 : Int32))) (σ' := (97, I, J, R)) rfl hQ
                    · rw [if_neg hc_18] at h
                      refine az_E.sn 2 (pc' := 152) (L' := [.int a0, .int a1, .int a2]) (S' := [.int (1 : Int32)]) (σ' := (97, I, J, R)) rfl ?_
                      have h := Option.some.inj h
                      subst h
                      exact az_E.ret (v := some (.int (1 : Int32))) (σ' := (97, I, J, R)) rfl hQ
                  · rw [if_neg hc_17] at h
                    by_cases hc_19 : a1 = (124 : Int32)
                    · rw [if_pos hc_19] at h
                      refine az_E.sw hc_19 (pc' := 92) (L' := [.int a0, .int a1, .int a2]) (S' := []) (σ' := (97, I, J, R)) rfl ?_
                      refine az_E.sn 1 (pc' := 93) (L' := [.int a0, .int a1, .int a2]) (S' := [.int a0]) (σ' := (97, I, J, R)) rfl ?_
                      refine az_E.br (c := a0 = 0) (tt := 96) (ff := 100) (L' := [.int a0, .int a1, .int a2]) (S' := []) (σ' := (97, I, J, R)) rfl (fun hc_20 => ?_) (fun hc_20 => ?_)
                      · rw [if_pos hc_20] at h
                        refine az_E.sn 1 (pc' := 97) (L' := [.int a0, .int a1, .int a2]) (S' := [.int a2]) (σ' := (97, I, J, R)) rfl ?_
                        refine az_E.br (c := a2 = 0) (tt := 104) (ff := 100) (L' := [.int a0, .int a1, .int a2]) (S' := []) (σ' := (97, I, J, R)) rfl (fun hc_21 => ?_) (fun hc_21 => ?_)
                        · rw [if_pos hc_21] at h
                          refine az_E.sn 1 (pc' := 105) (L' := [.int a0, .int a1, .int a2]) (S' := [.int (0 : Int32)]) (σ' := (97, I, J, R)) rfl ?_
                          have h := Option.some.inj h
                          subst h
                          exact az_E.ret (v := some (.int (0 : Int32))) (σ' := (97, I, J, R)) rfl hQ
                        · rw [if_neg hc_21] at h
                          refine az_E.sn 2 (pc' := 105) (L' := [.int a0, .int a1, .int a2]) (S' := [.int (1 : Int32)]) (σ' := (97, I, J, R)) rfl ?_
                          have h := Option.some.inj h
                          subst h
                          exact az_E.ret (v := some (.int (1 : Int32))) (σ' := (97, I, J, R)) rfl hQ
                      · rw [if_neg hc_20] at h
                        refine az_E.sn 2 (pc' := 105) (L' := [.int a0, .int a1, .int a2]) (S' := [.int (1 : Int32)]) (σ' := (97, I, J, R)) rfl ?_
                        have h := Option.some.inj h
                        subst h
                        exact az_E.ret (v := some (.int (1 : Int32))) (σ' := (97, I, J, R)) rfl hQ
                    · rw [if_neg hc_19] at h
                      refine az_E.lwd (df := 188) (ps := #[(37, 176), (38, 105), (42, 160), (43, 152), (45, 156), (47, 164), (60, 119), (61, 130), (62, 141), (124, 91)]) (a := 189) rfl (by show Op.lookupswitch.offset [(37, 176), (38, 105), (42, 160), (43, 152), (45, 156), (47, 164), (60, 119), (61, 130), (62, 141), (124, 91)] _ _ = _; rw [lv_osw hc_1 (by decide), lv_osw hc_4 (by decide), lv_osw hc_7 (by decide), lv_osw hc_8 (by decide), lv_osw hc_9 (by decide), lv_osw hc_10 (by decide), lv_osw hc_13 (by decide), lv_osw hc_15 (by decide), lv_osw hc_17 (by decide), lv_osw hc_19 (by decide)]; rfl) (by decide) ?_
                      refine az_E.sn 1 (pc' := 190) (L' := [.int a0, .int a1, .int a2]) (S' := [.int (0 : Int32)]) (σ' := (97, I, J, R)) rfl ?_
                      have h := Option.some.inj h
                      subst h
                      exact az_E.ret (v := some (.int (0 : Int32))) (σ' := (97, I, J, R)) rfl hQ
set_option maxRecDepth 100000 in
set_option maxHeartbeats 4000000 in
theorem re_La_work_69_16 {ex : az_X} {I : Nat → Nat → Int32} {J : Nat → Nat → Int64} {R : Nat → Nat → Option Nat} {v1 : Int32} {v2 : Int32} {s0 : Int32} {s1 : Int32} {x : ((Int32 × Int32 × (Nat → Nat → Int32)) ⊕ (Int32 × (Nat → Nat → Int32)))} (h : rs_La_work_69 16 I v1 v2 s0 s1 = some x) {Q : Option Value → az_S → Prop} (hQ : Sum.elim (fun s => az_E az_F ex 1 31 4 [.ref 16, .int s.1, .int s.2.1, .retAddr 0, .retAddr 0] [] (97, s.2.2, J, R) Q) (fun x => Q (some (.int x.1)) (97, x.2, J, R)) x) : az_E az_F ex 1 31 69 [.ref 16, .int v1, .int v2, .retAddr 0, .retAddr 0] [.int s0, .int s1, .ref (16 + 4)] (97, I, J, R) Q := by
  unfold rs_La_work_69 at h
  by_cases hc_7 : s1 < 0 ∨ 64 ≤ s1.toNatClampNeg
  · rw [if_pos hc_7] at h; cases h
  · rw [if_neg hc_7] at h
    refine az_E.o (o := az_si az_F (97, I, J, R) (16 + 4) s1 s0) (pc' := 70) (L' := [.ref 16, .int v1, .int v2, .retAddr 0, .retAddr 0]) (S' := []) (x := (97, (az_u I (16 + 4) s1.toNatClampNeg s0), J, R)) rfl (if_neg hc_7) ?_
    refine az_E.sn 4 (pc' := 4) (L' := [.ref 16, .int (v1 + (1 : Int32)), .int (v2 + (1 : Int32)), .retAddr 0, .retAddr 0]) (S' := []) (σ' := (97, (az_u I (16 + 4) s1.toNatClampNeg s0), J, R)) rfl ?_
    have h := Option.some.inj h
    subst h
    exact az_E.forget (L := [.ref 16, .int (v1 + (1 : Int32)), .int (v2 + (1 : Int32)), .retAddr 0, .retAddr 0]) ⟨rfl, rfl, rfl, trivial, trivial, trivial⟩ hQ
set_option maxRecDepth 100000 in
set_option maxHeartbeats 4000000 in
theorem re_La_work_31_16 {ex : az_X} {I : Nat → Nat → Int32} {J : Nat → Nat → Int64} {R : Nat → Nat → Option Nat} {v1 : Int32} {v2 : Int32} {v3 : Int32} {x : ((Int32 × Int32 × (Nat → Nat → Int32)) ⊕ (Int32 × (Nat → Nat → Int32)))} (h : rs_La_work_31 16 I v1 v2 v3 = some x) {Q : Option Value → az_S → Prop} (hQ : Sum.elim (fun s => az_E az_F ex 1 31 4 [.ref 16, .int s.1, .int s.2.1, .retAddr 0, .retAddr 0] [] (97, s.2.2, J, R) Q) (fun x => Q (some (.int x.1)) (97, x.2, J, R)) x) : az_E az_F ex 1 31 31 [.ref 16, .int v1, .int v2, .int v3, .retAddr 0] [] (97, I, J, R) Q := by
  unfold rs_La_work_31 at h
  refine az_E.sn 2 (pc' := 34) (L' := [.ref 16, .int v1, .int v2, .int v3, .retAddr 0]) (S' := [.int (64 : Int32), .int v1]) (σ' := (97, I, J, R)) rfl ?_
  refine az_E.br (c := v1 < (64 : Int32)) (tt := 39) (ff := 37) (L' := [.ref 16, .int v1, .int v2, .int v3, .retAddr 0]) (S' := []) (σ' := (97, I, J, R)) rfl (fun hc_4 => ?_) (fun hc_4 => ?_)
  · rw [if_pos hc_4] at h
    refine az_E.sn 5 (pc' := 47) (L' := [.ref 16, .int v1, .int v2, .int v3, .retAddr 0]) (S' := [.int (35 : Int32), .int v3, .int v1, .ref (16 + 4)]) (σ' := (97, I, J, R)) rfl ?_
    refine az_E.br (c := v3 = (35 : Int32)) (tt := 50) (ff := 59) (L' := [.ref 16, .int v1, .int v2, .int v3, .retAddr 0]) (S' := [.int v1, .ref (16 + 4)]) (σ' := (97, I, J, R)) rfl (fun hc_5 => ?_) (fun hc_5 => ?_)
    · rw [if_pos hc_5] at h
      refine az_E.sn 3 (pc' := 55) (L' := [.ref 16, .int v1, .int v2, .int v3, .retAddr 0]) (S' := [.int v2, .ref (16 + 2), .int v1, .ref (16 + 4)]) (σ' := (97, I, J, R)) rfl ?_
      by_cases hc_6 : v2 < 0 ∨ 121 ≤ v2.toNatClampNeg
      · rw [if_pos hc_6] at h; cases h
      · rw [if_neg hc_6] at h
        refine az_E.oi (o := az_ai az_F ex (97, I, J, R) (16 + 2) v2) (pc' := 56) (L' := [.ref 16, .int v1, .int v2, .int v3, .retAddr 0]) (S' := [.int v1, .ref (16 + 4)]) (σ' := (97, I, J, R)) (x := (I (16 + 2) v2.toNatClampNeg)) rfl (if_neg hc_6) ?_
        refine az_E.sn 1 (pc' := 69) (L' := [.ref 16, .int v1, .int v2, .int v3, .retAddr 0]) (S' := [.int (I (16 + 2) v2.toNatClampNeg), .int v1, .ref (16 + 4)]) (σ' := (97, I, J, R)) rfl ?_
        exact az_E.forget (L := [.ref 16, .int v1, .int v2, .retAddr 0, .retAddr 0]) ⟨rfl, rfl, rfl, trivial, trivial, trivial⟩ (re_La_work_69_16 (I := I) (J := J) (R := R)  h hQ)
    · rw [if_neg hc_5] at h
      refine az_E.sn 4 (pc' := 65) (L' := [.ref 16, .int v1, .int v2, .int v3, .retAddr 0]) (S' := [.int v2, .ref (16 + 2), .ref 16, .int v1, .ref (16 + 4)]) (σ' := (97, I, J, R)) rfl ?_
      by_cases hc_8 : v2 < 0 ∨ 121 ≤ v2.toNatClampNeg
      · rw [if_pos hc_8] at h; cases h
      · rw [if_neg hc_8] at h
        refine az_E.oi (o := az_ai az_F ex (97, I, J, R) (16 + 2) v2) (pc' := 66) (L' := [.ref 16, .int v1, .int v2, .int v3, .retAddr 0]) (S' := [.ref 16, .int v1, .ref (16 + 4)]) (σ' := (97, I, J, R)) (x := (I (16 + 2) v2.toNatClampNeg)) rfl (if_neg hc_8) ?_
        refine az_E.call (d := 0) (k' := 32) (vs := [.ref 16, .int (I (16 + 2) v2.toNatClampNeg)]) (pc' := 69) (S' := [.int v1, .ref (16 + 4)]) rfl ?_ (fun _ _ hq => hq)
        show az_E az_F ex 0 32 0 [.ref 16, .int (I (16 + 2) v2.toNatClampNeg)] [] (97, I, J, R) _
        refine az_E.sn 1 (pc' := 1) (L' := [.ref 16, .int (I (16 + 2) v2.toNatClampNeg)]) (S' := [.int (I (16 + 2) v2.toNatClampNeg)]) (σ' := (97, I, J, R)) rfl ?_
        refine az_E.br (c := (I (16 + 2) v2.toNatClampNeg) < 0) (tt := 19) (ff := 4) (L' := [.ref 16, .int (I (16 + 2) v2.toNatClampNeg)]) (S' := []) (σ' := (97, I, J, R)) rfl (fun hc_9 => ?_) (fun hc_9 => ?_)
        · rw [if_pos hc_9] at h
          refine az_E.sn 1 (pc' := 20) (L' := [.ref 16, .int (I (16 + 2) v2.toNatClampNeg)]) (S' := [.int (0 : Int32)]) (σ' := (97, I, J, R)) rfl ?_
          refine az_E.ret (v := some (.int (0 : Int32))) (σ' := (97, I, J, R)) rfl ?_
          show az_E az_F ex 1 31 69 [.ref 16, .int v1, .int v2, .int v3, .retAddr 0] [.int (0 : Int32), .int v1, .ref (16 + 4)] (97, I, J, R) _
          exact az_E.forget (L := [.ref 16, .int v1, .int v2, .retAddr 0, .retAddr 0]) ⟨rfl, rfl, rfl, trivial, trivial, trivial⟩ (re_La_work_69_16 (I := I) (J := J) (R := R)  h hQ)
        · rw [if_neg hc_9] at h
          refine az_E.sn 2 (pc' := 7) (L' := [.ref 16, .int (I (16 + 2) v2.toNatClampNeg)]) (S' := [.int (6 : Int32), .int (I (16 + 2) v2.toNatClampNeg)]) (σ' := (97, I, J, R)) rfl ?_
          refine az_E.br (c := (6 : Int32) ≤ (I (16 + 2) v2.toNatClampNeg)) (tt := 19) (ff := 10) (L' := [.ref 16, .int (I (16 + 2) v2.toNatClampNeg)]) (S' := []) (σ' := (97, I, J, R)) rfl (fun hc_10 => ?_) (fun hc_10 => ?_)
          · rw [if_pos hc_10] at h
            refine az_E.sn 1 (pc' := 20) (L' := [.ref 16, .int (I (16 + 2) v2.toNatClampNeg)]) (S' := [.int (0 : Int32)]) (σ' := (97, I, J, R)) rfl ?_
            refine az_E.ret (v := some (.int (0 : Int32))) (σ' := (97, I, J, R)) rfl ?_
            show az_E az_F ex 1 31 69 [.ref 16, .int v1, .int v2, .int v3, .retAddr 0] [.int (0 : Int32), .int v1, .ref (16 + 4)] (97, I, J, R) _
            exact az_E.forget (L := [.ref 16, .int v1, .int v2, .retAddr 0, .retAddr 0]) ⟨rfl, rfl, rfl, trivial, trivial, trivial⟩ (re_La_work_69_16 (I := I) (J := J) (R := R)  h hQ)
          · rw [if_neg hc_10] at h
            refine az_E.sn 3 (pc' := 15) (L' := [.ref 16, .int (I (16 + 2) v2.toNatClampNeg)]) (S' := [.int (I (16 + 2) v2.toNatClampNeg), .ref (16 + 3)]) (σ' := (97, I, J, R)) rfl ?_
            by_cases hc_11 : (I (16 + 2) v2.toNatClampNeg) < 0 ∨ 6 ≤ (I (16 + 2) v2.toNatClampNeg).toNatClampNeg
            · rw [if_pos hc_11] at h; cases h
            · rw [if_neg hc_11] at h
              refine az_E.oi (o := az_ai az_F ex (97, I, J, R) (16 + 3) (I (16 + 2) v2.toNatClampNeg)) (pc' := 16) (L' := [.ref 16, .int (I (16 + 2) v2.toNatClampNeg)]) (S' := []) (σ' := (97, I, J, R)) (x := (I (16 + 3) (I (16 + 2) v2.toNatClampNeg).toNatClampNeg)) rfl (if_neg hc_11) ?_
              refine az_E.sn 1 (pc' := 20) (L' := [.ref 16, .int (I (16 + 2) v2.toNatClampNeg)]) (S' := [.int (I (16 + 3) (I (16 + 2) v2.toNatClampNeg).toNatClampNeg)]) (σ' := (97, I, J, R)) rfl ?_
              refine az_E.ret (v := some (.int (I (16 + 3) (I (16 + 2) v2.toNatClampNeg).toNatClampNeg))) (σ' := (97, I, J, R)) rfl ?_
              show az_E az_F ex 1 31 69 [.ref 16, .int v1, .int v2, .int v3, .retAddr 0] [.int (I (16 + 3) (I (16 + 2) v2.toNatClampNeg).toNatClampNeg), .int v1, .ref (16 + 4)] (97, I, J, R) _
              exact az_E.forget (L := [.ref 16, .int v1, .int v2, .retAddr 0, .retAddr 0]) ⟨rfl, rfl, rfl, trivial, trivial, trivial⟩ (re_La_work_69_16 (I := I) (J := J) (R := R)  h hQ)
  · rw [if_neg hc_4] at h
    refine az_E.sn 1 (pc' := 38) (L' := [.ref 16, .int v1, .int v2, .int v3, .retAddr 0]) (S' := [.int (0 : Int32)]) (σ' := (97, I, J, R)) rfl ?_
    have h := Option.some.inj h
    subst h
    exact az_E.ret (v := some (.int (0 : Int32))) (σ' := (97, I, J, R)) rfl hQ
set_option maxRecDepth 100000 in
set_option maxHeartbeats 4000000 in
theorem re_La_work_176_16 {ex : az_X} {I : Nat → Nat → Int32} {J : Nat → Nat → Int64} {R : Nat → Nat → Option Nat} {v1 : Int32} {v2 : Int32} {s0 : Int32} {s1 : Int32} {x : ((Int32 × Int32 × (Nat → Nat → Int32)) ⊕ (Int32 × (Nat → Nat → Int32)))} (h : rs_La_work_176 16 I v1 v2 s0 s1 = some x) {Q : Option Value → az_S → Prop} (hQ : Sum.elim (fun s => az_E az_F ex 1 31 4 [.ref 16, .int s.1, .int s.2.1, .retAddr 0, .retAddr 0] [] (97, s.2.2, J, R) Q) (fun x => Q (some (.int x.1)) (97, x.2, J, R)) x) : az_E az_F ex 1 31 176 [.ref 16, .int v1, .int v2, .retAddr 0, .retAddr 0] [.int s0, .int s1, .ref (16 + 4)] (97, I, J, R) Q := by
  unfold rs_La_work_176 at h
  by_cases hc_23 : s1 < 0 ∨ 64 ≤ s1.toNatClampNeg
  · rw [if_pos hc_23] at h; cases h
  · rw [if_neg hc_23] at h
    refine az_E.o (o := az_si az_F (97, I, J, R) (16 + 4) s1 s0) (pc' := 177) (L' := [.ref 16, .int v1, .int v2, .retAddr 0, .retAddr 0]) (S' := []) (x := (97, (az_u I (16 + 4) s1.toNatClampNeg s0), J, R)) rfl (if_neg hc_23) ?_
    refine az_E.sn 3 (pc' := 4) (L' := [.ref 16, .int v1, .int (v2 + (1 : Int32)), .retAddr 0, .retAddr 0]) (S' := []) (σ' := (97, (az_u I (16 + 4) s1.toNatClampNeg s0), J, R)) rfl ?_
    have h := Option.some.inj h
    subst h
    exact az_E.forget (L := [.ref 16, .int v1, .int (v2 + (1 : Int32)), .retAddr 0, .retAddr 0]) ⟨rfl, rfl, rfl, trivial, trivial, trivial⟩ hQ
set_option maxRecDepth 100000 in
set_option maxHeartbeats 4000000 in
theorem re_La_work_4_b_16 {ex : az_X} {I : Nat → Nat → Int32} {J : Nat → Nat → Int64} {R : Nat → Nat → Option Nat} {v1 : Int32} {v2 : Int32} {x : ((Int32 × Int32 × (Nat → Nat → Int32)) ⊕ (Int32 × (Nat → Nat → Int32)))} (h : rs_La_work_4_b 16 v1 v2 I = some x) {Q : Option Value → az_S → Prop} (hQ : Sum.elim (fun s => az_E az_F ex 1 31 4 [.ref 16, .int s.1, .int s.2.1, .retAddr 0, .retAddr 0] [] (97, s.2.2, J, R) Q) (fun x => Q (some (.int x.1)) (97, x.2, J, R)) x) : az_E az_F ex 1 31 4 [.ref 16, .int v1, .int v2, .retAddr 0, .retAddr 0] [] (97, I, J, R) Q := by
  unfold rs_La_work_4_b at h
  refine az_E.sn 3 (pc' := 9) (L' := [.ref 16, .int v1, .int v2, .retAddr 0, .retAddr 0]) (S' := [.int (I 16 4), .int v2]) (σ' := (97, I, J, R)) rfl ?_
  refine az_E.br (c := (I 16 4) ≤ v2) (tt := 216) (ff := 12) (L' := [.ref 16, .int v1, .int v2, .retAddr 0, .retAddr 0]) (S' := []) (σ' := (97, I, J, R)) rfl (fun hc_1 => ?_) (fun hc_1 => ?_)
  · rw [if_pos hc_1] at h
    refine az_E.sn 1 (pc' := 217) (L' := [.ref 16, .int v1, .int v2, .retAddr 0, .retAddr 0]) (S' := [.int (0 : Int32)]) (σ' := (97, I, J, R)) rfl ?_
    have h := Option.some.inj h
    subst h
    exact az_E.ret (v := some (.int (0 : Int32))) (σ' := (97, I, J, R)) rfl hQ
  · rw [if_neg hc_1] at h
    refine az_E.sn 3 (pc' := 17) (L' := [.ref 16, .int v1, .int v2, .retAddr 0, .retAddr 0]) (S' := [.int v2, .ref (16 + 1)]) (σ' := (97, I, J, R)) rfl ?_
    by_cases hc_2 : v2 < 0 ∨ 121 ≤ v2.toNatClampNeg
    · rw [if_pos hc_2] at h; cases h
    · rw [if_neg hc_2] at h
      refine az_E.oi (o := az_ai az_F ex (97, I, J, R) (16 + 1) v2) (pc' := 18) (L' := [.ref 16, .int v1, .int v2, .retAddr 0, .retAddr 0]) (S' := []) (σ' := (97, I, J, R)) (x := (I (16 + 1) v2.toNatClampNeg)) rfl (if_neg hc_2) ?_
      refine az_E.sn 3 (pc' := 22) (L' := [.ref 16, .int v1, .int v2, .int (I (16 + 1) v2.toNatClampNeg), .retAddr 0]) (S' := [.int (35 : Int32), .int (I (16 + 1) v2.toNatClampNeg)]) (σ' := (97, I, J, R)) rfl ?_
      refine az_E.br (c := (I (16 + 1) v2.toNatClampNeg) = (35 : Int32)) (tt := 31) (ff := 25) (L' := [.ref 16, .int v1, .int v2, .int (I (16 + 1) v2.toNatClampNeg), .retAddr 0]) (S' := []) (σ' := (97, I, J, R)) rfl (fun hc_3 => ?_) (fun hc_3 => ?_)
      · rw [if_pos hc_3] at h
        exact az_E.forget (L := [.ref 16, .int v1, .int v2, .int (I (16 + 1) v2.toNatClampNeg), .retAddr 0]) ⟨rfl, rfl, rfl, rfl, trivial, trivial⟩ (re_La_work_31_16 (I := I) (J := J) (R := R)  h hQ)
      · rw [if_neg hc_3] at h
        refine az_E.sn 2 (pc' := 28) (L' := [.ref 16, .int v1, .int v2, .int (I (16 + 1) v2.toNatClampNeg), .retAddr 0]) (S' := [.int (110 : Int32), .int (I (16 + 1) v2.toNatClampNeg)]) (σ' := (97, I, J, R)) rfl ?_
        refine az_E.br (c := (I (16 + 1) v2.toNatClampNeg) = (110 : Int32)) (tt := 31) (ff := 76) (L' := [.ref 16, .int v1, .int v2, .int (I (16 + 1) v2.toNatClampNeg), .retAddr 0]) (S' := []) (σ' := (97, I, J, R)) rfl (fun hc_12 => ?_) (fun hc_12 => ?_)
        · rw [if_pos hc_12] at h
          exact az_E.forget (L := [.ref 16, .int v1, .int v2, .int (I (16 + 1) v2.toNatClampNeg), .retAddr 0]) ⟨rfl, rfl, rfl, rfl, trivial, trivial⟩ (re_La_work_31_16 (I := I) (J := J) (R := R)  h hQ)
        · rw [if_neg hc_12] at h
          refine az_E.sn 1 (pc' := 77) (L' := [.ref 16, .int v1, .int v2, .int (I (16 + 1) v2.toNatClampNeg), .retAddr 0]) (S' := [.int v1]) (σ' := (97, I, J, R)) rfl ?_
          refine az_E.br (c := 0 < v1) (tt := 82) (ff := 80) (L' := [.ref 16, .int v1, .int v2, .int (I (16 + 1) v2.toNatClampNeg), .retAddr 0]) (S' := []) (σ' := (97, I, J, R)) rfl (fun hc_13 => ?_) (fun hc_13 => ?_)
          · rw [if_pos hc_13] at h
            refine az_E.sn 5 (pc' := 89) (L' := [.ref 16, .int v1, .int v2, .int (I (16 + 1) v2.toNatClampNeg), .retAddr 0]) (S' := [.int (v1 - (1 : Int32)), .ref (16 + 4)]) (σ' := (97, I, J, R)) rfl ?_
            by_cases hc_14 : (v1 - (1 : Int32)) < 0 ∨ 64 ≤ (v1 - (1 : Int32)).toNatClampNeg
            · rw [if_pos hc_14] at h; cases h
            · rw [if_neg hc_14] at h
              refine az_E.oi (o := az_ai az_F ex (97, I, J, R) (16 + 4) (v1 - (1 : Int32))) (pc' := 90) (L' := [.ref 16, .int v1, .int v2, .int (I (16 + 1) v2.toNatClampNeg), .retAddr 0]) (S' := []) (σ' := (97, I, J, R)) (x := (I (16 + 4) (v1 - (1 : Int32)).toNatClampNeg)) rfl (if_neg hc_14) ?_
              refine az_E.sn 3 (pc' := 95) (L' := [.ref 16, .int v1, .int v2, .int (I (16 + 1) v2.toNatClampNeg), .int (I (16 + 4) (v1 - (1 : Int32)).toNatClampNeg)]) (S' := [.int (59 : Int32), .int (I (16 + 1) v2.toNatClampNeg)]) (σ' := (97, I, J, R)) rfl ?_
              refine az_E.br (c := (I (16 + 1) v2.toNatClampNeg) = (59 : Int32)) (tt := 98) (ff := 101) (L' := [.ref 16, .int v1, .int v2, .int (I (16 + 1) v2.toNatClampNeg), .int (I (16 + 4) (v1 - (1 : Int32)).toNatClampNeg)]) (S' := []) (σ' := (97, I, J, R)) rfl (fun hc_15 => ?_) (fun hc_15 => ?_)
              · rw [if_pos hc_15] at h
                refine az_E.sn 1 (pc' := 100) (L' := [.ref 16, .int v1, .int v2, .int (I (16 + 1) v2.toNatClampNeg), .int (I (16 + 4) (v1 - (1 : Int32)).toNatClampNeg)]) (S' := [.int (I (16 + 4) (v1 - (1 : Int32)).toNatClampNeg)]) (σ' := (97, I, J, R)) rfl ?_
                have h := Option.some.inj h
                subst h
                exact az_E.ret (v := some (.int (I (16 + 4) (v1 - (1 : Int32)).toNatClampNeg))) (σ' := (97, I, J, R)) rfl hQ
              · rw [if_neg hc_15] at h
                refine az_E.sn 2 (pc' := 104) (L' := [.ref 16, .int v1, .int v2, .int (I (16 + 1) v2.toNatClampNeg), .int (I (16 + 4) (v1 - (1 : Int32)).toNatClampNeg)]) (S' := [.int (63 : Int32), .int (I (16 + 1) v2.toNatClampNeg)]) (σ' := (97, I, J, R)) rfl ?_
                refine az_E.br (c := (I (16 + 1) v2.toNatClampNeg) = (63 : Int32)) (tt := 107) (ff := 133) (L' := [.ref 16, .int v1, .int v2, .int (I (16 + 1) v2.toNatClampNeg), .int (I (16 + 4) (v1 - (1 : Int32)).toNatClampNeg)]) (S' := []) (σ' := (97, I, J, R)) rfl (fun hc_16 => ?_) (fun hc_16 => ?_)
                · rw [if_pos hc_16] at h
                  refine az_E.sn 2 (pc' := 112) (L' := [.ref 16, .int (v1 + (-1 : Int32)), .int v2, .int (I (16 + 1) v2.toNatClampNeg), .int (I (16 + 4) (v1 - (1 : Int32)).toNatClampNeg)]) (S' := [.int (I (16 + 4) (v1 - (1 : Int32)).toNatClampNeg)]) (σ' := (97, I, J, R)) rfl ?_
                  refine az_E.br (c := (I (16 + 4) (v1 - (1 : Int32)).toNatClampNeg) = 0) (tt := 115) (ff := 128) (L' := [.ref 16, .int (v1 + (-1 : Int32)), .int v2, .int (I (16 + 1) v2.toNatClampNeg), .int (I (16 + 4) (v1 - (1 : Int32)).toNatClampNeg)]) (S' := []) (σ' := (97, I, J, R)) rfl (fun hc_17 => ?_) (fun hc_17 => ?_)
                  · rw [if_pos hc_17] at h
                    refine az_E.sn 4 (pc' := 121) (L' := [.ref 16, .int (v1 + (-1 : Int32)), .int v2, .int (I (16 + 1) v2.toNatClampNeg), .int (I (16 + 4) (v1 - (1 : Int32)).toNatClampNeg)]) (S' := [.int v2, .ref (16 + 2), .int v2]) (σ' := (97, I, J, R)) rfl ?_
                    by_cases hc_18 : v2 < 0 ∨ 121 ≤ v2.toNatClampNeg
                    · rw [if_pos hc_18] at h; cases h
                    · rw [if_neg hc_18] at h
                      refine az_E.oi (o := az_ai az_F ex (97, I, J, R) (16 + 2) v2) (pc' := 122) (L' := [.ref 16, .int (v1 + (-1 : Int32)), .int v2, .int (I (16 + 1) v2.toNatClampNeg), .int (I (16 + 4) (v1 - (1 : Int32)).toNatClampNeg)]) (S' := [.int v2]) (σ' := (97, I, J, R)) (x := (I (16 + 2) v2.toNatClampNeg)) rfl (if_neg hc_18) ?_
                      refine az_E.sn 6 (pc' := 4) (L' := [.ref 16, .int (v1 + (-1 : Int32)), .int ((if v2 < (I (16 + 2) v2.toNatClampNeg) then (I (16 + 2) v2.toNatClampNeg) else v2) + (1 : Int32)), .int (I (16 + 1) v2.toNatClampNeg), .int (I (16 + 4) (v1 - (1 : Int32)).toNatClampNeg)]) (S' := []) (σ' := (97, I, J, R)) rfl ?_
                      have h := Option.some.inj h
                      subst h
                      exact az_E.forget (L := [.ref 16, .int (v1 + (-1 : Int32)), .int ((if v2 < (I (16 + 2) v2.toNatClampNeg) then (I (16 + 2) v2.toNatClampNeg) else v2) + (1 : Int32)), .retAddr 0, .retAddr 0]) ⟨rfl, rfl, rfl, trivial, trivial, trivial⟩ hQ
                  · rw [if_neg hc_17] at h
                    refine az_E.sn 5 (pc' := 4) (L' := [.ref 16, .int (v1 + (-1 : Int32)), .int (v2 + (1 : Int32)), .int (I (16 + 1) v2.toNatClampNeg), .int (I (16 + 4) (v1 - (1 : Int32)).toNatClampNeg)]) (S' := []) (σ' := (97, I, J, R)) rfl ?_
                    have h := Option.some.inj h
                    subst h
                    exact az_E.forget (L := [.ref 16, .int (v1 + (-1 : Int32)), .int (v2 + (1 : Int32)), .retAddr 0, .retAddr 0]) ⟨rfl, rfl, rfl, trivial, trivial, trivial⟩ hQ
                · rw [if_neg hc_16] at h
                  refine az_E.sn 2 (pc' := 136) (L' := [.ref 16, .int v1, .int v2, .int (I (16 + 1) v2.toNatClampNeg), .int (I (16 + 4) (v1 - (1 : Int32)).toNatClampNeg)]) (S' := [.int (126 : Int32), .int (I (16 + 1) v2.toNatClampNeg)]) (σ' := (97, I, J, R)) rfl ?_
                  refine az_E.br (c := (I (16 + 1) v2.toNatClampNeg) = (126 : Int32)) (tt := 139) (ff := 153) (L' := [.ref 16, .int v1, .int v2, .int (I (16 + 1) v2.toNatClampNeg), .int (I (16 + 4) (v1 - (1 : Int32)).toNatClampNeg)]) (S' := []) (σ' := (97, I, J, R)) rfl (fun hc_19 => ?_) (fun hc_19 => ?_)
                  · rw [if_pos hc_19] at h
                    refine az_E.sn 7 (pc' := 149) (L' := [.ref 16, .int v1, .int v2, .int (I (16 + 1) v2.toNatClampNeg), .int (I (16 + 4) (v1 - (1 : Int32)).toNatClampNeg)]) (S' := [.int (-(I (16 + 4) (v1 - (1 : Int32)).toNatClampNeg)), .int (v1 - (1 : Int32)), .ref (16 + 4)]) (σ' := (97, I, J, R)) rfl ?_
                    by_cases hc_20 : (v1 - (1 : Int32)) < 0 ∨ 64 ≤ (v1 - (1 : Int32)).toNatClampNeg
                    · rw [if_pos hc_20] at h; cases h
                    · rw [if_neg hc_20] at h
                      refine az_E.o (o := az_si az_F (97, I, J, R) (16 + 4) (v1 - (1 : Int32)) (-(I (16 + 4) (v1 - (1 : Int32)).toNatClampNeg))) (pc' := 150) (L' := [.ref 16, .int v1, .int v2, .int (I (16 + 1) v2.toNatClampNeg), .int (I (16 + 4) (v1 - (1 : Int32)).toNatClampNeg)]) (S' := []) (x := (97, (az_u I (16 + 4) (v1 - (1 : Int32)).toNatClampNeg (-(I (16 + 4) (v1 - (1 : Int32)).toNatClampNeg))), J, R)) rfl (if_neg hc_20) ?_
                      refine az_E.sn 3 (pc' := 4) (L' := [.ref 16, .int v1, .int (v2 + (1 : Int32)), .int (I (16 + 1) v2.toNatClampNeg), .int (I (16 + 4) (v1 - (1 : Int32)).toNatClampNeg)]) (S' := []) (σ' := (97, (az_u I (16 + 4) (v1 - (1 : Int32)).toNatClampNeg (-(I (16 + 4) (v1 - (1 : Int32)).toNatClampNeg))), J, R)) rfl ?_
                      have h := Option.some.inj h
                      subst h
                      exact az_E.forget (L := [.ref 16, .int v1, .int (v2 + (1 : Int32)), .retAddr 0, .retAddr 0]) ⟨rfl, rfl, rfl, trivial, trivial, trivial⟩ hQ
                  · rw [if_neg hc_19] at h
                    refine az_E.sn 2 (pc' := 156) (L' := [.ref 16, .int v1, .int v2, .int (I (16 + 1) v2.toNatClampNeg), .int (I (16 + 4) (v1 - (1 : Int32)).toNatClampNeg)]) (S' := [.int (33 : Int32), .int (I (16 + 1) v2.toNatClampNeg)]) (σ' := (97, I, J, R)) rfl ?_
                    refine az_E.br (c := (I (16 + 1) v2.toNatClampNeg) = (33 : Int32)) (tt := 159) (ff := 180) (L' := [.ref 16, .int v1, .int v2, .int (I (16 + 1) v2.toNatClampNeg), .int (I (16 + 4) (v1 - (1 : Int32)).toNatClampNeg)]) (S' := []) (σ' := (97, I, J, R)) rfl (fun hc_21 => ?_) (fun hc_21 => ?_)
                    · rw [if_pos hc_21] at h
                      refine az_E.sn 6 (pc' := 168) (L' := [.ref 16, .int v1, .int v2, .int (I (16 + 1) v2.toNatClampNeg), .int (I (16 + 4) (v1 - (1 : Int32)).toNatClampNeg)]) (S' := [.int (I (16 + 4) (v1 - (1 : Int32)).toNatClampNeg), .int (v1 - (1 : Int32)), .ref (16 + 4)]) (σ' := (97, I, J, R)) rfl ?_
                      refine az_E.br (c := (I (16 + 4) (v1 - (1 : Int32)).toNatClampNeg) = 0) (tt := 171) (ff := 175) (L' := [.ref 16, .int v1, .int v2, .int (I (16 + 1) v2.toNatClampNeg), .int (I (16 + 4) (v1 - (1 : Int32)).toNatClampNeg)]) (S' := [.int (v1 - (1 : Int32)), .ref (16 + 4)]) (σ' := (97, I, J, R)) rfl (fun hc_22 => ?_) (fun hc_22 => ?_)
                      · rw [if_pos hc_22] at h
                        refine az_E.sn 2 (pc' := 176) (L' := [.ref 16, .int v1, .int v2, .int (I (16 + 1) v2.toNatClampNeg), .int (I (16 + 4) (v1 - (1 : Int32)).toNatClampNeg)]) (S' := [.int (1 : Int32), .int (v1 - (1 : Int32)), .ref (16 + 4)]) (σ' := (97, I, J, R)) rfl ?_
                        exact az_E.forget (L := [.ref 16, .int v1, .int v2, .retAddr 0, .retAddr 0]) ⟨rfl, rfl, rfl, trivial, trivial, trivial⟩ (re_La_work_176_16 (I := I) (J := J) (R := R)  h hQ)
                      · rw [if_neg hc_22] at h
                        refine az_E.sn 1 (pc' := 176) (L' := [.ref 16, .int v1, .int v2, .int (I (16 + 1) v2.toNatClampNeg), .int (I (16 + 4) (v1 - (1 : Int32)).toNatClampNeg)]) (S' := [.int (0 : Int32), .int (v1 - (1 : Int32)), .ref (16 + 4)]) (σ' := (97, I, J, R)) rfl ?_
                        exact az_E.forget (L := [.ref 16, .int v1, .int v2, .retAddr 0, .retAddr 0]) ⟨rfl, rfl, rfl, trivial, trivial, trivial⟩ (re_La_work_176_16 (I := I) (J := J) (R := R)  h hQ)
                    · rw [if_neg hc_21] at h
                      refine az_E.sn 2 (pc' := 182) (L' := [.ref 16, .int v1, .int v2, .int (I (16 + 1) v2.toNatClampNeg), .int (I (16 + 4) (v1 - (1 : Int32)).toNatClampNeg)]) (S' := [.int (2 : Int32), .int v1]) (σ' := (97, I, J, R)) rfl ?_
                      refine az_E.br (c := v1 < (2 : Int32)) (tt := 210) (ff := 185) (L' := [.ref 16, .int v1, .int v2, .int (I (16 + 1) v2.toNatClampNeg), .int (I (16 + 4) (v1 - (1 : Int32)).toNatClampNeg)]) (S' := []) (σ' := (97, I, J, R)) rfl (fun hc_24 => ?_) (fun hc_24 => ?_)
                      · rw [if_pos hc_24] at h
                        refine az_E.sn 2 (pc' := 4) (L' := [.ref 16, .int v1, .int (v2 + (1 : Int32)), .int (I (16 + 1) v2.toNatClampNeg), .int (I (16 + 4) (v1 - (1 : Int32)).toNatClampNeg)]) (S' := []) (σ' := (97, I, J, R)) rfl ?_
                        have h := Option.some.inj h
                        subst h
                        exact az_E.forget (L := [.ref 16, .int v1, .int (v2 + (1 : Int32)), .retAddr 0, .retAddr 0]) ⟨rfl, rfl, rfl, trivial, trivial, trivial⟩ hQ
                      · rw [if_neg hc_24] at h
                        refine az_E.sn 11 (pc' := 202) (L' := [.ref 16, .int (v1 + (-1 : Int32)), .int v2, .int (I (16 + 1) v2.toNatClampNeg), .int (I (16 + 4) (v1 - (1 : Int32)).toNatClampNeg)]) (S' := [.int ((v1 + (-1 : Int32)) - (1 : Int32)), .ref (16 + 4), .int ((v1 + (-1 : Int32)) - (1 : Int32)), .ref (16 + 4)]) (σ' := (97, I, J, R)) rfl ?_
                        by_cases hc_25 : ((v1 + (-1 : Int32)) - (1 : Int32)) < 0 ∨ 64 ≤ ((v1 + (-1 : Int32)) - (1 : Int32)).toNatClampNeg
                        · rw [if_pos hc_25] at h; cases h
                        · rw [if_neg hc_25] at h
                          refine az_E.oi (o := az_ai az_F ex (97, I, J, R) (16 + 4) ((v1 + (-1 : Int32)) - (1 : Int32))) (pc' := 203) (L' := [.ref 16, .int (v1 + (-1 : Int32)), .int v2, .int (I (16 + 1) v2.toNatClampNeg), .int (I (16 + 4) (v1 - (1 : Int32)).toNatClampNeg)]) (S' := [.int ((v1 + (-1 : Int32)) - (1 : Int32)), .ref (16 + 4)]) (σ' := (97, I, J, R)) (x := (I (16 + 4) ((v1 + (-1 : Int32)) - (1 : Int32)).toNatClampNeg)) rfl (az_ai_ok rfl rfl hc_25) ?_
                          refine az_E.sn 2 (pc' := 206) (L' := [.ref 16, .int (v1 + (-1 : Int32)), .int v2, .int (I (16 + 1) v2.toNatClampNeg), .int (I (16 + 4) (v1 - (1 : Int32)).toNatClampNeg)]) (S' := [.int (I (16 + 4) (v1 - (1 : Int32)).toNatClampNeg), .int (I (16 + 1) v2.toNatClampNeg), .int (I (16 + 4) ((v1 + (-1 : Int32)) - (1 : Int32)).toNatClampNeg), .int ((v1 + (-1 : Int32)) - (1 : Int32)), .ref (16 + 4)]) (σ' := (97, I, J, R)) rfl ?_
                          cases hx_27 : rs_La_joined (I (16 + 4) ((v1 + (-1 : Int32)) - (1 : Int32)).toNatClampNeg) (I (16 + 1) v2.toNatClampNeg) (I (16 + 4) (v1 - (1 : Int32)).toNatClampNeg) with
                          | none => rw [hx_27] at h; cases h
                          | some x_26 =>
                            rw [hx_27] at h
                            dsimp only at h
                            refine az_E.call (d := 0) (k' := 33) (vs := [.int (I (16 + 4) ((v1 + (-1 : Int32)) - (1 : Int32)).toNatClampNeg), .int (I (16 + 1) v2.toNatClampNeg), .int (I (16 + 4) (v1 - (1 : Int32)).toNatClampNeg)]) (pc' := 209) (S' := [.int ((v1 + (-1 : Int32)) - (1 : Int32)), .ref (16 + 4)]) (Q1 := fun v s => v = some (.int x_26) ∧ s = (97, I, J, R)) rfl (az_E.deep (by omega) (re_La_joined (J := J) (R := R)  hx_27 ⟨rfl, rfl⟩)) (fun v s hq => ?_)
                            obtain ⟨rfl, rfl⟩ := hq
                            show az_E az_F ex 1 31 209 [.ref 16, .int (v1 + (-1 : Int32)), .int v2, .int (I (16 + 1) v2.toNatClampNeg), .int (I (16 + 4) (v1 - (1 : Int32)).toNatClampNeg)] [.int x_26, .int ((v1 + (-1 : Int32)) - (1 : Int32)), .ref (16 + 4)] (97, I, J, R) _
                            by_cases hc_28 : ((v1 + (-1 : Int32)) - (1 : Int32)) < 0 ∨ 64 ≤ ((v1 + (-1 : Int32)) - (1 : Int32)).toNatClampNeg
                            · rw [if_pos hc_28] at h; cases h
                            · rw [if_neg hc_28] at h
                              refine az_E.o (o := az_si az_F (97, I, J, R) (16 + 4) ((v1 + (-1 : Int32)) - (1 : Int32)) x_26) (pc' := 210) (L' := [.ref 16, .int (v1 + (-1 : Int32)), .int v2, .int (I (16 + 1) v2.toNatClampNeg), .int (I (16 + 4) (v1 - (1 : Int32)).toNatClampNeg)]) (S' := []) (x := (97, (az_u I (16 + 4) ((v1 + (-1 : Int32)) - (1 : Int32)).toNatClampNeg x_26), J, R)) rfl (az_si_ok rfl hc_28) ?_
                              refine az_E.sn 2 (pc' := 4) (L' := [.ref 16, .int (v1 + (-1 : Int32)), .int (v2 + (1 : Int32)), .int (I (16 + 1) v2.toNatClampNeg), .int (I (16 + 4) (v1 - (1 : Int32)).toNatClampNeg)]) (S' := []) (σ' := (97, (az_u I (16 + 4) ((v1 + (-1 : Int32)) - (1 : Int32)).toNatClampNeg x_26), J, R)) rfl ?_
                              have h := Option.some.inj h
                              subst h
                              exact az_E.forget (L := [.ref 16, .int (v1 + (-1 : Int32)), .int (v2 + (1 : Int32)), .retAddr 0, .retAddr 0]) ⟨rfl, rfl, rfl, trivial, trivial, trivial⟩ hQ
          · rw [if_neg hc_13] at h
            refine az_E.sn 1 (pc' := 81) (L' := [.ref 16, .int v1, .int v2, .int (I (16 + 1) v2.toNatClampNeg), .retAddr 0]) (S' := [.int (0 : Int32)]) (σ' := (97, I, J, R)) rfl ?_
            have h := Option.some.inj h
            subst h
            exact az_E.ret (v := some (.int (0 : Int32))) (σ' := (97, I, J, R)) rfl hQ
set_option maxRecDepth 100000 in
set_option maxHeartbeats 4000000 in
theorem re_La_work_4_16 {ex : az_X} {I : Nat → Nat → Int32} {J : Nat → Nat → Int64} {R : Nat → Nat → Option Nat} {v1 : Int32} {v2 : Int32} {x : Int32 × (Nat → Nat → Int32)} (h : rs_La_work_4 16 I v1 v2 = some x) {Q : Option Value → az_S → Prop} (hQ : Q (some (.int x.1)) (97, x.2, J, R)) : az_E az_F ex 1 31 4 [.ref 16, .int v1, .int v2, .retAddr 0, .retAddr 0] [] (97, I, J, R) Q := by
  unfold rs_La_work_4 at h
  refine az_lp_E (G := fun s => az_E az_F ex 1 31 4 [.ref 16, .int s.1, .int s.2.1, .retAddr 0, .retAddr 0] [] (97, s.2.2, J, R) Q) (H := fun x => Q (some (.int x.1)) (97, x.2, J, R)) (fun s o hb ho => ?_) _ _ _ h hQ
  exact re_La_work_4_b_16  hb ho
set_option maxRecDepth 100000 in
set_option maxHeartbeats 4000000 in
theorem re_La_work_16 {ex : az_X} {I : Nat → Nat → Int32} {J : Nat → Nat → Int64} {R : Nat → Nat → Option Nat} {o : Int32 × (Nat → Nat → Int32)} (h : rs_La_work 16 I = some o) {Q : Option Value → az_S → Prop} (hQ : Q (some (.int o.1)) (97, o.2, J, R)) : az_E az_F ex 1 31 0 [.ref 16, .retAddr 0, .retAddr 0, .retAddr 0, .retAddr 0] [] (97, I, J, R) Q := by
  unfold rs_La_work at h
  refine az_E.sn 4 (pc' := 4) (L' := [.ref 16, .int (0 : Int32), .int (0 : Int32), .retAddr 0, .retAddr 0]) (S' := []) (σ' := (97, I, J, R)) rfl ?_
  exact az_E.forget (L := [.ref 16, .int (0 : Int32), .int (0 : Int32), .retAddr 0, .retAddr 0]) ⟨rfl, rfl, rfl, trivial, trivial, trivial⟩ (re_La_work_4_16 (I := I) (J := J) (R := R)  h hQ)
set_option maxRecDepth 100000 in
set_option maxHeartbeats 4000000 in
theorem re_La_minutes_83_16 {ex : az_X} {I : Nat → Nat → Int32} {J : Nat → Nat → Int64} {R : Nat → Nat → Option Nat} {v7 : Int32} {x : Int32 × (Nat → Nat → Int32)} (h : rs_La_minutes_83 16 I v7 = some x) {Q : Option Value → az_S → Prop} (hQ : Q (some (.int x.1)) (97, x.2, J, R)) : az_E az_F ex 2 30 83 [.retAddr 0, .retAddr 0, .retAddr 0, .retAddr 0, .retAddr 0, .retAddr 0, .retAddr 0, .int v7] [] (97, I, J, R) Q := by
  unfold rs_La_minutes_83 at h
  refine az_E.sn 5 (pc' := 94) (L' := [.retAddr 0, .retAddr 0, .retAddr 0, .retAddr 0, .retAddr 0, .retAddr 0, .retAddr 0, .int v7]) (S' := [.int (if (1 : Int32) < (if v7 < (99 : Int32) then v7 else (99 : Int32)) then (if v7 < (99 : Int32) then v7 else (99 : Int32)) else (1 : Int32))]) (σ' := (97, I, J, R)) rfl ?_
  have h := Option.some.inj h
  subst h
  exact az_E.ret (v := some (.int (if (1 : Int32) < (if v7 < (99 : Int32) then v7 else (99 : Int32)) then (if v7 < (99 : Int32) then v7 else (99 : Int32)) else (1 : Int32)))) (σ' := (97, I, J, R)) rfl hQ
set_option maxRecDepth 100000 in
set_option maxHeartbeats 4000000 in
theorem re_La_minutes_16 {ex : az_X} {I : Nat → Nat → Int32} {J : Nat → Nat → Int64} {R : Nat → Nat → Option Nat} {a1 : Int32} {a2 : Int32} {a3 : Int32} {a4 : Int32} {a5 : Int32} {a6 : Int32} {o : Int32 × (Nat → Nat → Int32)} (h : rs_La_minutes 16 I a1 a2 a3 a4 a5 a6 = some o) {Q : Option Value → az_S → Prop} (hQ : Q (some (.int o.1)) (97, o.2, J, R)) : az_E az_F ex 2 30 0 [.ref 16, .int a1, .int a2, .int a3, .int a4, .int a5, .int a6, .retAddr 0] [] (97, I, J, R) Q := by
  unfold rs_La_minutes at h
  refine az_E.sn 2 (pc' := 4) (L' := [.ref 16, .int a1, .int a2, .int a3, .int a4, .int a5, .int a6, .retAddr 0]) (S' := [.int (I 16 5)]) (σ' := (97, I, J, R)) rfl ?_
  refine az_E.br (c := (I 16 5) = 0) (tt := 61) (ff := 7) (L' := [.ref 16, .int a1, .int a2, .int a3, .int a4, .int a5, .int a6, .retAddr 0]) (S' := []) (σ' := (97, I, J, R)) rfl (fun hc_1 => ?_) (fun hc_1 => ?_)
  · rw [if_pos hc_1] at h
    refine az_E.sn 16 (pc' := 83) (L' := [.ref 16, .int a1, .int a2, .int a3, .int a4, .int a5, .int a6, .int ((((((10 : Int32) + ((3 : Int32) * (if a1 < (0 : Int32) then (0 : Int32) else a1))) + a3) + a5) - a2) - a4)]) (S' := []) (σ' := (97, I, J, R)) rfl ?_
    exact az_E.forget (L := [.retAddr 0, .retAddr 0, .retAddr 0, .retAddr 0, .retAddr 0, .retAddr 0, .retAddr 0, .int ((((((10 : Int32) + ((3 : Int32) * (if a1 < (0 : Int32) then (0 : Int32) else a1))) + a3) + a5) - a2) - a4)]) ⟨trivial, trivial, trivial, trivial, trivial, trivial, trivial, rfl, trivial⟩ (re_La_minutes_83_16 (I := I) (J := J) (R := R)  h hQ)
  · rw [if_neg hc_1] at h
    refine az_E.sn 4 (pc' := 13) (L' := [.ref 16, .int a1, .int a2, .int a3, .int a4, .int a5, .int a6, .retAddr 0]) (S' := [.int a1, .int (0 : Int32), .ref (16 + 3)]) (σ' := (97, I, J, R)) rfl ?_
    refine az_E.o (o := az_si az_F (97, I, J, R) (16 + 3) (0 : Int32) a1) (pc' := 14) (L' := [.ref 16, .int a1, .int a2, .int a3, .int a4, .int a5, .int a6, .retAddr 0]) (S' := []) (x := (97, (az_u I (16 + 3) 0 a1), J, R)) rfl rfl ?_
    refine az_E.sn 4 (pc' := 20) (L' := [.ref 16, .int a1, .int a2, .int a3, .int a4, .int a5, .int a6, .retAddr 0]) (S' := [.int a2, .int (1 : Int32), .ref (16 + 3)]) (σ' := (97, (az_u I (16 + 3) 0 a1), J, R)) rfl ?_
    refine az_E.o (o := az_si az_F (97, (az_u I (16 + 3) 0 a1), J, R) (16 + 3) (1 : Int32) a2) (pc' := 21) (L' := [.ref 16, .int a1, .int a2, .int a3, .int a4, .int a5, .int a6, .retAddr 0]) (S' := []) (x := (97, (az_u (az_u I (16 + 3) 0 a1) (16 + 3) 1 a2), J, R)) rfl rfl ?_
    refine az_E.sn 4 (pc' := 27) (L' := [.ref 16, .int a1, .int a2, .int a3, .int a4, .int a5, .int a6, .retAddr 0]) (S' := [.int a3, .int (2 : Int32), .ref (16 + 3)]) (σ' := (97, (az_u (az_u I (16 + 3) 0 a1) (16 + 3) 1 a2), J, R)) rfl ?_
    refine az_E.o (o := az_si az_F (97, (az_u (az_u I (16 + 3) 0 a1) (16 + 3) 1 a2), J, R) (16 + 3) (2 : Int32) a3) (pc' := 28) (L' := [.ref 16, .int a1, .int a2, .int a3, .int a4, .int a5, .int a6, .retAddr 0]) (S' := []) (x := (97, (az_u (az_u (az_u I (16 + 3) 0 a1) (16 + 3) 1 a2) (16 + 3) 2 a3), J, R)) rfl rfl ?_
    refine az_E.sn 4 (pc' := 35) (L' := [.ref 16, .int a1, .int a2, .int a3, .int a4, .int a5, .int a6, .retAddr 0]) (S' := [.int a4, .int (3 : Int32), .ref (16 + 3)]) (σ' := (97, (az_u (az_u (az_u I (16 + 3) 0 a1) (16 + 3) 1 a2) (16 + 3) 2 a3), J, R)) rfl ?_
    refine az_E.o (o := az_si az_F (97, (az_u (az_u (az_u I (16 + 3) 0 a1) (16 + 3) 1 a2) (16 + 3) 2 a3), J, R) (16 + 3) (3 : Int32) a4) (pc' := 36) (L' := [.ref 16, .int a1, .int a2, .int a3, .int a4, .int a5, .int a6, .retAddr 0]) (S' := []) (x := (97, (az_u (az_u (az_u (az_u I (16 + 3) 0 a1) (16 + 3) 1 a2) (16 + 3) 2 a3) (16 + 3) 3 a4), J, R)) rfl rfl ?_
    refine az_E.sn 4 (pc' := 43) (L' := [.ref 16, .int a1, .int a2, .int a3, .int a4, .int a5, .int a6, .retAddr 0]) (S' := [.int a5, .int (4 : Int32), .ref (16 + 3)]) (σ' := (97, (az_u (az_u (az_u (az_u I (16 + 3) 0 a1) (16 + 3) 1 a2) (16 + 3) 2 a3) (16 + 3) 3 a4), J, R)) rfl ?_
    refine az_E.o (o := az_si az_F (97, (az_u (az_u (az_u (az_u I (16 + 3) 0 a1) (16 + 3) 1 a2) (16 + 3) 2 a3) (16 + 3) 3 a4), J, R) (16 + 3) (4 : Int32) a5) (pc' := 44) (L' := [.ref 16, .int a1, .int a2, .int a3, .int a4, .int a5, .int a6, .retAddr 0]) (S' := []) (x := (97, (az_u (az_u (az_u (az_u (az_u I (16 + 3) 0 a1) (16 + 3) 1 a2) (16 + 3) 2 a3) (16 + 3) 3 a4) (16 + 3) 4 a5), J, R)) rfl rfl ?_
    refine az_E.sn 4 (pc' := 51) (L' := [.ref 16, .int a1, .int a2, .int a3, .int a4, .int a5, .int a6, .retAddr 0]) (S' := [.int a6, .int (5 : Int32), .ref (16 + 3)]) (σ' := (97, (az_u (az_u (az_u (az_u (az_u I (16 + 3) 0 a1) (16 + 3) 1 a2) (16 + 3) 2 a3) (16 + 3) 3 a4) (16 + 3) 4 a5), J, R)) rfl ?_
    refine az_E.o (o := az_si az_F (97, (az_u (az_u (az_u (az_u (az_u I (16 + 3) 0 a1) (16 + 3) 1 a2) (16 + 3) 2 a3) (16 + 3) 3 a4) (16 + 3) 4 a5), J, R) (16 + 3) (5 : Int32) a6) (pc' := 52) (L' := [.ref 16, .int a1, .int a2, .int a3, .int a4, .int a5, .int a6, .retAddr 0]) (S' := []) (x := (97, (az_u (az_u (az_u (az_u (az_u (az_u I (16 + 3) 0 a1) (16 + 3) 1 a2) (16 + 3) 2 a3) (16 + 3) 3 a4) (16 + 3) 4 a5) (16 + 3) 5 a6), J, R)) rfl rfl ?_
    refine az_E.sn 1 (pc' := 53) (L' := [.ref 16, .int a1, .int a2, .int a3, .int a4, .int a5, .int a6, .retAddr 0]) (S' := [.ref 16]) (σ' := (97, (az_u (az_u (az_u (az_u (az_u (az_u I (16 + 3) 0 a1) (16 + 3) 1 a2) (16 + 3) 2 a3) (16 + 3) 3 a4) (16 + 3) 4 a5) (16 + 3) 5 a6), J, R)) rfl ?_
    cases hx_10 : rs_La_work 16 (az_u (az_u (az_u (az_u (az_u (az_u I (16 + 3) 0 a1) (16 + 3) 1 a2) (16 + 3) 2 a3) (16 + 3) 3 a4) (16 + 3) 4 a5) (16 + 3) 5 a6) with
    | none => rw [hx_10] at h; cases h
    | some o =>
      rw [hx_10] at h
      obtain ⟨x_8, I_9⟩ := o
      dsimp only at h
      refine az_E.call (d := 1) (k' := 31) (vs := [.ref 16]) (pc' := 56) (S' := []) (Q1 := fun v s => v = some (.int x_8) ∧ s = (97, I_9, J, R)) rfl (az_E.deep (by omega) (re_La_work_16 (J := J) (R := R)  hx_10 ⟨rfl, rfl⟩)) (fun v s hq => ?_)
      obtain ⟨rfl, rfl⟩ := hq
      show az_E az_F ex 2 30 56 [.ref 16, .int a1, .int a2, .int a3, .int a4, .int a5, .int a6, .retAddr 0] [.int x_8] (97, I_9, J, R) _
      refine az_E.sn 2 (pc' := 83) (L' := [.ref 16, .int a1, .int a2, .int a3, .int a4, .int a5, .int a6, .int x_8]) (S' := []) (σ' := (97, I_9, J, R)) rfl ?_
      exact az_E.forget (L := [.retAddr 0, .retAddr 0, .retAddr 0, .retAddr 0, .retAddr 0, .retAddr 0, .retAddr 0, .int x_8]) ⟨trivial, trivial, trivial, trivial, trivial, trivial, trivial, rfl, trivial⟩ (re_La_minutes_83_16 (I := I_9) (J := J) (R := R)  h hQ)
set_option maxRecDepth 100000 in
set_option maxHeartbeats 4000000 in
theorem re_X_stepMinutes_16 {ex : az_X} {I : Nat → Nat → Int32} {J : Nat → Nat → Int64} {R : Nat → Nat → Option Nat} {a1 : Int32} {a2 : Int32} {a3 : Int32} (hR_3_2 : R 3 2 = some 16) {o : Int32 × (Nat → Nat → Int32)} (h : rs_X_stepMinutes 16 I a1 a2 a3 = some o) {Q : Option Value → az_S → Prop} (hQ : Q (some (.int o.1)) (97, o.2, J, R)) : az_E az_F ex 3 145 0 [.ref 3, .int a1, .int a2, .int a3, .retAddr 0, .retAddr 0] [] (97, I, J, R) Q := by
  unfold rs_X_stepMinutes at h
  refine az_E.sn 4 (pc' := 8) (L' := [.ref 3, .int a1, .int a2, .int a3, .retAddr 0, .retAddr 0]) (S' := [.int a3, .ref 5]) (σ' := (97, I, J, R)) rfl ?_
  by_cases hc_1 : a3 < 0 ∨ 144 ≤ a3.toNatClampNeg
  · rw [if_pos hc_1] at h; cases h
  · rw [if_neg hc_1] at h
    refine az_E.oi (o := az_ai az_F ex (97, I, J, R) 5 a3) (pc' := 9) (L' := [.ref 3, .int a1, .int a2, .int a3, .retAddr 0, .retAddr 0]) (S' := []) (σ' := (97, I, J, R)) (x := (I 5 a3.toNatClampNeg)) rfl (if_neg hc_1) ?_
    refine az_E.sn 6 (pc' := 21) (L' := [.ref 3, .int a1, .int a2, .int a3, .int (I 5 a3.toNatClampNeg), .retAddr 0]) (S' := [.int a2, .ref 5, .int (I 5 a3.toNatClampNeg)]) (σ' := (97, I, J, R)) rfl ?_
    by_cases hc_2 : a2 < 0 ∨ 144 ≤ a2.toNatClampNeg
    · rw [if_pos hc_2] at h; cases h
    · rw [if_neg hc_2] at h
      refine az_E.oi (o := az_ai az_F ex (97, I, J, R) 5 a2) (pc' := 22) (L' := [.ref 3, .int a1, .int a2, .int a3, .int (I 5 a3.toNatClampNeg), .retAddr 0]) (S' := [.int (I 5 a3.toNatClampNeg)]) (σ' := (97, I, J, R)) (x := (I 5 a2.toNatClampNeg)) rfl (if_neg hc_2) ?_
      refine az_E.sn 3 (pc' := 26) (L' := [.ref 3, .int a1, .int a2, .int a3, .int (I 5 a3.toNatClampNeg), .int ((I 5 a3.toNatClampNeg) - (I 5 a2.toNatClampNeg))]) (S' := [.ref 3]) (σ' := (97, I, J, R)) rfl ?_
      refine az_E.ov (pc' := 29) (L' := [.ref 3, .int a1, .int a2, .int a3, .int (I 5 a3.toNatClampNeg), .int ((I 5 a3.toNatClampNeg) - (I 5 a2.toNatClampNeg))]) (S' := []) (σ' := (97, I, J, R)) (x := .ref 16) rfl (congrArg (fun z => some (va_rf z)) hR_3_2) ?_
      refine az_E.sn 5 (pc' := 39) (L' := [.ref 3, .int a1, .int a2, .int a3, .int (I 5 a3.toNatClampNeg), .int ((I 5 a3.toNatClampNeg) - (I 5 a2.toNatClampNeg))]) (S' := [.int a1, .ref 8, .int ((I 5 a3.toNatClampNeg) - (I 5 a2.toNatClampNeg)), .ref 16]) (σ' := (97, I, J, R)) rfl ?_
      by_cases hc_3 : a1 < 0 ∨ 6 ≤ a1.toNatClampNeg
      · rw [if_pos hc_3] at h; cases h
      · rw [if_neg hc_3] at h
        refine az_E.oi (o := az_ai az_F ex (97, I, J, R) 8 a1) (pc' := 40) (L' := [.ref 3, .int a1, .int a2, .int a3, .int (I 5 a3.toNatClampNeg), .int ((I 5 a3.toNatClampNeg) - (I 5 a2.toNatClampNeg))]) (S' := [.int ((I 5 a3.toNatClampNeg) - (I 5 a2.toNatClampNeg)), .ref 16]) (σ' := (97, I, J, R)) (x := (I 8 a1.toNatClampNeg)) rfl (if_neg hc_3) ?_
        refine az_E.sn 4 (pc' := 48) (L' := [.ref 3, .int a1, .int a2, .int a3, .int (I 5 a3.toNatClampNeg), .int ((I 5 a3.toNatClampNeg) - (I 5 a2.toNatClampNeg))]) (S' := [.int a1, .ref 9, .int (I 8 a1.toNatClampNeg), .int ((I 5 a3.toNatClampNeg) - (I 5 a2.toNatClampNeg)), .ref 16]) (σ' := (97, I, J, R)) rfl ?_
        by_cases hc_4 : a1 < 0 ∨ 6 ≤ a1.toNatClampNeg
        · rw [if_pos hc_4] at h; cases h
        · rw [if_neg hc_4] at h
          refine az_E.oi (o := az_ai az_F ex (97, I, J, R) 9 a1) (pc' := 49) (L' := [.ref 3, .int a1, .int a2, .int a3, .int (I 5 a3.toNatClampNeg), .int ((I 5 a3.toNatClampNeg) - (I 5 a2.toNatClampNeg))]) (S' := [.int (I 8 a1.toNatClampNeg), .int ((I 5 a3.toNatClampNeg) - (I 5 a2.toNatClampNeg)), .ref 16]) (σ' := (97, I, J, R)) (x := (I 9 a1.toNatClampNeg)) rfl (if_neg hc_4) ?_
          refine az_E.sn 4 (pc' := 57) (L' := [.ref 3, .int a1, .int a2, .int a3, .int (I 5 a3.toNatClampNeg), .int ((I 5 a3.toNatClampNeg) - (I 5 a2.toNatClampNeg))]) (S' := [.int a1, .ref 10, .int (I 9 a1.toNatClampNeg), .int (I 8 a1.toNatClampNeg), .int ((I 5 a3.toNatClampNeg) - (I 5 a2.toNatClampNeg)), .ref 16]) (σ' := (97, I, J, R)) rfl ?_
          by_cases hc_5 : a1 < 0 ∨ 6 ≤ a1.toNatClampNeg
          · rw [if_pos hc_5] at h; cases h
          · rw [if_neg hc_5] at h
            refine az_E.oi (o := az_ai az_F ex (97, I, J, R) 10 a1) (pc' := 58) (L' := [.ref 3, .int a1, .int a2, .int a3, .int (I 5 a3.toNatClampNeg), .int ((I 5 a3.toNatClampNeg) - (I 5 a2.toNatClampNeg))]) (S' := [.int (I 9 a1.toNatClampNeg), .int (I 8 a1.toNatClampNeg), .int ((I 5 a3.toNatClampNeg) - (I 5 a2.toNatClampNeg)), .ref 16]) (σ' := (97, I, J, R)) (x := (I 10 a1.toNatClampNeg)) rfl (if_neg hc_5) ?_
            refine az_E.sn 4 (pc' := 67) (L' := [.ref 3, .int a1, .int a2, .int a3, .int (I 5 a3.toNatClampNeg), .int ((I 5 a3.toNatClampNeg) - (I 5 a2.toNatClampNeg))]) (S' := [.int (I 5 a3.toNatClampNeg), .int (I 4 10), .int (I 10 a1.toNatClampNeg), .int (I 9 a1.toNatClampNeg), .int (I 8 a1.toNatClampNeg), .int ((I 5 a3.toNatClampNeg) - (I 5 a2.toNatClampNeg)), .ref 16]) (σ' := (97, I, J, R)) rfl ?_
            cases hx_8 : rs_La_minutes 16 I ((I 5 a3.toNatClampNeg) - (I 5 a2.toNatClampNeg)) (I 8 a1.toNatClampNeg) (I 9 a1.toNatClampNeg) (I 10 a1.toNatClampNeg) (I 4 10) (I 5 a3.toNatClampNeg) with
            | none => rw [hx_8] at h; cases h
            | some o =>
              rw [hx_8] at h
              obtain ⟨x_6, I_7⟩ := o
              dsimp only at h
              refine az_E.call (d := 2) (k' := 30) (vs := [.ref 16, .int ((I 5 a3.toNatClampNeg) - (I 5 a2.toNatClampNeg)), .int (I 8 a1.toNatClampNeg), .int (I 9 a1.toNatClampNeg), .int (I 10 a1.toNatClampNeg), .int (I 4 10), .int (I 5 a3.toNatClampNeg)]) (pc' := 70) (S' := []) (Q1 := fun v s => v = some (.int x_6) ∧ s = (97, I_7, J, R)) rfl (az_E.deep (by omega) (re_La_minutes_16 (J := J) (R := R)  hx_8 ⟨rfl, rfl⟩)) (fun v s hq => ?_)
              obtain ⟨rfl, rfl⟩ := hq
              show az_E az_F ex 3 145 70 [.ref 3, .int a1, .int a2, .int a3, .int (I 5 a3.toNatClampNeg), .int ((I 5 a3.toNatClampNeg) - (I 5 a2.toNatClampNeg))] [.int x_6] (97, I_7, J, R) _
              have h := Option.some.inj h
              subst h
              exact az_E.ret (v := some (.int x_6)) (σ' := (97, I_7, J, R)) rfl hQ
set_option maxRecDepth 100000 in
set_option maxHeartbeats 4000000 in
theorem re_X_step_16 {ex : az_X} {I : Nat → Nat → Int32} {J : Nat → Nat → Int64} {R : Nat → Nat → Option Nat} {a1 : Int32} {a2 : Int32} (hR_3_2 : R 3 2 = some 16) {o : Int32 × (Nat → Nat → Int32)} (h : rs_X_step 16 I a1 a2 = some o) {Q : Option Value → az_S → Prop} (hQ : Q (some (.int o.1)) (97, o.2, J, R)) : az_E az_F ex 4 91 0 [.ref 3, .int a1, .int a2] [] (97, I, J, R) Q := by
  unfold rs_X_step at h
  refine az_E.sn 1 (pc' := 1) (L' := [.ref 3, .int a1, .int a2]) (S' := [.int a1]) (σ' := (97, I, J, R)) rfl ?_
  cases hx_2 : rs_X_isFromTo a1 with
  | none => rw [hx_2] at h; cases h
  | some x_1 =>
    rw [hx_2] at h
    dsimp only at h
    refine az_E.call (d := 3) (k' := 134) (vs := [.int a1]) (pc' := 4) (S' := []) (Q1 := fun v s => v = some (.int x_1) ∧ s = (97, I, J, R)) rfl (az_E.deep (by omega) (re_X_isFromTo (J := J) (R := R)  hx_2 ⟨rfl, rfl⟩)) (fun v s hq => ?_)
    obtain ⟨rfl, rfl⟩ := hq
    show az_E az_F ex 4 91 4 [.ref 3, .int a1, .int a2] [.int x_1] (97, I, J, R) _
    refine az_E.br (c := x_1 = 0) (tt := 29) (ff := 7) (L' := [.ref 3, .int a1, .int a2]) (S' := []) (σ' := (97, I, J, R)) rfl (fun hc_3 => ?_) (fun hc_3 => ?_)
    · rw [if_pos hc_3] at h
      refine az_E.sn 1 (pc' := 30) (L' := [.ref 3, .int a1, .int a2]) (S' := [.int (-1 : Int32)]) (σ' := (97, I, J, R)) rfl ?_
      have h := Option.some.inj h
      subst h
      exact az_E.ret (v := some (.int (-1 : Int32))) (σ' := (97, I, J, R)) rfl hQ
    · rw [if_neg hc_3] at h
      refine az_E.sn 2 (pc' := 9) (L' := [.ref 3, .int a1, .int a2]) (S' := [.int a2, .ref 3]) (σ' := (97, I, J, R)) rfl ?_
      refine az_E.call (d := 3) (k' := 138) (vs := [.ref 3, .int a2]) (pc' := 12) (S' := []) rfl ?_ (fun _ _ hq => hq)
      show az_E az_F ex 3 138 0 [.ref 3, .int a2] [] (97, I, J, R) _
      refine az_E.sn 7 (pc' := 11) (L' := [.ref 3, .int a2]) (S' := [.int ((I 4 9) - (1 : Int32)), .int (0 : Int32), .int a2]) (σ' := (97, I, J, R)) rfl ?_
      refine az_E.call (d := 2) (k' := 131) (vs := [.int a2, .int (0 : Int32), .int ((I 4 9) - (1 : Int32))]) (pc' := 14) (S' := []) rfl ?_ (fun _ _ hq => hq)
      show az_E az_F ex 2 131 0 [.int a2, .int (0 : Int32), .int ((I 4 9) - (1 : Int32))] [] (97, I, J, R) _
      refine az_E.sn 2 (pc' := 2) (L' := [.int a2, .int (0 : Int32), .int ((I 4 9) - (1 : Int32))]) (S' := [.int (0 : Int32), .int a2]) (σ' := (97, I, J, R)) rfl ?_
      refine az_E.br (c := a2 < (0 : Int32)) (tt := 14) (ff := 5) (L' := [.int a2, .int (0 : Int32), .int ((I 4 9) - (1 : Int32))]) (S' := []) (σ' := (97, I, J, R)) rfl (fun hc_4 => ?_) (fun hc_4 => ?_)
      · rw [if_pos hc_4] at h
        refine az_E.sn 1 (pc' := 15) (L' := [.int a2, .int (0 : Int32), .int ((I 4 9) - (1 : Int32))]) (S' := [.int (0 : Int32)]) (σ' := (97, I, J, R)) rfl ?_
        refine az_E.ret (v := some (.int (0 : Int32))) (σ' := (97, I, J, R)) rfl ?_
        show az_E az_F ex 3 138 14 [.ref 3, .int a2] [.int (0 : Int32)] (97, I, J, R) _
        refine az_E.ret (v := some (.int (0 : Int32))) (σ' := (97, I, J, R)) rfl ?_
        show az_E az_F ex 4 91 12 [.ref 3, .int a1, .int a2] [.int (0 : Int32)] (97, I, J, R) _
        refine az_E.br (c := (0 : Int32) = 0) (tt := 29) (ff := 15) (L' := [.ref 3, .int a1, .int a2]) (S' := []) (σ' := (97, I, J, R)) rfl (fun _ => ?_) (fun hn => absurd (by decide) hn)
        refine az_E.sn 1 (pc' := 30) (L' := [.ref 3, .int a1, .int a2]) (S' := [.int (-1 : Int32)]) (σ' := (97, I, J, R)) rfl ?_
        have h := Option.some.inj h
        subst h
        exact az_E.ret (v := some (.int (-1 : Int32))) (σ' := (97, I, J, R)) rfl hQ
      · rw [if_neg hc_4] at h
        refine az_E.sn 2 (pc' := 7) (L' := [.int a2, .int (0 : Int32), .int ((I 4 9) - (1 : Int32))]) (S' := [.int ((I 4 9) - (1 : Int32)), .int a2]) (σ' := (97, I, J, R)) rfl ?_
        refine az_E.br (c := ((I 4 9) - (1 : Int32)) < a2) (tt := 14) (ff := 10) (L' := [.int a2, .int (0 : Int32), .int ((I 4 9) - (1 : Int32))]) (S' := []) (σ' := (97, I, J, R)) rfl (fun hc_5 => ?_) (fun hc_5 => ?_)
        · rw [if_pos hc_5] at h
          refine az_E.sn 1 (pc' := 15) (L' := [.int a2, .int (0 : Int32), .int ((I 4 9) - (1 : Int32))]) (S' := [.int (0 : Int32)]) (σ' := (97, I, J, R)) rfl ?_
          refine az_E.ret (v := some (.int (0 : Int32))) (σ' := (97, I, J, R)) rfl ?_
          show az_E az_F ex 3 138 14 [.ref 3, .int a2] [.int (0 : Int32)] (97, I, J, R) _
          refine az_E.ret (v := some (.int (0 : Int32))) (σ' := (97, I, J, R)) rfl ?_
          show az_E az_F ex 4 91 12 [.ref 3, .int a1, .int a2] [.int (0 : Int32)] (97, I, J, R) _
          refine az_E.br (c := (0 : Int32) = 0) (tt := 29) (ff := 15) (L' := [.ref 3, .int a1, .int a2]) (S' := []) (σ' := (97, I, J, R)) rfl (fun _ => ?_) (fun hn => absurd (by decide) hn)
          refine az_E.sn 1 (pc' := 30) (L' := [.ref 3, .int a1, .int a2]) (S' := [.int (-1 : Int32)]) (σ' := (97, I, J, R)) rfl ?_
          have h := Option.some.inj h
          subst h
          exact az_E.ret (v := some (.int (-1 : Int32))) (σ' := (97, I, J, R)) rfl hQ
        · rw [if_neg hc_5] at h
          refine az_E.sn 2 (pc' := 15) (L' := [.int a2, .int (0 : Int32), .int ((I 4 9) - (1 : Int32))]) (S' := [.int (1 : Int32)]) (σ' := (97, I, J, R)) rfl ?_
          refine az_E.ret (v := some (.int (1 : Int32))) (σ' := (97, I, J, R)) rfl ?_
          show az_E az_F ex 3 138 14 [.ref 3, .int a2] [.int (1 : Int32)] (97, I, J, R) _
          refine az_E.ret (v := some (.int (1 : Int32))) (σ' := (97, I, J, R)) rfl ?_
          show az_E az_F ex 4 91 12 [.ref 3, .int a1, .int a2] [.int (1 : Int32)] (97, I, J, R) _
          refine az_E.br (c := (1 : Int32) = 0) (tt := 29) (ff := 15) (L' := [.ref 3, .int a1, .int a2]) (S' := []) (σ' := (97, I, J, R)) rfl (fun hn => absurd hn (by decide)) (fun _ => ?_)
          refine az_E.sn 1 (pc' := 16) (L' := [.ref 3, .int a1, .int a2]) (S' := [.int a1]) (σ' := (97, I, J, R)) rfl ?_
          refine az_E.call (d := 3) (k' := 135) (vs := [.int a1]) (pc' := 19) (S' := []) rfl ?_ (fun _ _ hq => hq)
          show az_E az_F ex 3 135 0 [.int a1] [] (97, I, J, R) _
          refine az_E.sn 2 (pc' := 4) (L' := [.int a1]) (S' := [.int (1000 : Int32), .int a1]) (σ' := (97, I, J, R)) rfl ?_
          have hd_6 : ¬ ((1000 : Int32) = 0) := by decide
          refine az_E.dv (c := (1000 : Int32) = 0) (pc' := 5) (L' := [.int a1]) (S' := [.int (a1 / (1000 : Int32))]) (σ' := (97, I, J, R)) rfl hd_6 ?_
          refine az_E.ret (v := some (.int (a1 / (1000 : Int32)))) (σ' := (97, I, J, R)) rfl ?_
          show az_E az_F ex 4 91 19 [.ref 3, .int a1, .int a2] [.int (a1 / (1000 : Int32))] (97, I, J, R) _
          refine az_E.sn 1 (pc' := 20) (L' := [.ref 3, .int a1, .int a2]) (S' := [.int a1, .int (a1 / (1000 : Int32))]) (σ' := (97, I, J, R)) rfl ?_
          refine az_E.call (d := 3) (k' := 136) (vs := [.int a1]) (pc' := 23) (S' := [.int (a1 / (1000 : Int32))]) rfl ?_ (fun _ _ hq => hq)
          show az_E az_F ex 3 136 0 [.int a1] [] (97, I, J, R) _
          refine az_E.sn 2 (pc' := 4) (L' := [.int a1]) (S' := [.int (1000 : Int32), .int a1]) (σ' := (97, I, J, R)) rfl ?_
          have hd_7 : ¬ ((1000 : Int32) = 0) := by decide
          refine az_E.dv (c := (1000 : Int32) = 0) (pc' := 5) (L' := [.int a1]) (S' := [.int (a1 - a1 / (1000 : Int32) * (1000 : Int32))]) (σ' := (97, I, J, R)) rfl hd_7 ?_
          refine az_E.ret (v := some (.int (a1 - a1 / (1000 : Int32) * (1000 : Int32)))) (σ' := (97, I, J, R)) rfl ?_
          show az_E az_F ex 4 91 23 [.ref 3, .int a1, .int a2] [.int (a1 - a1 / (1000 : Int32) * (1000 : Int32)), .int (a1 / (1000 : Int32))] (97, I, J, R) _
          cases hx_9 : rs_X_areSideBySide (a1 / (1000 : Int32)) (a1 - a1 / (1000 : Int32) * (1000 : Int32)) with
          | none => rw [hx_9] at h; cases h
          | some x_8 =>
            rw [hx_9] at h
            dsimp only at h
            refine az_E.call (d := 3) (k' := 142) (vs := [.int (a1 / (1000 : Int32)), .int (a1 - a1 / (1000 : Int32) * (1000 : Int32))]) (pc' := 26) (S' := []) (Q1 := fun v s => v = some (.int x_8) ∧ s = (97, I, J, R)) rfl (az_E.deep (by omega) (re_X_areSideBySide (J := J) (R := R)  hx_9 ⟨rfl, rfl⟩)) (fun v s hq => ?_)
            obtain ⟨rfl, rfl⟩ := hq
            show az_E az_F ex 4 91 26 [.ref 3, .int a1, .int a2] [.int x_8] (97, I, J, R) _
            refine az_E.br (c := x_8 = 0) (tt := 29) (ff := 31) (L' := [.ref 3, .int a1, .int a2]) (S' := []) (σ' := (97, I, J, R)) rfl (fun hc_10 => ?_) (fun hc_10 => ?_)
            · rw [if_pos hc_10] at h
              refine az_E.sn 1 (pc' := 30) (L' := [.ref 3, .int a1, .int a2]) (S' := [.int (-1 : Int32)]) (σ' := (97, I, J, R)) rfl ?_
              have h := Option.some.inj h
              subst h
              exact az_E.ret (v := some (.int (-1 : Int32))) (σ' := (97, I, J, R)) rfl hQ
            · rw [if_neg hc_10] at h
              refine az_E.sn 3 (pc' := 34) (L' := [.ref 3, .int a1, .int a2]) (S' := [.int a1, .int a2, .ref 3]) (σ' := (97, I, J, R)) rfl ?_
              refine az_E.call (d := 3) (k' := 135) (vs := [.int a1]) (pc' := 37) (S' := [.int a2, .ref 3]) rfl ?_ (fun _ _ hq => hq)
              show az_E az_F ex 3 135 0 [.int a1] [] (97, I, J, R) _
              refine az_E.sn 2 (pc' := 4) (L' := [.int a1]) (S' := [.int (1000 : Int32), .int a1]) (σ' := (97, I, J, R)) rfl ?_
              have hd_11 : ¬ ((1000 : Int32) = 0) := by decide
              refine az_E.dv (c := (1000 : Int32) = 0) (pc' := 5) (L' := [.int a1]) (S' := [.int (a1 / (1000 : Int32))]) (σ' := (97, I, J, R)) rfl hd_11 ?_
              refine az_E.ret (v := some (.int (a1 / (1000 : Int32)))) (σ' := (97, I, J, R)) rfl ?_
              show az_E az_F ex 4 91 37 [.ref 3, .int a1, .int a2] [.int (a1 / (1000 : Int32)), .int a2, .ref 3] (97, I, J, R) _
              refine az_E.sn 1 (pc' := 38) (L' := [.ref 3, .int a1, .int a2]) (S' := [.int a1, .int (a1 / (1000 : Int32)), .int a2, .ref 3]) (σ' := (97, I, J, R)) rfl ?_
              refine az_E.call (d := 3) (k' := 136) (vs := [.int a1]) (pc' := 41) (S' := [.int (a1 / (1000 : Int32)), .int a2, .ref 3]) rfl ?_ (fun _ _ hq => hq)
              show az_E az_F ex 3 136 0 [.int a1] [] (97, I, J, R) _
              refine az_E.sn 2 (pc' := 4) (L' := [.int a1]) (S' := [.int (1000 : Int32), .int a1]) (σ' := (97, I, J, R)) rfl ?_
              have hd_12 : ¬ ((1000 : Int32) = 0) := by decide
              refine az_E.dv (c := (1000 : Int32) = 0) (pc' := 5) (L' := [.int a1]) (S' := [.int (a1 - a1 / (1000 : Int32) * (1000 : Int32))]) (σ' := (97, I, J, R)) rfl hd_12 ?_
              refine az_E.ret (v := some (.int (a1 - a1 / (1000 : Int32) * (1000 : Int32)))) (σ' := (97, I, J, R)) rfl ?_
              show az_E az_F ex 4 91 41 [.ref 3, .int a1, .int a2] [.int (a1 - a1 / (1000 : Int32) * (1000 : Int32)), .int (a1 / (1000 : Int32)), .int a2, .ref 3] (97, I, J, R) _
              cases hx_15 : rs_X_stepMinutes 16 I a2 (a1 / (1000 : Int32)) (a1 - a1 / (1000 : Int32) * (1000 : Int32)) with
              | none => rw [hx_15] at h; cases h
              | some o =>
                rw [hx_15] at h
                obtain ⟨x_13, I_14⟩ := o
                dsimp only at h
                refine az_E.call (d := 3) (k' := 145) (vs := [.ref 3, .int a2, .int (a1 / (1000 : Int32)), .int (a1 - a1 / (1000 : Int32) * (1000 : Int32))]) (pc' := 44) (S' := []) (Q1 := fun v s => v = some (.int x_13) ∧ s = (97, I_14, J, R)) rfl (az_E.deep (by omega) (re_X_stepMinutes_16 (J := J) (R := R) hR_3_2 hx_15 ⟨rfl, rfl⟩)) (fun v s hq => ?_)
                obtain ⟨rfl, rfl⟩ := hq
                show az_E az_F ex 4 91 44 [.ref 3, .int a1, .int a2] [.int x_13] (97, I_14, J, R) _
                have h := Option.some.inj h
                subst h
                exact az_E.ret (v := some (.int x_13)) (σ' := (97, I_14, J, R)) rfl hQ
set_option maxRecDepth 100000 in
set_option maxHeartbeats 4000000 in
theorem re_M_stepBy_98 {ex : az_X} {I : Nat → Nat → Int32} {J : Nat → Nat → Int64} {R : Nat → Nat → Option Nat} {v8 : Int32} {x : Int32 × (Nat → Nat → Int32)} (h : rs_M_stepBy_98 I v8 = some x) {Q : Option Value → az_S → Prop} (hQ : Q (some (.int x.1)) (97, x.2, J, R)) : az_E az_F ex 122 188 98 [.retAddr 0, .retAddr 0, .retAddr 0, .retAddr 0, .retAddr 0, .retAddr 0, .retAddr 0, .retAddr 0, .int v8] [] (97, I, J, R) Q := by
  unfold rs_M_stepBy_98 at h
  refine az_E.sn 2 (pc' := 101) (L' := [.retAddr 0, .retAddr 0, .retAddr 0, .retAddr 0, .retAddr 0, .retAddr 0, .retAddr 0, .retAddr 0, .int v8]) (S' := [.int (1 : Int32), .int v8]) (σ' := (97, I, J, R)) rfl ?_
  refine az_E.br (c := (1 : Int32) ≤ v8) (tt := 108) (ff := 104) (L' := [.retAddr 0, .retAddr 0, .retAddr 0, .retAddr 0, .retAddr 0, .retAddr 0, .retAddr 0, .retAddr 0, .int v8]) (S' := []) (σ' := (97, I, J, R)) rfl (fun hc_3 => ?_) (fun hc_3 => ?_)
  · rw [if_pos hc_3] at h
    refine az_E.sn 2 (pc' := 112) (L' := [.retAddr 0, .retAddr 0, .retAddr 0, .retAddr 0, .retAddr 0, .retAddr 0, .retAddr 0, .retAddr 0, .int v8]) (S' := [.int (99 : Int32), .int v8]) (σ' := (97, I, J, R)) rfl ?_
    refine az_E.br (c := v8 ≤ (99 : Int32)) (tt := 120) (ff := 115) (L' := [.retAddr 0, .retAddr 0, .retAddr 0, .retAddr 0, .retAddr 0, .retAddr 0, .retAddr 0, .retAddr 0, .int v8]) (S' := []) (σ' := (97, I, J, R)) rfl (fun hc_4 => ?_) (fun hc_4 => ?_)
    · rw [if_pos hc_4] at h
      refine az_E.sn 1 (pc' := 122) (L' := [.retAddr 0, .retAddr 0, .retAddr 0, .retAddr 0, .retAddr 0, .retAddr 0, .retAddr 0, .retAddr 0, .int v8]) (S' := [.int v8]) (σ' := (97, I, J, R)) rfl ?_
      have h := Option.some.inj h
      subst h
      exact az_E.ret (v := some (.int v8)) (σ' := (97, I, J, R)) rfl hQ
    · rw [if_neg hc_4] at h
      refine az_E.sn 2 (pc' := 122) (L' := [.retAddr 0, .retAddr 0, .retAddr 0, .retAddr 0, .retAddr 0, .retAddr 0, .retAddr 0, .retAddr 0, .int v8]) (S' := [.int (99 : Int32)]) (σ' := (97, I, J, R)) rfl ?_
      have h := Option.some.inj h
      subst h
      exact az_E.ret (v := some (.int (99 : Int32))) (σ' := (97, I, J, R)) rfl hQ
  · rw [if_neg hc_3] at h
    refine az_E.sn 2 (pc' := 122) (L' := [.retAddr 0, .retAddr 0, .retAddr 0, .retAddr 0, .retAddr 0, .retAddr 0, .retAddr 0, .retAddr 0, .int v8]) (S' := [.int (1 : Int32)]) (σ' := (97, I, J, R)) rfl ?_
    have h := Option.some.inj h
    subst h
    exact az_E.ret (v := some (.int (1 : Int32))) (σ' := (97, I, J, R)) rfl hQ
set_option maxRecDepth 100000 in
set_option maxHeartbeats 4000000 in
theorem re_M_stepBy_20 {ex : az_X} {I : Nat → Nat → Int32} {J : Nat → Nat → Int64} {R : Nat → Nat → Option Nat} {v2 : Int32} {v3 : Int32} {v4 : Int32} {v5 : Int32} {v6 : Int32} {v7 : Int32} {s0 : Int32} {s1 : Int32} {x : Int32 × (Nat → Nat → Int32)} (h : rs_M_stepBy_20 I v2 v3 v4 v5 v6 v7 s0 s1 = some x) {Q : Option Value → az_S → Prop} (hQ : Q (some (.int x.1)) (97, x.2, J, R)) : az_E az_F ex 122 188 20 [.ref 73, .retAddr 0, .int v2, .int v3, .int v4, .int v5, .int v6, .int v7, .retAddr 0] [.int s0, .int s1] (97, I, J, R) Q := by
  unfold rs_M_stepBy_20 at h
  refine az_E.sn 12 (pc' := 38) (L' := [.ref 73, .retAddr 0, .int v2, .int v3, .int v4, .int v5, .int v6, .int v7, .int (((((s1 + s0) + v4) + v6) - v3) - v5)]) (S' := [.int (I 73 13)]) (σ' := (97, I, J, R)) rfl ?_
  refine az_E.br (c := (I 73 13) < 0) (tt := 98) (ff := 41) (L' := [.ref 73, .retAddr 0, .int v2, .int v3, .int v4, .int v5, .int v6, .int v7, .int (((((s1 + s0) + v4) + v6) - v3) - v5)]) (S' := []) (σ' := (97, I, J, R)) rfl (fun hc_2 => ?_) (fun hc_2 => ?_)
  · rw [if_pos hc_2] at h
    exact az_E.forget (L := [.retAddr 0, .retAddr 0, .retAddr 0, .retAddr 0, .retAddr 0, .retAddr 0, .retAddr 0, .retAddr 0, .int (((((s1 + s0) + v4) + v6) - v3) - v5)]) ⟨trivial, trivial, trivial, trivial, trivial, trivial, trivial, trivial, rfl, trivial⟩ (re_M_stepBy_98 (I := I) (J := J) (R := R)  h hQ)
  · rw [if_neg hc_2] at h
    refine az_E.sn 4 (pc' := 48) (L' := [.ref 73, .retAddr 0, .int v2, .int v3, .int v4, .int v5, .int v6, .int v7, .int (((((s1 + s0) + v4) + v6) - v3) - v5)]) (S' := [.int v7, .int (0 : Int32), .ref 82]) (σ' := (97, I, J, R)) rfl ?_
    refine az_E.o (o := az_si az_F (97, I, J, R) 82 (0 : Int32) v7) (pc' := 49) (L' := [.ref 73, .retAddr 0, .int v2, .int v3, .int v4, .int v5, .int v6, .int v7, .int (((((s1 + s0) + v4) + v6) - v3) - v5)]) (S' := []) (x := (97, (az_u I 82 0 v7), J, R)) rfl rfl ?_
    refine az_E.sn 4 (pc' := 55) (L' := [.ref 73, .retAddr 0, .int v2, .int v3, .int v4, .int v5, .int v6, .int v7, .int (((((s1 + s0) + v4) + v6) - v3) - v5)]) (S' := [.int v3, .int (1 : Int32), .ref 82]) (σ' := (97, (az_u I 82 0 v7), J, R)) rfl ?_
    refine az_E.o (o := az_si az_F (97, (az_u I 82 0 v7), J, R) 82 (1 : Int32) v3) (pc' := 56) (L' := [.ref 73, .retAddr 0, .int v2, .int v3, .int v4, .int v5, .int v6, .int v7, .int (((((s1 + s0) + v4) + v6) - v3) - v5)]) (S' := []) (x := (97, (az_u (az_u I 82 0 v7) 82 1 v3), J, R)) rfl rfl ?_
    refine az_E.sn 4 (pc' := 63) (L' := [.ref 73, .retAddr 0, .int v2, .int v3, .int v4, .int v5, .int v6, .int v7, .int (((((s1 + s0) + v4) + v6) - v3) - v5)]) (S' := [.int v4, .int (2 : Int32), .ref 82]) (σ' := (97, (az_u (az_u I 82 0 v7) 82 1 v3), J, R)) rfl ?_
    refine az_E.o (o := az_si az_F (97, (az_u (az_u I 82 0 v7) 82 1 v3), J, R) 82 (2 : Int32) v4) (pc' := 64) (L' := [.ref 73, .retAddr 0, .int v2, .int v3, .int v4, .int v5, .int v6, .int v7, .int (((((s1 + s0) + v4) + v6) - v3) - v5)]) (S' := []) (x := (97, (az_u (az_u (az_u I 82 0 v7) 82 1 v3) 82 2 v4), J, R)) rfl rfl ?_
    refine az_E.sn 4 (pc' := 71) (L' := [.ref 73, .retAddr 0, .int v2, .int v3, .int v4, .int v5, .int v6, .int v7, .int (((((s1 + s0) + v4) + v6) - v3) - v5)]) (S' := [.int v5, .int (3 : Int32), .ref 82]) (σ' := (97, (az_u (az_u (az_u I 82 0 v7) 82 1 v3) 82 2 v4), J, R)) rfl ?_
    refine az_E.o (o := az_si az_F (97, (az_u (az_u (az_u I 82 0 v7) 82 1 v3) 82 2 v4), J, R) 82 (3 : Int32) v5) (pc' := 72) (L' := [.ref 73, .retAddr 0, .int v2, .int v3, .int v4, .int v5, .int v6, .int v7, .int (((((s1 + s0) + v4) + v6) - v3) - v5)]) (S' := []) (x := (97, (az_u (az_u (az_u (az_u I 82 0 v7) 82 1 v3) 82 2 v4) 82 3 v5), J, R)) rfl rfl ?_
    refine az_E.sn 4 (pc' := 79) (L' := [.ref 73, .retAddr 0, .int v2, .int v3, .int v4, .int v5, .int v6, .int v7, .int (((((s1 + s0) + v4) + v6) - v3) - v5)]) (S' := [.int v6, .int (4 : Int32), .ref 82]) (σ' := (97, (az_u (az_u (az_u (az_u I 82 0 v7) 82 1 v3) 82 2 v4) 82 3 v5), J, R)) rfl ?_
    refine az_E.o (o := az_si az_F (97, (az_u (az_u (az_u (az_u I 82 0 v7) 82 1 v3) 82 2 v4) 82 3 v5), J, R) 82 (4 : Int32) v6) (pc' := 80) (L' := [.ref 73, .retAddr 0, .int v2, .int v3, .int v4, .int v5, .int v6, .int v7, .int (((((s1 + s0) + v4) + v6) - v3) - v5)]) (S' := []) (x := (97, (az_u (az_u (az_u (az_u (az_u I 82 0 v7) 82 1 v3) 82 2 v4) 82 3 v5) 82 4 v6), J, R)) rfl rfl ?_
    refine az_E.sn 4 (pc' := 86) (L' := [.ref 73, .retAddr 0, .int v2, .int v3, .int v4, .int v5, .int v6, .int v7, .int (((((s1 + s0) + v4) + v6) - v3) - v5)]) (S' := [.int v2, .int (5 : Int32), .ref 82]) (σ' := (97, (az_u (az_u (az_u (az_u (az_u I 82 0 v7) 82 1 v3) 82 2 v4) 82 3 v5) 82 4 v6), J, R)) rfl ?_
    refine az_E.o (o := az_si az_F (97, (az_u (az_u (az_u (az_u (az_u I 82 0 v7) 82 1 v3) 82 2 v4) 82 3 v5) 82 4 v6), J, R) 82 (5 : Int32) v2) (pc' := 87) (L' := [.ref 73, .retAddr 0, .int v2, .int v3, .int v4, .int v5, .int v6, .int v7, .int (((((s1 + s0) + v4) + v6) - v3) - v5)]) (S' := []) (x := (97, (az_u (az_u (az_u (az_u (az_u (az_u I 82 0 v7) 82 1 v3) 82 2 v4) 82 3 v5) 82 4 v6) 82 5 v2), J, R)) rfl rfl ?_
    refine az_E.sn 4 (pc' := 93) (L' := [.ref 73, .retAddr 0, .int v2, .int v3, .int v4, .int v5, .int v6, .int v7, .int (((((s1 + s0) + v4) + v6) - v3) - v5)]) (S' := [.int (I 73 13), .int (0 : Int32), .ref 73]) (σ' := (97, (az_u (az_u (az_u (az_u (az_u (az_u I 82 0 v7) 82 1 v3) 82 2 v4) 82 3 v5) 82 4 v6) 82 5 v2), J, R)) rfl ?_
    cases hx_13 : rs_M_workOut (az_u (az_u (az_u (az_u (az_u (az_u I 82 0 v7) 82 1 v3) 82 2 v4) 82 3 v5) 82 4 v6) 82 5 v2) (0 : Int32) (I 73 13) with
    | none => rw [hx_13] at h; cases h
    | some o =>
      rw [hx_13] at h
      obtain ⟨x_11, I_12⟩ := o
      dsimp only at h
      refine az_E.call (d := 121) (k' := 186) (vs := [.ref 73, .int (0 : Int32), .int (I 73 13)]) (pc' := 96) (S' := []) (Q1 := fun v s => v = some (.int x_11) ∧ s = (97, I_12, J, R)) rfl (az_E.deep (by omega) (re_M_workOut (J := J) (R := R)  hx_13 ⟨rfl, rfl⟩)) (fun v s hq => ?_)
      obtain ⟨rfl, rfl⟩ := hq
      show az_E az_F ex 122 188 96 [.ref 73, .retAddr 0, .int v2, .int v3, .int v4, .int v5, .int v6, .int v7, .int (((((s1 + s0) + v4) + v6) - v3) - v5)] [.int x_11] (97, I_12, J, R) _
      refine az_E.sn 1 (pc' := 98) (L' := [.ref 73, .retAddr 0, .int v2, .int v3, .int v4, .int v5, .int v6, .int v7, .int x_11]) (S' := []) (σ' := (97, I_12, J, R)) rfl ?_
      exact az_E.forget (L := [.retAddr 0, .retAddr 0, .retAddr 0, .retAddr 0, .retAddr 0, .retAddr 0, .retAddr 0, .retAddr 0, .int x_11]) ⟨trivial, trivial, trivial, trivial, trivial, trivial, trivial, trivial, rfl, trivial⟩ (re_M_stepBy_98 (I := I_12) (J := J) (R := R)  h hQ)
set_option maxRecDepth 100000 in
set_option maxHeartbeats 4000000 in
theorem re_M_stepBy {ex : az_X} {I : Nat → Nat → Int32} {J : Nat → Nat → Int64} {R : Nat → Nat → Option Nat} {a1 : Int32} {a2 : Int32} {a3 : Int32} {a4 : Int32} {a5 : Int32} {a6 : Int32} {o : Int32 × (Nat → Nat → Int32)} (h : rs_M_stepBy I a1 a2 a3 a4 a5 a6 = some o) {Q : Option Value → az_S → Prop} (hQ : Q (some (.int o.1)) (97, o.2, J, R)) : az_E az_F ex 122 188 0 [.ref 73, .int a1, .int a2, .int a3, .int a4, .int a5, .int a6, .retAddr 0, .retAddr 0] [] (97, I, J, R) Q := by
  unfold rs_M_stepBy at h
  refine az_E.sn 6 (pc' := 9) (L' := [.ref 73, .int a1, .int a2, .int a3, .int a4, .int a5, .int a6, .int (a2 - a1), .retAddr 0]) (S' := [.int (a2 - a1), .int (10 : Int32)]) (σ' := (97, I, J, R)) rfl ?_
  refine az_E.br (c := (a2 - a1) ≤ 0) (tt := 19) (ff := 12) (L' := [.ref 73, .int a1, .int a2, .int a3, .int a4, .int a5, .int a6, .int (a2 - a1), .retAddr 0]) (S' := [.int (10 : Int32)]) (σ' := (97, I, J, R)) rfl (fun hc_1 => ?_) (fun hc_1 => ?_)
  · rw [if_pos hc_1] at h
    refine az_E.sn 1 (pc' := 20) (L' := [.ref 73, .int a1, .int a2, .int a3, .int a4, .int a5, .int a6, .int (a2 - a1), .retAddr 0]) (S' := [.int (0 : Int32), .int (10 : Int32)]) (σ' := (97, I, J, R)) rfl ?_
    exact az_E.forget (L := [.ref 73, .retAddr 0, .int a2, .int a3, .int a4, .int a5, .int a6, .int (a2 - a1), .retAddr 0]) ⟨rfl, trivial, rfl, rfl, rfl, rfl, rfl, rfl, trivial, trivial⟩ (re_M_stepBy_20 (I := I) (J := J) (R := R)  h hQ)
  · rw [if_neg hc_1] at h
    refine az_E.sn 4 (pc' := 20) (L' := [.ref 73, .int a1, .int a2, .int a3, .int a4, .int a5, .int a6, .int (a2 - a1), .retAddr 0]) (S' := [.int ((3 : Int32) * (a2 - a1)), .int (10 : Int32)]) (σ' := (97, I, J, R)) rfl ?_
    exact az_E.forget (L := [.ref 73, .retAddr 0, .int a2, .int a3, .int a4, .int a5, .int a6, .int (a2 - a1), .retAddr 0]) ⟨rfl, trivial, rfl, rfl, rfl, rfl, rfl, rfl, trivial, trivial⟩ (re_M_stepBy_20 (I := I) (J := J) (R := R)  h hQ)
set_option maxRecDepth 100000 in
set_option maxHeartbeats 4000000 in
theorem re_M_asksSteps_3_b {ex : az_X} {I : Nat → Nat → Int32} {J : Nat → Nat → Int64} {R : Nat → Nat → Option Nat} {v1 : Int32} {v2 : Int32} {v3 : Int32} {v4 : Int32} {v5 : Int32} {x : ((Int32 × (Nat → Nat → Int32)) ⊕ ((Nat → Nat → Int32)))} (h : rs_M_asksSteps_3_b v1 v2 v3 v4 v5 I = some x) {Q : Option Value → az_S → Prop} (hQ : Sum.elim (fun s => az_E az_F ex 123 189 3 [.ref 73, .int v1, .int v2, .int v3, .int v4, .int s.1] [] (97, s.2, J, R) Q) (fun x => Q none (97, x, J, R)) x) : az_E az_F ex 123 189 3 [.ref 73, .int v1, .int v2, .int v3, .int v4, .int v5] [] (97, I, J, R) Q := by
  unfold rs_M_asksSteps_3_b at h
  refine az_E.sn 2 (pc' := 7) (L' := [.ref 73, .int v1, .int v2, .int v3, .int v4, .int v5]) (S' := [.int (100 : Int32), .int v5]) (σ' := (97, I, J, R)) rfl ?_
  refine az_E.br (c := (100 : Int32) ≤ v5) (tt := 42) (ff := 10) (L' := [.ref 73, .int v1, .int v2, .int v3, .int v4, .int v5]) (S' := []) (σ' := (97, I, J, R)) rfl (fun hc_1 => ?_) (fun hc_1 => ?_)
  · rw [if_pos hc_1] at h
    have h := Option.some.inj h
    subst h
    exact az_E.ret (v := none) (σ' := (97, I, J, R)) rfl hQ
  · rw [if_neg hc_1] at h
    refine az_E.sn 6 (pc' := 21) (L' := [.ref 73, .int v1, .int v2, .int v3, .int v4, .int v5]) (S' := [.int (10 : Int32), .int v5, .ref 73, .int v5, .ref 83]) (σ' := (97, I, J, R)) rfl ?_
    have hd_2 : ¬ ((10 : Int32) = 0) := by decide
    refine az_E.dv (c := (10 : Int32) = 0) (pc' := 22) (L' := [.ref 73, .int v1, .int v2, .int v3, .int v4, .int v5]) (S' := [.int (v5 / (10 : Int32)), .ref 73, .int v5, .ref 83]) (σ' := (97, I, J, R)) rfl hd_2 ?_
    refine az_E.sn 2 (pc' := 26) (L' := [.ref 73, .int v1, .int v2, .int v3, .int v4, .int v5]) (S' := [.int (10 : Int32), .int v5, .int (v5 / (10 : Int32)), .ref 73, .int v5, .ref 83]) (σ' := (97, I, J, R)) rfl ?_
    have hd_3 : ¬ ((10 : Int32) = 0) := by decide
    refine az_E.dv (c := (10 : Int32) = 0) (pc' := 27) (L' := [.ref 73, .int v1, .int v2, .int v3, .int v4, .int v5]) (S' := [.int (v5 - v5 / (10 : Int32) * (10 : Int32)), .int (v5 / (10 : Int32)), .ref 73, .int v5, .ref 83]) (σ' := (97, I, J, R)) rfl hd_3 ?_
    refine az_E.sn 4 (pc' := 32) (L' := [.ref 73, .int v1, .int v2, .int v3, .int v4, .int v5]) (S' := [.int v4, .int v3, .int v2, .int v1, .int (v5 - v5 / (10 : Int32) * (10 : Int32)), .int (v5 / (10 : Int32)), .ref 73, .int v5, .ref 83]) (σ' := (97, I, J, R)) rfl ?_
    cases hx_6 : rs_M_stepBy I (v5 / (10 : Int32)) (v5 - v5 / (10 : Int32) * (10 : Int32)) v1 v2 v3 v4 with
    | none => rw [hx_6] at h; cases h
    | some o =>
      rw [hx_6] at h
      obtain ⟨x_4, I_5⟩ := o
      dsimp only at h
      refine az_E.call (d := 122) (k' := 188) (vs := [.ref 73, .int (v5 / (10 : Int32)), .int (v5 - v5 / (10 : Int32) * (10 : Int32)), .int v1, .int v2, .int v3, .int v4]) (pc' := 35) (S' := [.int v5, .ref 83]) (Q1 := fun v s => v = some (.int x_4) ∧ s = (97, I_5, J, R)) rfl (az_E.deep (by omega) (re_M_stepBy (J := J) (R := R)  hx_6 ⟨rfl, rfl⟩)) (fun v s hq => ?_)
      obtain ⟨rfl, rfl⟩ := hq
      show az_E az_F ex 123 189 35 [.ref 73, .int v1, .int v2, .int v3, .int v4, .int v5] [.int x_4, .int v5, .ref 83] (97, I_5, J, R) _
      by_cases hc_7 : v5 < 0 ∨ 100 ≤ v5.toNatClampNeg
      · rw [if_pos hc_7] at h; cases h
      · rw [if_neg hc_7] at h
        refine az_E.o (o := az_si az_F (97, I_5, J, R) 83 v5 x_4) (pc' := 36) (L' := [.ref 73, .int v1, .int v2, .int v3, .int v4, .int v5]) (S' := []) (x := (97, (az_u I_5 83 v5.toNatClampNeg x_4), J, R)) rfl (if_neg hc_7) ?_
        refine az_E.sn 2 (pc' := 3) (L' := [.ref 73, .int v1, .int v2, .int v3, .int v4, .int (v5 + (1 : Int32))]) (S' := []) (σ' := (97, (az_u I_5 83 v5.toNatClampNeg x_4), J, R)) rfl ?_
        have h := Option.some.inj h
        subst h
        exact az_E.forget (L := [.ref 73, .int v1, .int v2, .int v3, .int v4, .int (v5 + (1 : Int32))]) ⟨rfl, rfl, rfl, rfl, rfl, rfl, trivial⟩ hQ
set_option maxRecDepth 100000 in
set_option maxHeartbeats 4000000 in
theorem re_M_asksSteps_3 {ex : az_X} {I : Nat → Nat → Int32} {J : Nat → Nat → Int64} {R : Nat → Nat → Option Nat} {v1 : Int32} {v2 : Int32} {v3 : Int32} {v4 : Int32} {v5 : Int32} {x : (Nat → Nat → Int32)} (h : rs_M_asksSteps_3 I v1 v2 v3 v4 v5 = some x) {Q : Option Value → az_S → Prop} (hQ : Q none (97, x, J, R)) : az_E az_F ex 123 189 3 [.ref 73, .int v1, .int v2, .int v3, .int v4, .int v5] [] (97, I, J, R) Q := by
  unfold rs_M_asksSteps_3 at h
  refine az_lp_E (G := fun s => az_E az_F ex 123 189 3 [.ref 73, .int v1, .int v2, .int v3, .int v4, .int s.1] [] (97, s.2, J, R) Q) (H := fun x => Q none (97, x, J, R)) (fun s o hb ho => ?_) _ _ _ h hQ
  exact re_M_asksSteps_3_b  hb ho
set_option maxRecDepth 100000 in
set_option maxHeartbeats 4000000 in
theorem re_M_asksSteps {ex : az_X} {I : Nat → Nat → Int32} {J : Nat → Nat → Int64} {R : Nat → Nat → Option Nat} {a1 : Int32} {a2 : Int32} {a3 : Int32} {a4 : Int32} {o : (Nat → Nat → Int32)} (h : rs_M_asksSteps I a1 a2 a3 a4 = some o) {Q : Option Value → az_S → Prop} (hQ : Q none (97, o, J, R)) : az_E az_F ex 123 189 0 [.ref 73, .int a1, .int a2, .int a3, .int a4, .retAddr 0] [] (97, I, J, R) Q := by
  unfold rs_M_asksSteps at h
  refine az_E.sn 2 (pc' := 3) (L' := [.ref 73, .int a1, .int a2, .int a3, .int a4, .int (0 : Int32)]) (S' := []) (σ' := (97, I, J, R)) rfl ?_
  exact az_E.forget (L := [.ref 73, .int a1, .int a2, .int a3, .int a4, .int (0 : Int32)]) ⟨rfl, rfl, rfl, rfl, rfl, rfl, trivial⟩ (re_M_asksSteps_3 (I := I) (J := J) (R := R)  h hQ)
set_option maxRecDepth 100000 in
set_option maxHeartbeats 4000000 in
theorem re_M_asksFor {ex : az_X} {I : Nat → Nat → Int32} {J : Nat → Nat → Int64} {R : Nat → Nat → Option Nat} {a1 : Int32} {o : (Nat → Nat → Int32)} (h : rs_M_asksFor I a1 = some o) {Q : Option Value → az_S → Prop} (hQ : Q none (97, o, J, R)) : az_E az_F ex 124 190 0 [.ref 73, .int a1] [] (97, I, J, R) Q := by
  unfold rs_M_asksFor at h
  refine az_E.sn 6 (pc' := 10) (L' := [.ref 73, .int a1]) (S' := [.int ((160 : Int32) + a1), .ref 74, .ref 73]) (σ' := (97, I, J, R)) rfl ?_
  by_cases hc_1 : ((160 : Int32) + a1) < 0 ∨ 179 ≤ ((160 : Int32) + a1).toNatClampNeg
  · rw [if_pos hc_1] at h; cases h
  · rw [if_neg hc_1] at h
    refine az_E.oi (o := az_ai az_F ex (97, I, J, R) 74 ((160 : Int32) + a1)) (pc' := 11) (L' := [.ref 73, .int a1]) (S' := [.ref 73]) (σ' := (97, I, J, R)) (x := (I 74 ((160 : Int32) + a1).toNatClampNeg)) rfl (if_neg hc_1) ?_
    refine az_E.sn 5 (pc' := 20) (L' := [.ref 73, .int a1]) (S' := [.int ((166 : Int32) + a1), .ref 74, .int (I 74 ((160 : Int32) + a1).toNatClampNeg), .ref 73]) (σ' := (97, I, J, R)) rfl ?_
    by_cases hc_2 : ((166 : Int32) + a1) < 0 ∨ 179 ≤ ((166 : Int32) + a1).toNatClampNeg
    · rw [if_pos hc_2] at h; cases h
    · rw [if_neg hc_2] at h
      refine az_E.oi (o := az_ai az_F ex (97, I, J, R) 74 ((166 : Int32) + a1)) (pc' := 21) (L' := [.ref 73, .int a1]) (S' := [.int (I 74 ((160 : Int32) + a1).toNatClampNeg), .ref 73]) (σ' := (97, I, J, R)) (x := (I 74 ((166 : Int32) + a1).toNatClampNeg)) rfl (if_neg hc_2) ?_
      refine az_E.sn 5 (pc' := 30) (L' := [.ref 73, .int a1]) (S' := [.int ((172 : Int32) + a1), .ref 74, .int (I 74 ((166 : Int32) + a1).toNatClampNeg), .int (I 74 ((160 : Int32) + a1).toNatClampNeg), .ref 73]) (σ' := (97, I, J, R)) rfl ?_
      by_cases hc_3 : ((172 : Int32) + a1) < 0 ∨ 179 ≤ ((172 : Int32) + a1).toNatClampNeg
      · rw [if_pos hc_3] at h; cases h
      · rw [if_neg hc_3] at h
        refine az_E.oi (o := az_ai az_F ex (97, I, J, R) 74 ((172 : Int32) + a1)) (pc' := 31) (L' := [.ref 73, .int a1]) (S' := [.int (I 74 ((166 : Int32) + a1).toNatClampNeg), .int (I 74 ((160 : Int32) + a1).toNatClampNeg), .ref 73]) (σ' := (97, I, J, R)) (x := (I 74 ((172 : Int32) + a1).toNatClampNeg)) rfl (if_neg hc_3) ?_
        refine az_E.sn 3 (pc' := 38) (L' := [.ref 73, .int a1]) (S' := [.int (178 : Int32), .ref 74, .int (I 74 ((172 : Int32) + a1).toNatClampNeg), .int (I 74 ((166 : Int32) + a1).toNatClampNeg), .int (I 74 ((160 : Int32) + a1).toNatClampNeg), .ref 73]) (σ' := (97, I, J, R)) rfl ?_
        refine az_E.oi (o := az_ai az_F ex (97, I, J, R) 74 (178 : Int32)) (pc' := 39) (L' := [.ref 73, .int a1]) (S' := [.int (I 74 ((172 : Int32) + a1).toNatClampNeg), .int (I 74 ((166 : Int32) + a1).toNatClampNeg), .int (I 74 ((160 : Int32) + a1).toNatClampNeg), .ref 73]) (σ' := (97, I, J, R)) (x := (I 74 178)) rfl rfl ?_
        cases hx_6 : rs_M_asksSteps I (I 74 ((160 : Int32) + a1).toNatClampNeg) (I 74 ((166 : Int32) + a1).toNatClampNeg) (I 74 ((172 : Int32) + a1).toNatClampNeg) (I 74 178) with
        | none => rw [hx_6] at h; cases h
        | some I_5 =>
          rw [hx_6] at h
          dsimp only at h
          refine az_E.call (d := 123) (k' := 189) (vs := [.ref 73, .int (I 74 ((160 : Int32) + a1).toNatClampNeg), .int (I 74 ((166 : Int32) + a1).toNatClampNeg), .int (I 74 ((172 : Int32) + a1).toNatClampNeg), .int (I 74 178)]) (pc' := 42) (S' := []) (Q1 := fun v s => v = none ∧ s = (97, I_5, J, R)) rfl (az_E.deep (by omega) (re_M_asksSteps (J := J) (R := R)  hx_6 ⟨rfl, rfl⟩)) (fun v s hq => ?_)
          obtain ⟨rfl, rfl⟩ := hq
          show az_E az_F ex 124 190 42 [.ref 73, .int a1] [] (97, I_5, J, R) _
          have h := Option.some.inj h
          subst h
          exact az_E.ret (v := none) (σ' := (97, I_5, J, R)) rfl hQ
set_option maxRecDepth 100000 in
set_option maxHeartbeats 4000000 in
theorem re_M_beside_47 {ex : az_X} {I : Nat → Nat → Int32} {J : Nat → Nat → Int64} {R : Nat → Nat → Option Nat} {v2 : Int32} {s0 : Int32} {s1 : Int32} {x : Int32} (h : rs_M_beside_47 v2 s0 s1 = some x) {Q : Option Value → az_S → Prop} (hQ : Q (some (.int x)) (97, I, J, R)) : az_E az_F ex 1 191 47 [.retAddr 0, .retAddr 0, .int v2, .retAddr 0] [.int s0, .int s1] (97, I, J, R) Q := by
  unfold rs_M_beside_47 at h
  refine az_E.sn 6 (pc' := 55) (L' := [.retAddr 0, .retAddr 0, .int v2, .int (s1 + s0)]) (S' := [.long (11 : Int64), .long (0 : Int64), .long v2.toInt64]) (σ' := (97, I, J, R)) rfl ?_
  refine az_E.call (d := 0) (k' := 154) (vs := [.long v2.toInt64, .long (0 : Int64), .long (11 : Int64)]) (pc' := 58) (S' := []) rfl ?_ (fun _ _ hq => hq)
  show az_E az_F ex 0 154 0 [.long v2.toInt64, .retAddr 0, .long (0 : Int64), .retAddr 0, .long (11 : Int64), .retAddr 0] [] (97, I, J, R) _
  refine az_E.sn 3 (pc' := 3) (L' := [.long v2.toInt64, .retAddr 0, .long (0 : Int64), .retAddr 0, .long (11 : Int64), .retAddr 0]) (S' := [.int (lg_cmp v2.toInt64 (0 : Int64))]) (σ' := (97, I, J, R)) rfl ?_
  refine az_E.br (c := (lg_cmp v2.toInt64 (0 : Int64)) < 0) (tt := 17) (ff := 6) (L' := [.long v2.toInt64, .retAddr 0, .long (0 : Int64), .retAddr 0, .long (11 : Int64), .retAddr 0]) (S' := []) (σ' := (97, I, J, R)) rfl (fun hc_5 => ?_) (fun hc_5 => ?_)
  · rw [if_pos hc_5] at h
    refine az_E.sn 1 (pc' := 18) (L' := [.long v2.toInt64, .retAddr 0, .long (0 : Int64), .retAddr 0, .long (11 : Int64), .retAddr 0]) (S' := [.int (0 : Int32)]) (σ' := (97, I, J, R)) rfl ?_
    refine az_E.ret (v := some (.int (0 : Int32))) (σ' := (97, I, J, R)) rfl ?_
    show az_E az_F ex 1 191 58 [.retAddr 0, .retAddr 0, .int v2, .int (s1 + s0)] [.int (0 : Int32)] (97, I, J, R) _
    refine az_E.br (c := (0 : Int32) = 0) (tt := 82) (ff := 61) (L' := [.retAddr 0, .retAddr 0, .int v2, .int (s1 + s0)]) (S' := []) (σ' := (97, I, J, R)) rfl (fun _ => ?_) (fun hn => absurd (by decide) hn)
    refine az_E.sn 1 (pc' := 83) (L' := [.retAddr 0, .retAddr 0, .int v2, .int (s1 + s0)]) (S' := [.int (-1 : Int32)]) (σ' := (97, I, J, R)) rfl ?_
    have h := Option.some.inj h
    subst h
    exact az_E.ret (v := some (.int (-1 : Int32))) (σ' := (97, I, J, R)) rfl hQ
  · rw [if_neg hc_5] at h
    refine az_E.sn 3 (pc' := 10) (L' := [.long v2.toInt64, .retAddr 0, .long (0 : Int64), .retAddr 0, .long (11 : Int64), .retAddr 0]) (S' := [.int (lg_cmp v2.toInt64 (11 : Int64))]) (σ' := (97, I, J, R)) rfl ?_
    refine az_E.br (c := 0 < (lg_cmp v2.toInt64 (11 : Int64))) (tt := 17) (ff := 13) (L' := [.long v2.toInt64, .retAddr 0, .long (0 : Int64), .retAddr 0, .long (11 : Int64), .retAddr 0]) (S' := []) (σ' := (97, I, J, R)) rfl (fun hc_6 => ?_) (fun hc_6 => ?_)
    · rw [if_pos hc_6] at h
      refine az_E.sn 1 (pc' := 18) (L' := [.long v2.toInt64, .retAddr 0, .long (0 : Int64), .retAddr 0, .long (11 : Int64), .retAddr 0]) (S' := [.int (0 : Int32)]) (σ' := (97, I, J, R)) rfl ?_
      refine az_E.ret (v := some (.int (0 : Int32))) (σ' := (97, I, J, R)) rfl ?_
      show az_E az_F ex 1 191 58 [.retAddr 0, .retAddr 0, .int v2, .int (s1 + s0)] [.int (0 : Int32)] (97, I, J, R) _
      refine az_E.br (c := (0 : Int32) = 0) (tt := 82) (ff := 61) (L' := [.retAddr 0, .retAddr 0, .int v2, .int (s1 + s0)]) (S' := []) (σ' := (97, I, J, R)) rfl (fun _ => ?_) (fun hn => absurd (by decide) hn)
      refine az_E.sn 1 (pc' := 83) (L' := [.retAddr 0, .retAddr 0, .int v2, .int (s1 + s0)]) (S' := [.int (-1 : Int32)]) (σ' := (97, I, J, R)) rfl ?_
      have h := Option.some.inj h
      subst h
      exact az_E.ret (v := some (.int (-1 : Int32))) (σ' := (97, I, J, R)) rfl hQ
    · rw [if_neg hc_6] at h
      refine az_E.sn 2 (pc' := 18) (L' := [.long v2.toInt64, .retAddr 0, .long (0 : Int64), .retAddr 0, .long (11 : Int64), .retAddr 0]) (S' := [.int (1 : Int32)]) (σ' := (97, I, J, R)) rfl ?_
      refine az_E.ret (v := some (.int (1 : Int32))) (σ' := (97, I, J, R)) rfl ?_
      show az_E az_F ex 1 191 58 [.retAddr 0, .retAddr 0, .int v2, .int (s1 + s0)] [.int (1 : Int32)] (97, I, J, R) _
      refine az_E.br (c := (1 : Int32) = 0) (tt := 82) (ff := 61) (L' := [.retAddr 0, .retAddr 0, .int v2, .int (s1 + s0)]) (S' := []) (σ' := (97, I, J, R)) rfl (fun hn => absurd hn (by decide)) (fun _ => ?_)
      refine az_E.sn 4 (pc' := 67) (L' := [.retAddr 0, .retAddr 0, .int v2, .int (s1 + s0)]) (S' := [.long (11 : Int64), .long (0 : Int64), .long (s1 + s0).toInt64]) (σ' := (97, I, J, R)) rfl ?_
      refine az_E.call (d := 0) (k' := 154) (vs := [.long (s1 + s0).toInt64, .long (0 : Int64), .long (11 : Int64)]) (pc' := 70) (S' := []) rfl ?_ (fun _ _ hq => hq)
      show az_E az_F ex 0 154 0 [.long (s1 + s0).toInt64, .retAddr 0, .long (0 : Int64), .retAddr 0, .long (11 : Int64), .retAddr 0] [] (97, I, J, R) _
      refine az_E.sn 3 (pc' := 3) (L' := [.long (s1 + s0).toInt64, .retAddr 0, .long (0 : Int64), .retAddr 0, .long (11 : Int64), .retAddr 0]) (S' := [.int (lg_cmp (s1 + s0).toInt64 (0 : Int64))]) (σ' := (97, I, J, R)) rfl ?_
      refine az_E.br (c := (lg_cmp (s1 + s0).toInt64 (0 : Int64)) < 0) (tt := 17) (ff := 6) (L' := [.long (s1 + s0).toInt64, .retAddr 0, .long (0 : Int64), .retAddr 0, .long (11 : Int64), .retAddr 0]) (S' := []) (σ' := (97, I, J, R)) rfl (fun hc_7 => ?_) (fun hc_7 => ?_)
      · rw [if_pos hc_7] at h
        refine az_E.sn 1 (pc' := 18) (L' := [.long (s1 + s0).toInt64, .retAddr 0, .long (0 : Int64), .retAddr 0, .long (11 : Int64), .retAddr 0]) (S' := [.int (0 : Int32)]) (σ' := (97, I, J, R)) rfl ?_
        refine az_E.ret (v := some (.int (0 : Int32))) (σ' := (97, I, J, R)) rfl ?_
        show az_E az_F ex 1 191 70 [.retAddr 0, .retAddr 0, .int v2, .int (s1 + s0)] [.int (0 : Int32)] (97, I, J, R) _
        refine az_E.br (c := (0 : Int32) = 0) (tt := 82) (ff := 73) (L' := [.retAddr 0, .retAddr 0, .int v2, .int (s1 + s0)]) (S' := []) (σ' := (97, I, J, R)) rfl (fun _ => ?_) (fun hn => absurd (by decide) hn)
        refine az_E.sn 1 (pc' := 83) (L' := [.retAddr 0, .retAddr 0, .int v2, .int (s1 + s0)]) (S' := [.int (-1 : Int32)]) (σ' := (97, I, J, R)) rfl ?_
        have h := Option.some.inj h
        subst h
        exact az_E.ret (v := some (.int (-1 : Int32))) (σ' := (97, I, J, R)) rfl hQ
      · rw [if_neg hc_7] at h
        refine az_E.sn 3 (pc' := 10) (L' := [.long (s1 + s0).toInt64, .retAddr 0, .long (0 : Int64), .retAddr 0, .long (11 : Int64), .retAddr 0]) (S' := [.int (lg_cmp (s1 + s0).toInt64 (11 : Int64))]) (σ' := (97, I, J, R)) rfl ?_
        refine az_E.br (c := 0 < (lg_cmp (s1 + s0).toInt64 (11 : Int64))) (tt := 17) (ff := 13) (L' := [.long (s1 + s0).toInt64, .retAddr 0, .long (0 : Int64), .retAddr 0, .long (11 : Int64), .retAddr 0]) (S' := []) (σ' := (97, I, J, R)) rfl (fun hc_8 => ?_) (fun hc_8 => ?_)
        · rw [if_pos hc_8] at h
          refine az_E.sn 1 (pc' := 18) (L' := [.long (s1 + s0).toInt64, .retAddr 0, .long (0 : Int64), .retAddr 0, .long (11 : Int64), .retAddr 0]) (S' := [.int (0 : Int32)]) (σ' := (97, I, J, R)) rfl ?_
          refine az_E.ret (v := some (.int (0 : Int32))) (σ' := (97, I, J, R)) rfl ?_
          show az_E az_F ex 1 191 70 [.retAddr 0, .retAddr 0, .int v2, .int (s1 + s0)] [.int (0 : Int32)] (97, I, J, R) _
          refine az_E.br (c := (0 : Int32) = 0) (tt := 82) (ff := 73) (L' := [.retAddr 0, .retAddr 0, .int v2, .int (s1 + s0)]) (S' := []) (σ' := (97, I, J, R)) rfl (fun _ => ?_) (fun hn => absurd (by decide) hn)
          refine az_E.sn 1 (pc' := 83) (L' := [.retAddr 0, .retAddr 0, .int v2, .int (s1 + s0)]) (S' := [.int (-1 : Int32)]) (σ' := (97, I, J, R)) rfl ?_
          have h := Option.some.inj h
          subst h
          exact az_E.ret (v := some (.int (-1 : Int32))) (σ' := (97, I, J, R)) rfl hQ
        · rw [if_neg hc_8] at h
          refine az_E.sn 2 (pc' := 18) (L' := [.long (s1 + s0).toInt64, .retAddr 0, .long (0 : Int64), .retAddr 0, .long (11 : Int64), .retAddr 0]) (S' := [.int (1 : Int32)]) (σ' := (97, I, J, R)) rfl ?_
          refine az_E.ret (v := some (.int (1 : Int32))) (σ' := (97, I, J, R)) rfl ?_
          show az_E az_F ex 1 191 70 [.retAddr 0, .retAddr 0, .int v2, .int (s1 + s0)] [.int (1 : Int32)] (97, I, J, R) _
          refine az_E.br (c := (1 : Int32) = 0) (tt := 82) (ff := 73) (L' := [.retAddr 0, .retAddr 0, .int v2, .int (s1 + s0)]) (S' := []) (σ' := (97, I, J, R)) rfl (fun hn => absurd hn (by decide)) (fun _ => ?_)
          refine az_E.sn 6 (pc' := 83) (L' := [.retAddr 0, .retAddr 0, .int v2, .int (s1 + s0)]) (S' := [.int (((12 : Int32) * (s1 + s0)) + v2)]) (σ' := (97, I, J, R)) rfl ?_
          have h := Option.some.inj h
          subst h
          exact az_E.ret (v := some (.int (((12 : Int32) * (s1 + s0)) + v2))) (σ' := (97, I, J, R)) rfl hQ
set_option maxRecDepth 100000 in
set_option maxHeartbeats 4000000 in
theorem re_M_beside_23 {ex : az_X} {I : Nat → Nat → Int32} {J : Nat → Nat → Int64} {R : Nat → Nat → Option Nat} {v0 : Int32} {v1 : Int32} {s0 : Int32} {s1 : Int32} {x : Int32} (h : rs_M_beside_23 v0 v1 s0 s1 = some x) {Q : Option Value → az_S → Prop} (hQ : Q (some (.int x)) (97, I, J, R)) : az_E az_F ex 1 191 23 [.int v0, .int v1, .retAddr 0, .retAddr 0] [.int s0, .int s1] (97, I, J, R) Q := by
  unfold rs_M_beside_23 at h
  refine az_E.sn 4 (pc' := 28) (L' := [.int v0, .int v1, .int (s1 + s0), .retAddr 0]) (S' := [.int (12 : Int32), .int v0]) (σ' := (97, I, J, R)) rfl ?_
  have hd_3 : ¬ ((12 : Int32) = 0) := by decide
  refine az_E.dv (c := (12 : Int32) = 0) (pc' := 29) (L' := [.int v0, .int v1, .int (s1 + s0), .retAddr 0]) (S' := [.int (v0 / (12 : Int32))]) (σ' := (97, I, J, R)) rfl hd_3 ?_
  refine az_E.sn 1 (pc' := 30) (L' := [.int v0, .int v1, .int (s1 + s0), .retAddr 0]) (S' := [.int v1, .int (v0 / (12 : Int32))]) (σ' := (97, I, J, R)) rfl ?_
  refine az_E.br (c := v1 = 0) (tt := 33) (ff := 37) (L' := [.int v0, .int v1, .int (s1 + s0), .retAddr 0]) (S' := [.int (v0 / (12 : Int32))]) (σ' := (97, I, J, R)) rfl (fun hc_4 => ?_) (fun hc_4 => ?_)
  · rw [if_pos hc_4] at h
    refine az_E.sn 2 (pc' := 47) (L' := [.int v0, .int v1, .int (s1 + s0), .retAddr 0]) (S' := [.int (-1 : Int32), .int (v0 / (12 : Int32))]) (σ' := (97, I, J, R)) rfl ?_
    exact az_E.forget (L := [.retAddr 0, .retAddr 0, .int (s1 + s0), .retAddr 0]) ⟨trivial, trivial, rfl, trivial, trivial⟩ (re_M_beside_47 (I := I) (J := J) (R := R)  h hQ)
  · rw [if_neg hc_4] at h
    refine az_E.sn 2 (pc' := 39) (L' := [.int v0, .int v1, .int (s1 + s0), .retAddr 0]) (S' := [.int (2 : Int32), .int v1, .int (v0 / (12 : Int32))]) (σ' := (97, I, J, R)) rfl ?_
    refine az_E.br (c := v1 = (2 : Int32)) (tt := 42) (ff := 46) (L' := [.int v0, .int v1, .int (s1 + s0), .retAddr 0]) (S' := [.int (v0 / (12 : Int32))]) (σ' := (97, I, J, R)) rfl (fun hc_9 => ?_) (fun hc_9 => ?_)
    · rw [if_pos hc_9] at h
      refine az_E.sn 2 (pc' := 47) (L' := [.int v0, .int v1, .int (s1 + s0), .retAddr 0]) (S' := [.int (1 : Int32), .int (v0 / (12 : Int32))]) (σ' := (97, I, J, R)) rfl ?_
      exact az_E.forget (L := [.retAddr 0, .retAddr 0, .int (s1 + s0), .retAddr 0]) ⟨trivial, trivial, rfl, trivial, trivial⟩ (re_M_beside_47 (I := I) (J := J) (R := R)  h hQ)
    · rw [if_neg hc_9] at h
      refine az_E.sn 1 (pc' := 47) (L' := [.int v0, .int v1, .int (s1 + s0), .retAddr 0]) (S' := [.int (0 : Int32), .int (v0 / (12 : Int32))]) (σ' := (97, I, J, R)) rfl ?_
      exact az_E.forget (L := [.retAddr 0, .retAddr 0, .int (s1 + s0), .retAddr 0]) ⟨trivial, trivial, rfl, trivial, trivial⟩ (re_M_beside_47 (I := I) (J := J) (R := R)  h hQ)
set_option maxRecDepth 100000 in
set_option maxHeartbeats 4000000 in
theorem re_M_beside {ex : az_X} {I : Nat → Nat → Int32} {J : Nat → Nat → Int64} {R : Nat → Nat → Option Nat} {a0 : Int32} {a1 : Int32} {o : Int32} (h : rs_M_beside a0 a1 = some o) {Q : Option Value → az_S → Prop} (hQ : Q (some (.int o)) (97, I, J, R)) : az_E az_F ex 1 191 0 [.int a0, .int a1, .retAddr 0, .retAddr 0] [] (97, I, J, R) Q := by
  unfold rs_M_beside at h
  refine az_E.sn 2 (pc' := 3) (L' := [.int a0, .int a1, .retAddr 0, .retAddr 0]) (S' := [.int (12 : Int32), .int a0]) (σ' := (97, I, J, R)) rfl ?_
  have hd_1 : ¬ ((12 : Int32) = 0) := by decide
  refine az_E.dv (c := (12 : Int32) = 0) (pc' := 4) (L' := [.int a0, .int a1, .retAddr 0, .retAddr 0]) (S' := [.int (a0 - a0 / (12 : Int32) * (12 : Int32))]) (σ' := (97, I, J, R)) rfl hd_1 ?_
  refine az_E.sn 2 (pc' := 6) (L' := [.int a0, .int a1, .retAddr 0, .retAddr 0]) (S' := [.int (1 : Int32), .int a1, .int (a0 - a0 / (12 : Int32) * (12 : Int32))]) (σ' := (97, I, J, R)) rfl ?_
  refine az_E.br (c := a1 = (1 : Int32)) (tt := 9) (ff := 13) (L' := [.int a0, .int a1, .retAddr 0, .retAddr 0]) (S' := [.int (a0 - a0 / (12 : Int32) * (12 : Int32))]) (σ' := (97, I, J, R)) rfl (fun hc_2 => ?_) (fun hc_2 => ?_)
  · rw [if_pos hc_2] at h
    refine az_E.sn 2 (pc' := 23) (L' := [.int a0, .int a1, .retAddr 0, .retAddr 0]) (S' := [.int (1 : Int32), .int (a0 - a0 / (12 : Int32) * (12 : Int32))]) (σ' := (97, I, J, R)) rfl ?_
    exact az_E.forget (L := [.int a0, .int a1, .retAddr 0, .retAddr 0]) ⟨rfl, rfl, trivial, trivial, trivial⟩ (re_M_beside_23 (I := I) (J := J) (R := R)  h hQ)
  · rw [if_neg hc_2] at h
    refine az_E.sn 2 (pc' := 15) (L' := [.int a0, .int a1, .retAddr 0, .retAddr 0]) (S' := [.int (3 : Int32), .int a1, .int (a0 - a0 / (12 : Int32) * (12 : Int32))]) (σ' := (97, I, J, R)) rfl ?_
    refine az_E.br (c := a1 = (3 : Int32)) (tt := 18) (ff := 22) (L' := [.int a0, .int a1, .retAddr 0, .retAddr 0]) (S' := [.int (a0 - a0 / (12 : Int32) * (12 : Int32))]) (σ' := (97, I, J, R)) rfl (fun hc_10 => ?_) (fun hc_10 => ?_)
    · rw [if_pos hc_10] at h
      refine az_E.sn 2 (pc' := 23) (L' := [.int a0, .int a1, .retAddr 0, .retAddr 0]) (S' := [.int (-1 : Int32), .int (a0 - a0 / (12 : Int32) * (12 : Int32))]) (σ' := (97, I, J, R)) rfl ?_
      exact az_E.forget (L := [.int a0, .int a1, .retAddr 0, .retAddr 0]) ⟨rfl, rfl, trivial, trivial, trivial⟩ (re_M_beside_23 (I := I) (J := J) (R := R)  h hQ)
    · rw [if_neg hc_10] at h
      refine az_E.sn 1 (pc' := 23) (L' := [.int a0, .int a1, .retAddr 0, .retAddr 0]) (S' := [.int (0 : Int32), .int (a0 - a0 / (12 : Int32) * (12 : Int32))]) (σ' := (97, I, J, R)) rfl ?_
      exact az_E.forget (L := [.int a0, .int a1, .retAddr 0, .retAddr 0]) ⟨rfl, rfl, trivial, trivial, trivial⟩ (re_M_beside_23 (I := I) (J := J) (R := R)  h hQ)
set_option maxRecDepth 100000 in
set_option maxHeartbeats 4000000 in
theorem re_M_step_63 {ex : az_X} {I : Nat → Nat → Int32} {J : Nat → Nat → Int64} {R : Nat → Nat → Option Nat} {v1 : Int32} {v2 : Int32} {v3 : Int32} {x : Int32 × (Nat → Nat → Int32)} (h : rs_M_step_63 I v1 v2 v3 = some x) {Q : Option Value → az_S → Prop} (hQ : Q (some (.int x.1)) (97, x.2, J, R)) : az_E az_F ex 125 196 63 [.ref 73, .int v1, .int v2, .int v3, .retAddr 0] [] (97, I, J, R) Q := by
  unfold rs_M_step_63 at h
  refine az_E.sn 1 (pc' := 64) (L' := [.ref 73, .int v1, .int v2, .int v3, .retAddr 0]) (S' := [.int v3]) (σ' := (97, I, J, R)) rfl ?_
  refine az_E.br (c := v3 = 0) (tt := 67) (ff := 69) (L' := [.ref 73, .int v1, .int v2, .int v3, .retAddr 0]) (S' := []) (σ' := (97, I, J, R)) rfl (fun hc_7 => ?_) (fun hc_7 => ?_)
  · rw [if_pos hc_7] at h
    refine az_E.sn 1 (pc' := 68) (L' := [.ref 73, .int v1, .int v2, .int v3, .retAddr 0]) (S' := [.int (-1 : Int32)]) (σ' := (97, I, J, R)) rfl ?_
    have h := Option.some.inj h
    subst h
    exact az_E.ret (v := some (.int (-1 : Int32))) (σ' := (97, I, J, R)) rfl hQ
  · rw [if_neg hc_7] at h
    refine az_E.sn 2 (pc' := 71) (L' := [.ref 73, .int v1, .int v2, .int v3, .retAddr 0]) (S' := [.int v2, .ref 73]) (σ' := (97, I, J, R)) rfl ?_
    cases hx_9 : rs_M_asksFor I v2 with
    | none => rw [hx_9] at h; cases h
    | some I_8 =>
      rw [hx_9] at h
      dsimp only at h
      refine az_E.call (d := 124) (k' := 190) (vs := [.ref 73, .int v2]) (pc' := 74) (S' := []) (Q1 := fun v s => v = none ∧ s = (97, I_8, J, R)) rfl (az_E.deep (by omega) (re_M_asksFor (J := J) (R := R)  hx_9 ⟨rfl, rfl⟩)) (fun v s hq => ?_)
      obtain ⟨rfl, rfl⟩ := hq
      show az_E az_F ex 125 196 74 [.ref 73, .int v1, .int v2, .int v3, .retAddr 0] [] (97, I_8, J, R) _
      refine az_E.sn 3 (pc' := 79) (L' := [.ref 73, .int v1, .int v2, .int v3, .retAddr 0]) (S' := [.int (1000 : Int32), .int v1, .ref 73]) (σ' := (97, I_8, J, R)) rfl ?_
      have hd_10 : ¬ ((1000 : Int32) = 0) := by decide
      refine az_E.dv (c := (1000 : Int32) = 0) (pc' := 80) (L' := [.ref 73, .int v1, .int v2, .int v3, .retAddr 0]) (S' := [.int (v1 / (1000 : Int32)), .ref 73]) (σ' := (97, I_8, J, R)) rfl hd_10 ?_
      refine az_E.sn 2 (pc' := 84) (L' := [.ref 73, .int v1, .int v2, .int v3, .retAddr 0]) (S' := [.int (1000 : Int32), .int v1, .int (v1 / (1000 : Int32)), .ref 73]) (σ' := (97, I_8, J, R)) rfl ?_
      have hd_11 : ¬ ((1000 : Int32) = 0) := by decide
      refine az_E.dv (c := (1000 : Int32) = 0) (pc' := 85) (L' := [.ref 73, .int v1, .int v2, .int v3, .retAddr 0]) (S' := [.int (v1 - v1 / (1000 : Int32) * (1000 : Int32)), .int (v1 / (1000 : Int32)), .ref 73]) (σ' := (97, I_8, J, R)) rfl hd_11 ?_
      refine az_E.call (d := 124) (k' := 192) (vs := [.ref 73, .int (v1 / (1000 : Int32)), .int (v1 - v1 / (1000 : Int32) * (1000 : Int32))]) (pc' := 88) (S' := []) rfl ?_ (fun _ _ hq => hq)
      show az_E az_F ex 124 192 0 [.ref 73, .int (v1 / (1000 : Int32)), .int (v1 - v1 / (1000 : Int32) * (1000 : Int32))] [] (97, I_8, J, R) _
      refine az_E.sn 6 (pc' := 11) (L' := [.ref 73, .int (v1 / (1000 : Int32)), .int (v1 - v1 / (1000 : Int32) * (1000 : Int32))]) (S' := [.int (v1 / (1000 : Int32)), .ref 74, .int (10 : Int32), .ref 83]) (σ' := (97, I_8, J, R)) rfl ?_
      by_cases hc_12 : (v1 / (1000 : Int32)) < 0 ∨ 179 ≤ (v1 / (1000 : Int32)).toNatClampNeg
      · rw [if_pos hc_12] at h; cases h
      · rw [if_neg hc_12] at h
        refine az_E.oi (o := az_ai az_F ex (97, I_8, J, R) 74 (v1 / (1000 : Int32))) (pc' := 12) (L' := [.ref 73, .int (v1 / (1000 : Int32)), .int (v1 - v1 / (1000 : Int32) * (1000 : Int32))]) (S' := [.int (10 : Int32), .ref 83]) (σ' := (97, I_8, J, R)) (x := (I_8 74 (v1 / (1000 : Int32)).toNatClampNeg)) rfl (if_neg hc_12) ?_
        refine az_E.sn 4 (pc' := 18) (L' := [.ref 73, .int (v1 / (1000 : Int32)), .int (v1 - v1 / (1000 : Int32) * (1000 : Int32))]) (S' := [.int (v1 - v1 / (1000 : Int32) * (1000 : Int32)), .ref 74, .int ((10 : Int32) * (I_8 74 (v1 / (1000 : Int32)).toNatClampNeg)), .ref 83]) (σ' := (97, I_8, J, R)) rfl ?_
        by_cases hc_13 : (v1 - v1 / (1000 : Int32) * (1000 : Int32)) < 0 ∨ 179 ≤ (v1 - v1 / (1000 : Int32) * (1000 : Int32)).toNatClampNeg
        · rw [if_pos hc_13] at h; cases h
        · rw [if_neg hc_13] at h
          refine az_E.oi (o := az_ai az_F ex (97, I_8, J, R) 74 (v1 - v1 / (1000 : Int32) * (1000 : Int32))) (pc' := 19) (L' := [.ref 73, .int (v1 / (1000 : Int32)), .int (v1 - v1 / (1000 : Int32) * (1000 : Int32))]) (S' := [.int ((10 : Int32) * (I_8 74 (v1 / (1000 : Int32)).toNatClampNeg)), .ref 83]) (σ' := (97, I_8, J, R)) (x := (I_8 74 (v1 - v1 / (1000 : Int32) * (1000 : Int32)).toNatClampNeg)) rfl (if_neg hc_13) ?_
          refine az_E.sn 1 (pc' := 20) (L' := [.ref 73, .int (v1 / (1000 : Int32)), .int (v1 - v1 / (1000 : Int32) * (1000 : Int32))]) (S' := [.int (((10 : Int32) * (I_8 74 (v1 / (1000 : Int32)).toNatClampNeg)) + (I_8 74 (v1 - v1 / (1000 : Int32) * (1000 : Int32)).toNatClampNeg)), .ref 83]) (σ' := (97, I_8, J, R)) rfl ?_
          by_cases hc_14 : (((10 : Int32) * (I_8 74 (v1 / (1000 : Int32)).toNatClampNeg)) + (I_8 74 (v1 - v1 / (1000 : Int32) * (1000 : Int32)).toNatClampNeg)) < 0 ∨ 100 ≤ (((10 : Int32) * (I_8 74 (v1 / (1000 : Int32)).toNatClampNeg)) + (I_8 74 (v1 - v1 / (1000 : Int32) * (1000 : Int32)).toNatClampNeg)).toNatClampNeg
          · rw [if_pos hc_14] at h; cases h
          · rw [if_neg hc_14] at h
            refine az_E.oi (o := az_ai az_F ex (97, I_8, J, R) 83 (((10 : Int32) * (I_8 74 (v1 / (1000 : Int32)).toNatClampNeg)) + (I_8 74 (v1 - v1 / (1000 : Int32) * (1000 : Int32)).toNatClampNeg))) (pc' := 21) (L' := [.ref 73, .int (v1 / (1000 : Int32)), .int (v1 - v1 / (1000 : Int32) * (1000 : Int32))]) (S' := []) (σ' := (97, I_8, J, R)) (x := (I_8 83 (((10 : Int32) * (I_8 74 (v1 / (1000 : Int32)).toNatClampNeg)) + (I_8 74 (v1 - v1 / (1000 : Int32) * (1000 : Int32)).toNatClampNeg)).toNatClampNeg)) rfl (if_neg hc_14) ?_
            refine az_E.ret (v := some (.int (I_8 83 (((10 : Int32) * (I_8 74 (v1 / (1000 : Int32)).toNatClampNeg)) + (I_8 74 (v1 - v1 / (1000 : Int32) * (1000 : Int32)).toNatClampNeg)).toNatClampNeg))) (σ' := (97, I_8, J, R)) rfl ?_
            show az_E az_F ex 125 196 88 [.ref 73, .int v1, .int v2, .int v3, .retAddr 0] [.int (I_8 83 (((10 : Int32) * (I_8 74 (v1 / (1000 : Int32)).toNatClampNeg)) + (I_8 74 (v1 - v1 / (1000 : Int32) * (1000 : Int32)).toNatClampNeg)).toNatClampNeg)] (97, I_8, J, R) _
            have h := Option.some.inj h
            subst h
            exact az_E.ret (v := some (.int (I_8 83 (((10 : Int32) * (I_8 74 (v1 / (1000 : Int32)).toNatClampNeg)) + (I_8 74 (v1 - v1 / (1000 : Int32) * (1000 : Int32)).toNatClampNeg)).toNatClampNeg))) (σ' := (97, I_8, J, R)) rfl hQ
set_option maxRecDepth 100000 in
set_option maxHeartbeats 4000000 in
theorem re_M_step_23_b {ex : az_X} {I : Nat → Nat → Int32} {J : Nat → Nat → Int64} {R : Nat → Nat → Option Nat} {v1 : Int32} {v2 : Int32} {v3 : Int32} {v4 : Int32} {x : ((Int32 × Int32) ⊕ (Int32 × (Nat → Nat → Int32)))} (h : rs_M_step_23_b I v1 v2 v3 v4 = some x) {Q : Option Value → az_S → Prop} (hQ : Sum.elim (fun s => az_E az_F ex 125 196 23 [.ref 73, .int v1, .int v2, .int s.1, .int s.2] [] (97, I, J, R) Q) (fun x => Q (some (.int x.1)) (97, x.2, J, R)) x) : az_E az_F ex 125 196 23 [.ref 73, .int v1, .int v2, .int v3, .int v4] [] (97, I, J, R) Q := by
  unfold rs_M_step_23_b at h
  refine az_E.sn 2 (pc' := 26) (L' := [.ref 73, .int v1, .int v2, .int v3, .int v4]) (S' := [.int (4 : Int32), .int v4]) (σ' := (97, I, J, R)) rfl ?_
  refine az_E.br (c := (4 : Int32) ≤ v4) (tt := 63) (ff := 29) (L' := [.ref 73, .int v1, .int v2, .int v3, .int v4]) (S' := []) (σ' := (97, I, J, R)) rfl (fun hc_6 => ?_) (fun hc_6 => ?_)
  · rw [if_pos hc_6] at h
    obtain ⟨x, hx, rfl⟩ := Option.map_eq_some_iff.mp h
    exact az_E.forget (L := [.ref 73, .int v1, .int v2, .int v3, .retAddr 0]) ⟨rfl, rfl, rfl, rfl, trivial, trivial⟩ (re_M_step_63 (I := I) (J := J) (R := R)  hx hQ)
  · rw [if_neg hc_6] at h
    refine az_E.sn 1 (pc' := 30) (L' := [.ref 73, .int v1, .int v2, .int v3, .int v4]) (S' := [.int v3]) (σ' := (97, I, J, R)) rfl ?_
    refine az_E.br (c := v3 = 0) (tt := 33) (ff := 51) (L' := [.ref 73, .int v1, .int v2, .int v3, .int v4]) (S' := []) (σ' := (97, I, J, R)) rfl (fun hc_15 => ?_) (fun hc_15 => ?_)
    · rw [if_pos hc_15] at h
      refine az_E.sn 2 (pc' := 37) (L' := [.ref 73, .int v1, .int v2, .int v3, .int v4]) (S' := [.int (1000 : Int32), .int v1]) (σ' := (97, I, J, R)) rfl ?_
      have hd_16 : ¬ ((1000 : Int32) = 0) := by decide
      refine az_E.dv (c := (1000 : Int32) = 0) (pc' := 38) (L' := [.ref 73, .int v1, .int v2, .int v3, .int v4]) (S' := [.int (v1 / (1000 : Int32))]) (σ' := (97, I, J, R)) rfl hd_16 ?_
      refine az_E.sn 1 (pc' := 40) (L' := [.ref 73, .int v1, .int v2, .int v3, .int v4]) (S' := [.int v4, .int (v1 / (1000 : Int32))]) (σ' := (97, I, J, R)) rfl ?_
      cases hx_18 : rs_M_beside (v1 / (1000 : Int32)) v4 with
      | none => rw [hx_18] at h; cases h
      | some x_17 =>
        rw [hx_18] at h
        dsimp only at h
        refine az_E.call (d := 124) (k' := 191) (vs := [.int (v1 / (1000 : Int32)), .int v4]) (pc' := 43) (S' := []) (Q1 := fun v s => v = some (.int x_17) ∧ s = (97, I, J, R)) rfl (az_E.deep (by omega) (re_M_beside (J := J) (R := R)  hx_18 ⟨rfl, rfl⟩)) (fun v s hq => ?_)
        obtain ⟨rfl, rfl⟩ := hq
        show az_E az_F ex 125 196 43 [.ref 73, .int v1, .int v2, .int v3, .int v4] [.int x_17] (97, I, J, R) _
        refine az_E.sn 2 (pc' := 47) (L' := [.ref 73, .int v1, .int v2, .int v3, .int v4]) (S' := [.int (1000 : Int32), .int v1, .int x_17]) (σ' := (97, I, J, R)) rfl ?_
        have hd_19 : ¬ ((1000 : Int32) = 0) := by decide
        refine az_E.dv (c := (1000 : Int32) = 0) (pc' := 48) (L' := [.ref 73, .int v1, .int v2, .int v3, .int v4]) (S' := [.int (v1 - v1 / (1000 : Int32) * (1000 : Int32)), .int x_17]) (σ' := (97, I, J, R)) rfl hd_19 ?_
        refine az_E.br (c := x_17 = (v1 - v1 / (1000 : Int32) * (1000 : Int32))) (tt := 51) (ff := 55) (L' := [.ref 73, .int v1, .int v2, .int v3, .int v4]) (S' := []) (σ' := (97, I, J, R)) rfl (fun hc_20 => ?_) (fun hc_20 => ?_)
        · rw [if_pos hc_20] at h
          refine az_E.sn 5 (pc' := 23) (L' := [.ref 73, .int v1, .int v2, .int (1 : Int32), .int (v4 + (1 : Int32))]) (S' := []) (σ' := (97, I, J, R)) rfl ?_
          have h := Option.some.inj h
          subst h
          exact az_E.forget (L := [.ref 73, .int v1, .int v2, .int (1 : Int32), .int (v4 + (1 : Int32))]) ⟨rfl, rfl, rfl, rfl, rfl, trivial⟩ hQ
        · rw [if_neg hc_20] at h
          refine az_E.sn 4 (pc' := 23) (L' := [.ref 73, .int v1, .int v2, .int (0 : Int32), .int (v4 + (1 : Int32))]) (S' := []) (σ' := (97, I, J, R)) rfl ?_
          have h := Option.some.inj h
          subst h
          exact az_E.forget (L := [.ref 73, .int v1, .int v2, .int (0 : Int32), .int (v4 + (1 : Int32))]) ⟨rfl, rfl, rfl, rfl, rfl, trivial⟩ hQ
    · rw [if_neg hc_15] at h
      refine az_E.sn 5 (pc' := 23) (L' := [.ref 73, .int v1, .int v2, .int (1 : Int32), .int (v4 + (1 : Int32))]) (S' := []) (σ' := (97, I, J, R)) rfl ?_
      have h := Option.some.inj h
      subst h
      exact az_E.forget (L := [.ref 73, .int v1, .int v2, .int (1 : Int32), .int (v4 + (1 : Int32))]) ⟨rfl, rfl, rfl, rfl, rfl, trivial⟩ hQ
set_option maxRecDepth 100000 in
set_option maxHeartbeats 4000000 in
theorem re_M_step_23 {ex : az_X} {I : Nat → Nat → Int32} {J : Nat → Nat → Int64} {R : Nat → Nat → Option Nat} {v1 : Int32} {v2 : Int32} {v3 : Int32} {v4 : Int32} {x : Int32 × (Nat → Nat → Int32)} (h : rs_M_step_23 I v1 v2 v3 v4 = some x) {Q : Option Value → az_S → Prop} (hQ : Q (some (.int x.1)) (97, x.2, J, R)) : az_E az_F ex 125 196 23 [.ref 73, .int v1, .int v2, .int v3, .int v4] [] (97, I, J, R) Q := by
  unfold rs_M_step_23 at h
  refine az_lp_E (G := fun s => az_E az_F ex 125 196 23 [.ref 73, .int v1, .int v2, .int s.1, .int s.2] [] (97, I, J, R) Q) (H := fun x => Q (some (.int x.1)) (97, x.2, J, R)) (fun s o hb ho => ?_) _ _ _ h hQ
  exact re_M_step_23_b  hb ho
set_option maxRecDepth 100000 in
set_option maxHeartbeats 4000000 in
theorem re_M_step {ex : az_X} {I : Nat → Nat → Int32} {J : Nat → Nat → Int64} {R : Nat → Nat → Option Nat} {a1 : Int32} {a2 : Int32} {o : Int32 × (Nat → Nat → Int32)} (h : rs_M_step I a1 a2 = some o) {Q : Option Value → az_S → Prop} (hQ : Q (some (.int o.1)) (97, o.2, J, R)) : az_E az_F ex 125 196 0 [.ref 73, .int a1, .int a2, .retAddr 0, .retAddr 0] [] (97, I, J, R) Q := by
  unfold rs_M_step at h
  refine az_E.sn 1 (pc' := 1) (L' := [.ref 73, .int a1, .int a2, .retAddr 0, .retAddr 0]) (S' := [.int a1]) (σ' := (97, I, J, R)) rfl ?_
  cases hx_2 : rs_M_isFt a1 with
  | none => rw [hx_2] at h; cases h
  | some x_1 =>
    rw [hx_2] at h
    dsimp only at h
    refine az_E.call (d := 124) (k' := 163) (vs := [.int a1]) (pc' := 4) (S' := []) (Q1 := fun v s => v = some (.int x_1) ∧ s = (97, I, J, R)) rfl (az_E.deep (by omega) (re_M_isFt (J := J) (R := R)  hx_2 ⟨rfl, rfl⟩)) (fun v s hq => ?_)
    obtain ⟨rfl, rfl⟩ := hq
    show az_E az_F ex 125 196 4 [.ref 73, .int a1, .int a2, .retAddr 0, .retAddr 0] [.int x_1] (97, I, J, R) _
    refine az_E.br (c := x_1 = 0) (tt := 16) (ff := 7) (L' := [.ref 73, .int a1, .int a2, .retAddr 0, .retAddr 0]) (S' := []) (σ' := (97, I, J, R)) rfl (fun hc_3 => ?_) (fun hc_3 => ?_)
    · rw [if_pos hc_3] at h
      refine az_E.sn 1 (pc' := 17) (L' := [.ref 73, .int a1, .int a2, .retAddr 0, .retAddr 0]) (S' := [.int (-1 : Int32)]) (σ' := (97, I, J, R)) rfl ?_
      have h := Option.some.inj h
      subst h
      exact az_E.ret (v := some (.int (-1 : Int32))) (σ' := (97, I, J, R)) rfl hQ
    · rw [if_neg hc_3] at h
      refine az_E.sn 3 (pc' := 10) (L' := [.ref 73, .int a1, .int a2, .retAddr 0, .retAddr 0]) (S' := [.long a2.toInt64, .ref 73]) (σ' := (97, I, J, R)) rfl ?_
      refine az_E.call (d := 124) (k' := 162) (vs := [.ref 73, .long a2.toInt64]) (pc' := 13) (S' := []) rfl ?_ (fun _ _ hq => hq)
      show az_E az_F ex 124 162 0 [.ref 73, .long a2.toInt64, .retAddr 0] [] (97, I, J, R) _
      refine az_E.sn 7 (pc' := 9) (L' := [.ref 73, .long a2.toInt64, .retAddr 0]) (S' := [.long ((I 73 7) - (1 : Int32)).toInt64, .long (0 : Int64), .long a2.toInt64]) (σ' := (97, I, J, R)) rfl ?_
      refine az_E.call (d := 123) (k' := 154) (vs := [.long a2.toInt64, .long (0 : Int64), .long ((I 73 7) - (1 : Int32)).toInt64]) (pc' := 12) (S' := []) rfl ?_ (fun _ _ hq => hq)
      show az_E az_F ex 123 154 0 [.long a2.toInt64, .retAddr 0, .long (0 : Int64), .retAddr 0, .long ((I 73 7) - (1 : Int32)).toInt64, .retAddr 0] [] (97, I, J, R) _
      refine az_E.sn 3 (pc' := 3) (L' := [.long a2.toInt64, .retAddr 0, .long (0 : Int64), .retAddr 0, .long ((I 73 7) - (1 : Int32)).toInt64, .retAddr 0]) (S' := [.int (lg_cmp a2.toInt64 (0 : Int64))]) (σ' := (97, I, J, R)) rfl ?_
      refine az_E.br (c := (lg_cmp a2.toInt64 (0 : Int64)) < 0) (tt := 17) (ff := 6) (L' := [.long a2.toInt64, .retAddr 0, .long (0 : Int64), .retAddr 0, .long ((I 73 7) - (1 : Int32)).toInt64, .retAddr 0]) (S' := []) (σ' := (97, I, J, R)) rfl (fun hc_4 => ?_) (fun hc_4 => ?_)
      · rw [if_pos hc_4] at h
        refine az_E.sn 1 (pc' := 18) (L' := [.long a2.toInt64, .retAddr 0, .long (0 : Int64), .retAddr 0, .long ((I 73 7) - (1 : Int32)).toInt64, .retAddr 0]) (S' := [.int (0 : Int32)]) (σ' := (97, I, J, R)) rfl ?_
        refine az_E.ret (v := some (.int (0 : Int32))) (σ' := (97, I, J, R)) rfl ?_
        show az_E az_F ex 124 162 12 [.ref 73, .long a2.toInt64, .retAddr 0] [.int (0 : Int32)] (97, I, J, R) _
        refine az_E.ret (v := some (.int (0 : Int32))) (σ' := (97, I, J, R)) rfl ?_
        show az_E az_F ex 125 196 13 [.ref 73, .int a1, .int a2, .retAddr 0, .retAddr 0] [.int (0 : Int32)] (97, I, J, R) _
        refine az_E.br (c := (0 : Int32) = 0) (tt := 16) (ff := 18) (L' := [.ref 73, .int a1, .int a2, .retAddr 0, .retAddr 0]) (S' := []) (σ' := (97, I, J, R)) rfl (fun _ => ?_) (fun hn => absurd (by decide) hn)
        refine az_E.sn 1 (pc' := 17) (L' := [.ref 73, .int a1, .int a2, .retAddr 0, .retAddr 0]) (S' := [.int (-1 : Int32)]) (σ' := (97, I, J, R)) rfl ?_
        have h := Option.some.inj h
        subst h
        exact az_E.ret (v := some (.int (-1 : Int32))) (σ' := (97, I, J, R)) rfl hQ
      · rw [if_neg hc_4] at h
        refine az_E.sn 3 (pc' := 10) (L' := [.long a2.toInt64, .retAddr 0, .long (0 : Int64), .retAddr 0, .long ((I 73 7) - (1 : Int32)).toInt64, .retAddr 0]) (S' := [.int (lg_cmp a2.toInt64 ((I 73 7) - (1 : Int32)).toInt64)]) (σ' := (97, I, J, R)) rfl ?_
        refine az_E.br (c := 0 < (lg_cmp a2.toInt64 ((I 73 7) - (1 : Int32)).toInt64)) (tt := 17) (ff := 13) (L' := [.long a2.toInt64, .retAddr 0, .long (0 : Int64), .retAddr 0, .long ((I 73 7) - (1 : Int32)).toInt64, .retAddr 0]) (S' := []) (σ' := (97, I, J, R)) rfl (fun hc_5 => ?_) (fun hc_5 => ?_)
        · rw [if_pos hc_5] at h
          refine az_E.sn 1 (pc' := 18) (L' := [.long a2.toInt64, .retAddr 0, .long (0 : Int64), .retAddr 0, .long ((I 73 7) - (1 : Int32)).toInt64, .retAddr 0]) (S' := [.int (0 : Int32)]) (σ' := (97, I, J, R)) rfl ?_
          refine az_E.ret (v := some (.int (0 : Int32))) (σ' := (97, I, J, R)) rfl ?_
          show az_E az_F ex 124 162 12 [.ref 73, .long a2.toInt64, .retAddr 0] [.int (0 : Int32)] (97, I, J, R) _
          refine az_E.ret (v := some (.int (0 : Int32))) (σ' := (97, I, J, R)) rfl ?_
          show az_E az_F ex 125 196 13 [.ref 73, .int a1, .int a2, .retAddr 0, .retAddr 0] [.int (0 : Int32)] (97, I, J, R) _
          refine az_E.br (c := (0 : Int32) = 0) (tt := 16) (ff := 18) (L' := [.ref 73, .int a1, .int a2, .retAddr 0, .retAddr 0]) (S' := []) (σ' := (97, I, J, R)) rfl (fun _ => ?_) (fun hn => absurd (by decide) hn)
          refine az_E.sn 1 (pc' := 17) (L' := [.ref 73, .int a1, .int a2, .retAddr 0, .retAddr 0]) (S' := [.int (-1 : Int32)]) (σ' := (97, I, J, R)) rfl ?_
          have h := Option.some.inj h
          subst h
          exact az_E.ret (v := some (.int (-1 : Int32))) (σ' := (97, I, J, R)) rfl hQ
        · rw [if_neg hc_5] at h
          refine az_E.sn 2 (pc' := 18) (L' := [.long a2.toInt64, .retAddr 0, .long (0 : Int64), .retAddr 0, .long ((I 73 7) - (1 : Int32)).toInt64, .retAddr 0]) (S' := [.int (1 : Int32)]) (σ' := (97, I, J, R)) rfl ?_
          refine az_E.ret (v := some (.int (1 : Int32))) (σ' := (97, I, J, R)) rfl ?_
          show az_E az_F ex 124 162 12 [.ref 73, .long a2.toInt64, .retAddr 0] [.int (1 : Int32)] (97, I, J, R) _
          refine az_E.ret (v := some (.int (1 : Int32))) (σ' := (97, I, J, R)) rfl ?_
          show az_E az_F ex 125 196 13 [.ref 73, .int a1, .int a2, .retAddr 0, .retAddr 0] [.int (1 : Int32)] (97, I, J, R) _
          refine az_E.br (c := (1 : Int32) = 0) (tt := 16) (ff := 18) (L' := [.ref 73, .int a1, .int a2, .retAddr 0, .retAddr 0]) (S' := []) (σ' := (97, I, J, R)) rfl (fun hn => absurd hn (by decide)) (fun _ => ?_)
          refine az_E.sn 4 (pc' := 23) (L' := [.ref 73, .int a1, .int a2, .int (0 : Int32), .int (0 : Int32)]) (S' := []) (σ' := (97, I, J, R)) rfl ?_
          exact az_E.forget (L := [.ref 73, .int a1, .int a2, .int (0 : Int32), .int (0 : Int32)]) ⟨rfl, rfl, rfl, rfl, rfl, trivial⟩ (re_M_step_23 (I := I) (J := J) (R := R)  h hQ)
set_option maxRecDepth 100000 in
set_option maxHeartbeats 4000000 in
theorem re_Pa_want_26 {ex : az_X} {I : Nat → Nat → Int32} {J : Nat → Nat → Int64} {R : Nat → Nat → Option Nat} {a1 : Int32} {a2 : Int32} {o : (Nat → Nat → Int32)} (h : rs_Pa_want 26 I a1 a2 = some o) {Q : Option Value → az_S → Prop} (hQ : Q none (97, o, J, R)) : az_E az_F ex 0 49 0 [.ref 26, .int a1, .int a2] [] (97, I, J, R) Q := by
  unfold rs_Pa_want at h
  refine az_E.sn 8 (pc' := 11) (L' := [.ref 26, .int a1, .int a2]) (S' := [.int (1 : Int32), .int ((a1 * (10 : Int32)) + a2), .ref (26 + 2)]) (σ' := (97, I, J, R)) rfl ?_
  by_cases hc_1 : ((a1 * (10 : Int32)) + a2) < 0 ∨ 100 ≤ ((a1 * (10 : Int32)) + a2).toNatClampNeg
  · rw [if_pos hc_1] at h; cases h
  · rw [if_neg hc_1] at h
    refine az_E.o (o := az_si az_F (97, I, J, R) (26 + 2) ((a1 * (10 : Int32)) + a2) (1 : Int32)) (pc' := 12) (L' := [.ref 26, .int a1, .int a2]) (S' := []) (x := (97, (az_u I (26 + 2) ((a1 * (10 : Int32)) + a2).toNatClampNeg (1 : Int32)), J, R)) rfl (if_neg hc_1) ?_
    refine az_E.sn 8 (pc' := 23) (L' := [.ref 26, .int a1, .int a2]) (S' := [.int (1 : Int32), .int ((a2 * (10 : Int32)) + a1), .ref (26 + 2)]) (σ' := (97, (az_u I (26 + 2) ((a1 * (10 : Int32)) + a2).toNatClampNeg (1 : Int32)), J, R)) rfl ?_
    by_cases hc_2 : ((a2 * (10 : Int32)) + a1) < 0 ∨ 100 ≤ ((a2 * (10 : Int32)) + a1).toNatClampNeg
    · rw [if_pos hc_2] at h; cases h
    · rw [if_neg hc_2] at h
      refine az_E.o (o := az_si az_F (97, (az_u I (26 + 2) ((a1 * (10 : Int32)) + a2).toNatClampNeg (1 : Int32)), J, R) (26 + 2) ((a2 * (10 : Int32)) + a1) (1 : Int32)) (pc' := 24) (L' := [.ref 26, .int a1, .int a2]) (S' := []) (x := (97, (az_u (az_u I (26 + 2) ((a1 * (10 : Int32)) + a2).toNatClampNeg (1 : Int32)) (26 + 2) ((a2 * (10 : Int32)) + a1).toNatClampNeg (1 : Int32)), J, R)) rfl (if_neg hc_2) ?_
      have h := Option.some.inj h
      subst h
      exact az_E.ret (v := none) (σ' := (97, (az_u (az_u I (26 + 2) ((a1 * (10 : Int32)) + a2).toNatClampNeg (1 : Int32)) (26 + 2) ((a2 * (10 : Int32)) + a1).toNatClampNeg (1 : Int32)), J, R)) rfl hQ
set_option maxRecDepth 100000 in
set_option maxHeartbeats 4000000 in
theorem re_Pa_lookForPairs_38_26 {ex : az_X} {I : Nat → Nat → Int32} {J : Nat → Nat → Int64} {R : Nat → Nat → Option Nat} {v2 : Int32} {x : ((Int32 × (Nat → Nat → Int32)) ⊕ ((Nat → Nat → Int32)))} (h : rs_Pa_lookForPairs_38 26 I v2 = some x) {Q : Option Value → az_S → Prop} (hQ : Sum.elim (fun s => az_E az_F ex 1 48 10 [.ref 26, .ref 5, .int s.1] [] (97, s.2, J, R) Q) (fun x => Q none (97, x, J, R)) x) : az_E az_F ex 1 48 38 [.ref 26, .ref 5, .int v2] [] (97, I, J, R) Q := by
  unfold rs_Pa_lookForPairs_38 at h
  refine az_E.sn 2 (pc' := 42) (L' := [.ref 26, .ref 5, .int v2]) (S' := [.int (132 : Int32), .int v2]) (σ' := (97, I, J, R)) rfl ?_
  refine az_E.br (c := (132 : Int32) ≤ v2) (tt := 58) (ff := 45) (L' := [.ref 26, .ref 5, .int v2]) (S' := []) (σ' := (97, I, J, R)) rfl (fun hc_4 => ?_) (fun hc_4 => ?_)
  · rw [if_pos hc_4] at h
    refine az_E.sn 2 (pc' := 10) (L' := [.ref 26, .ref 5, .int (v2 + (1 : Int32))]) (S' := []) (σ' := (97, I, J, R)) rfl ?_
    have h := Option.some.inj h
    subst h
    exact az_E.forget (L := [.ref 26, .ref 5, .int (v2 + (1 : Int32))]) ⟨rfl, rfl, rfl, trivial⟩ hQ
  · rw [if_neg hc_4] at h
    refine az_E.sn 3 (pc' := 48) (L' := [.ref 26, .ref 5, .int v2]) (S' := [.int v2, .ref 5, .ref 26]) (σ' := (97, I, J, R)) rfl ?_
    by_cases hc_5 : v2 < 0 ∨ 144 ≤ v2.toNatClampNeg
    · rw [if_pos hc_5] at h; cases h
    · rw [if_neg hc_5] at h
      refine az_E.oi (o := az_ai az_F ex (97, I, J, R) 5 v2) (pc' := 49) (L' := [.ref 26, .ref 5, .int v2]) (S' := [.ref 26]) (σ' := (97, I, J, R)) (x := (I 5 v2.toNatClampNeg)) rfl (if_neg hc_5) ?_
      refine az_E.sn 4 (pc' := 54) (L' := [.ref 26, .ref 5, .int v2]) (S' := [.int (v2 + (12 : Int32)), .ref 5, .int (I 5 v2.toNatClampNeg), .ref 26]) (σ' := (97, I, J, R)) rfl ?_
      by_cases hc_6 : (v2 + (12 : Int32)) < 0 ∨ 144 ≤ (v2 + (12 : Int32)).toNatClampNeg
      · rw [if_pos hc_6] at h; cases h
      · rw [if_neg hc_6] at h
        refine az_E.oi (o := az_ai az_F ex (97, I, J, R) 5 (v2 + (12 : Int32))) (pc' := 55) (L' := [.ref 26, .ref 5, .int v2]) (S' := [.int (I 5 v2.toNatClampNeg), .ref 26]) (σ' := (97, I, J, R)) (x := (I 5 (v2 + (12 : Int32)).toNatClampNeg)) rfl (if_neg hc_6) ?_
        cases hx_8 : rs_Pa_want 26 I (I 5 v2.toNatClampNeg) (I 5 (v2 + (12 : Int32)).toNatClampNeg) with
        | none => rw [hx_8] at h; cases h
        | some I_7 =>
          rw [hx_8] at h
          dsimp only at h
          refine az_E.call (d := 0) (k' := 49) (vs := [.ref 26, .int (I 5 v2.toNatClampNeg), .int (I 5 (v2 + (12 : Int32)).toNatClampNeg)]) (pc' := 58) (S' := []) (Q1 := fun v s => v = none ∧ s = (97, I_7, J, R)) rfl (az_E.deep (by omega) (re_Pa_want_26 (J := J) (R := R)  hx_8 ⟨rfl, rfl⟩)) (fun v s hq => ?_)
          obtain ⟨rfl, rfl⟩ := hq
          show az_E az_F ex 1 48 58 [.ref 26, .ref 5, .int v2] [] (97, I_7, J, R) _
          refine az_E.sn 2 (pc' := 10) (L' := [.ref 26, .ref 5, .int (v2 + (1 : Int32))]) (S' := []) (σ' := (97, I_7, J, R)) rfl ?_
          have h := Option.some.inj h
          subst h
          exact az_E.forget (L := [.ref 26, .ref 5, .int (v2 + (1 : Int32))]) ⟨rfl, rfl, rfl, trivial⟩ hQ
set_option maxRecDepth 100000 in
set_option maxHeartbeats 4000000 in
theorem re_Pa_lookForPairs_10_b_26 {ex : az_X} {I : Nat → Nat → Int32} {J : Nat → Nat → Int64} {R : Nat → Nat → Option Nat} {v2 : Int32} {x : ((Int32 × (Nat → Nat → Int32)) ⊕ ((Nat → Nat → Int32)))} (h : rs_Pa_lookForPairs_10_b 26 v2 I = some x) {Q : Option Value → az_S → Prop} (hQ : Sum.elim (fun s => az_E az_F ex 1 48 10 [.ref 26, .ref 5, .int s.1] [] (97, s.2, J, R) Q) (fun x => Q none (97, x, J, R)) x) : az_E az_F ex 1 48 10 [.ref 26, .ref 5, .int v2] [] (97, I, J, R) Q := by
  unfold rs_Pa_lookForPairs_10_b at h
  refine az_E.sn 2 (pc' := 14) (L' := [.ref 26, .ref 5, .int v2]) (S' := [.int (144 : Int32), .int v2]) (σ' := (97, I, J, R)) rfl ?_
  refine az_E.br (c := (144 : Int32) ≤ v2) (tt := 64) (ff := 17) (L' := [.ref 26, .ref 5, .int v2]) (S' := []) (σ' := (97, I, J, R)) rfl (fun hc_1 => ?_) (fun hc_1 => ?_)
  · rw [if_pos hc_1] at h
    have h := Option.some.inj h
    subst h
    exact az_E.ret (v := none) (σ' := (97, I, J, R)) rfl hQ
  · rw [if_neg hc_1] at h
    refine az_E.sn 2 (pc' := 20) (L' := [.ref 26, .ref 5, .int v2]) (S' := [.int (12 : Int32), .int v2]) (σ' := (97, I, J, R)) rfl ?_
    have hd_2 : ¬ ((12 : Int32) = 0) := by decide
    refine az_E.dv (c := (12 : Int32) = 0) (pc' := 21) (L' := [.ref 26, .ref 5, .int v2]) (S' := [.int (v2 - v2 / (12 : Int32) * (12 : Int32))]) (σ' := (97, I, J, R)) rfl hd_2 ?_
    refine az_E.sn 1 (pc' := 23) (L' := [.ref 26, .ref 5, .int v2]) (S' := [.int (11 : Int32), .int (v2 - v2 / (12 : Int32) * (12 : Int32))]) (σ' := (97, I, J, R)) rfl ?_
    refine az_E.br (c := (11 : Int32) ≤ (v2 - v2 / (12 : Int32) * (12 : Int32))) (tt := 38) (ff := 26) (L' := [.ref 26, .ref 5, .int v2]) (S' := []) (σ' := (97, I, J, R)) rfl (fun hc_3 => ?_) (fun hc_3 => ?_)
    · rw [if_pos hc_3] at h
      exact az_E.forget (L := [.ref 26, .ref 5, .int v2]) ⟨rfl, rfl, rfl, trivial⟩ (re_Pa_lookForPairs_38_26 (I := I) (J := J) (R := R)  h hQ)
    · rw [if_neg hc_3] at h
      refine az_E.sn 3 (pc' := 29) (L' := [.ref 26, .ref 5, .int v2]) (S' := [.int v2, .ref 5, .ref 26]) (σ' := (97, I, J, R)) rfl ?_
      by_cases hc_9 : v2 < 0 ∨ 144 ≤ v2.toNatClampNeg
      · rw [if_pos hc_9] at h; cases h
      · rw [if_neg hc_9] at h
        refine az_E.oi (o := az_ai az_F ex (97, I, J, R) 5 v2) (pc' := 30) (L' := [.ref 26, .ref 5, .int v2]) (S' := [.ref 26]) (σ' := (97, I, J, R)) (x := (I 5 v2.toNatClampNeg)) rfl (if_neg hc_9) ?_
        refine az_E.sn 4 (pc' := 34) (L' := [.ref 26, .ref 5, .int v2]) (S' := [.int (v2 + (1 : Int32)), .ref 5, .int (I 5 v2.toNatClampNeg), .ref 26]) (σ' := (97, I, J, R)) rfl ?_
        by_cases hc_10 : (v2 + (1 : Int32)) < 0 ∨ 144 ≤ (v2 + (1 : Int32)).toNatClampNeg
        · rw [if_pos hc_10] at h; cases h
        · rw [if_neg hc_10] at h
          refine az_E.oi (o := az_ai az_F ex (97, I, J, R) 5 (v2 + (1 : Int32))) (pc' := 35) (L' := [.ref 26, .ref 5, .int v2]) (S' := [.int (I 5 v2.toNatClampNeg), .ref 26]) (σ' := (97, I, J, R)) (x := (I 5 (v2 + (1 : Int32)).toNatClampNeg)) rfl (if_neg hc_10) ?_
          cases hx_12 : rs_Pa_want 26 I (I 5 v2.toNatClampNeg) (I 5 (v2 + (1 : Int32)).toNatClampNeg) with
          | none => rw [hx_12] at h; cases h
          | some I_11 =>
            rw [hx_12] at h
            dsimp only at h
            refine az_E.call (d := 0) (k' := 49) (vs := [.ref 26, .int (I 5 v2.toNatClampNeg), .int (I 5 (v2 + (1 : Int32)).toNatClampNeg)]) (pc' := 38) (S' := []) (Q1 := fun v s => v = none ∧ s = (97, I_11, J, R)) rfl (az_E.deep (by omega) (re_Pa_want_26 (J := J) (R := R)  hx_12 ⟨rfl, rfl⟩)) (fun v s hq => ?_)
            obtain ⟨rfl, rfl⟩ := hq
            show az_E az_F ex 1 48 38 [.ref 26, .ref 5, .int v2] [] (97, I_11, J, R) _
            exact az_E.forget (L := [.ref 26, .ref 5, .int v2]) ⟨rfl, rfl, rfl, trivial⟩ (re_Pa_lookForPairs_38_26 (I := I_11) (J := J) (R := R)  h hQ)
set_option maxRecDepth 100000 in
set_option maxHeartbeats 4000000 in
theorem re_Pa_lookForPairs_10_26 {ex : az_X} {I : Nat → Nat → Int32} {J : Nat → Nat → Int64} {R : Nat → Nat → Option Nat} {v2 : Int32} {x : (Nat → Nat → Int32)} (h : rs_Pa_lookForPairs_10 26 I v2 = some x) {Q : Option Value → az_S → Prop} (hQ : Q none (97, x, J, R)) : az_E az_F ex 1 48 10 [.ref 26, .ref 5, .int v2] [] (97, I, J, R) Q := by
  unfold rs_Pa_lookForPairs_10 at h
  refine az_lp_E (G := fun s => az_E az_F ex 1 48 10 [.ref 26, .ref 5, .int s.1] [] (97, s.2, J, R) Q) (H := fun x => Q none (97, x, J, R)) (fun s o hb ho => ?_) _ _ _ h hQ
  exact re_Pa_lookForPairs_10_b_26  hb ho
set_option maxRecDepth 100000 in
set_option maxHeartbeats 4000000 in
theorem re_Pa_lookForPairs_26 {ex : az_X} {I : Nat → Nat → Int32} {J : Nat → Nat → Int64} {R : Nat → Nat → Option Nat} {o : (Nat → Nat → Int32)} (h : rs_Pa_lookForPairs 26 I = some o) {Q : Option Value → az_S → Prop} (hQ : Q none (97, o, J, R)) : az_E az_F ex 1 48 0 [.ref 26, .ref 5, .retAddr 0] [] (97, I, J, R) Q := by
  unfold rs_Pa_lookForPairs at h
  refine az_E.sn 3 (pc' := 5) (L' := [.ref 26, .ref 5, .retAddr 0]) (S' := [.int (0 : Int32), .ref (26 + 2)]) (σ' := (97, I, J, R)) rfl ?_
  refine az_E.call (d := 0) (k' := 257) (vs := [.ref (26 + 2), .int (0 : Int32)]) (pc' := 8) (S' := []) (Q1 := fun v s => v = none ∧ s = (97, (az_ur I (26 + 2) (az_fill 100 (0 : Int32) (I (26 + 2)))), J, R)) rfl (az_E.deep (by omega) (re_fillI (r := (26 + 2)) rfl ⟨rfl, rfl⟩)) (fun v s hq => ?_)
  obtain ⟨rfl, rfl⟩ := hq
  show az_E az_F ex 1 48 8 [.ref 26, .ref 5, .retAddr 0] [] (97, (az_ur I (26 + 2) (az_fill 100 (0 : Int32) (I (26 + 2)))), J, R) _
  refine az_E.sn 2 (pc' := 10) (L' := [.ref 26, .ref 5, .int (0 : Int32)]) (S' := []) (σ' := (97, (az_ur I (26 + 2) (az_fill 100 (0 : Int32) (I (26 + 2)))), J, R)) rfl ?_
  exact az_E.forget (L := [.ref 26, .ref 5, .int (0 : Int32)]) ⟨rfl, rfl, rfl, trivial⟩ (re_Pa_lookForPairs_10_26 (I := (az_ur I (26 + 2) (az_fill 100 (0 : Int32) (I (26 + 2))))) (J := J) (R := R)  h hQ)
set_option maxRecDepth 100000 in
set_option maxHeartbeats 4000000 in
theorem re_Pa_fill_2_b_26_16 {ex : az_X} {I : Nat → Nat → Int32} {J : Nat → Nat → Int64} {R : Nat → Nat → Option Nat} {v1 : Int32} (hR_26_2 : R 26 2 = some 16) {x : ((Int32 × (Nat → Nat → Int32)) ⊕ ((Nat → Nat → Int32)))} (h : rs_Pa_fill_2_b 26 16 v1 I = some x) {Q : Option Value → az_S → Prop} (hQ : Sum.elim (fun s => az_E az_F ex 3 50 2 [.ref 26, .int s.1, .retAddr 0] [] (97, s.2, J, R) Q) (fun x => Q none (97, x, J, R)) x) : az_E az_F ex 3 50 2 [.ref 26, .int v1, .retAddr 0] [] (97, I, J, R) Q := by
  unfold rs_Pa_fill_2_b at h
  refine az_E.sn 2 (pc' := 5) (L' := [.ref 26, .int v1, .retAddr 0]) (S' := [.int (100 : Int32), .int v1]) (σ' := (97, I, J, R)) rfl ?_
  refine az_E.br (c := (100 : Int32) ≤ v1) (tt := 71) (ff := 8) (L' := [.ref 26, .int v1, .retAddr 0]) (S' := []) (σ' := (97, I, J, R)) rfl (fun hc_1 => ?_) (fun hc_1 => ?_)
  · rw [if_pos hc_1] at h
    have h := Option.some.inj h
    subst h
    exact az_E.ret (v := none) (σ' := (97, I, J, R)) rfl hQ
  · rw [if_neg hc_1] at h
    refine az_E.sn 1 (pc' := 9) (L' := [.ref 26, .int v1, .retAddr 0]) (S' := [.ref 26]) (σ' := (97, I, J, R)) rfl ?_
    refine az_E.ov (pc' := 12) (L' := [.ref 26, .int v1, .retAddr 0]) (S' := []) (σ' := (97, I, J, R)) (x := .ref 16) rfl (congrArg (fun z => some (va_rf z)) hR_26_2) ?_
    refine az_E.sn 4 (pc' := 20) (L' := [.ref 26, .int v1, .retAddr 0]) (S' := [.int v1, .ref (26 + 2)]) (σ' := (97, I, J, R)) rfl ?_
    by_cases hc_2 : v1 < 0 ∨ 100 ≤ v1.toNatClampNeg
    · rw [if_pos hc_2] at h; cases h
    · rw [if_neg hc_2] at h
      refine az_E.oi (o := az_ai az_F ex (97, I, J, R) (26 + 2) v1) (pc' := 21) (L' := [.ref 26, .int v1, .retAddr 0]) (S' := []) (σ' := (97, I, J, R)) (x := (I (26 + 2) v1.toNatClampNeg)) rfl (if_neg hc_2) ?_
      refine az_E.br (c := (I (26 + 2) v1.toNatClampNeg) = 0) (tt := 65) (ff := 24) (L' := [.ref 26, .int v1, .retAddr 0]) (S' := []) (σ' := (97, I, J, R)) rfl (fun hc_3 => ?_) (fun hc_3 => ?_)
      · rw [if_pos hc_3] at h
        refine az_E.sn 2 (pc' := 2) (L' := [.ref 26, .int (v1 + (1 : Int32)), .retAddr 0]) (S' := []) (σ' := (97, I, J, R)) rfl ?_
        have h := Option.some.inj h
        subst h
        exact az_E.forget (L := [.ref 26, .int (v1 + (1 : Int32)), .retAddr 0]) ⟨rfl, rfl, trivial, trivial⟩ hQ
      · rw [if_neg hc_3] at h
        refine az_E.sn 2 (pc' := 27) (L' := [.ref 26, .int v1, .retAddr 0]) (S' := [.int (10 : Int32), .int v1]) (σ' := (97, I, J, R)) rfl ?_
        have hd_4 : ¬ ((10 : Int32) = 0) := by decide
        refine az_E.dv (c := (10 : Int32) = 0) (pc' := 28) (L' := [.ref 26, .int v1, .retAddr 0]) (S' := [.int (v1 - v1 / (10 : Int32) * (10 : Int32))]) (σ' := (97, I, J, R)) rfl hd_4 ?_
        refine az_E.sn 5 (pc' := 35) (L' := [.ref 26, .int v1, .int (v1 - v1 / (10 : Int32) * (10 : Int32))]) (S' := [.ref 26, .int v1, .ref (26 + 1)]) (σ' := (97, I, J, R)) rfl ?_
        refine az_E.ov (pc' := 38) (L' := [.ref 26, .int v1, .int (v1 - v1 / (10 : Int32) * (10 : Int32))]) (S' := [.int v1, .ref (26 + 1)]) (σ' := (97, I, J, R)) (x := .ref 16) rfl (congrArg (fun z => some (va_rf z)) hR_26_2) ?_
        refine az_E.sn 3 (pc' := 42) (L' := [.ref 26, .int v1, .int (v1 - v1 / (10 : Int32) * (10 : Int32))]) (S' := [.int (10 : Int32), .int v1, .int (v1 - v1 / (10 : Int32) * (10 : Int32)), .ref 16, .int v1, .ref (26 + 1)]) (σ' := (97, I, J, R)) rfl ?_
        have hd_5 : ¬ ((10 : Int32) = 0) := by decide
        refine az_E.dv (c := (10 : Int32) = 0) (pc' := 43) (L' := [.ref 26, .int v1, .int (v1 - v1 / (10 : Int32) * (10 : Int32))]) (S' := [.int (v1 / (10 : Int32)), .int (v1 - v1 / (10 : Int32) * (10 : Int32)), .ref 16, .int v1, .ref (26 + 1)]) (σ' := (97, I, J, R)) rfl hd_5 ?_
        refine az_E.sn 10 (pc' := 61) (L' := [.ref 26, .int v1, .int (v1 - v1 / (10 : Int32) * (10 : Int32))]) (S' := [.int (v1 - v1 / (10 : Int32) * (10 : Int32)), .int (I 26 7), .int (I 26 6), .int (I 26 5), .int (I 26 4), .int ((v1 - v1 / (10 : Int32) * (10 : Int32)) - (v1 / (10 : Int32))), .ref 16, .int v1, .ref (26 + 1)]) (σ' := (97, I, J, R)) rfl ?_
        cases hx_8 : rs_La_minutes 16 I ((v1 - v1 / (10 : Int32) * (10 : Int32)) - (v1 / (10 : Int32))) (I 26 4) (I 26 5) (I 26 6) (I 26 7) (v1 - v1 / (10 : Int32) * (10 : Int32)) with
        | none => rw [hx_8] at h; cases h
        | some o =>
          rw [hx_8] at h
          obtain ⟨x_6, I_7⟩ := o
          dsimp only at h
          refine az_E.call (d := 2) (k' := 30) (vs := [.ref 16, .int ((v1 - v1 / (10 : Int32) * (10 : Int32)) - (v1 / (10 : Int32))), .int (I 26 4), .int (I 26 5), .int (I 26 6), .int (I 26 7), .int (v1 - v1 / (10 : Int32) * (10 : Int32))]) (pc' := 64) (S' := [.int v1, .ref (26 + 1)]) (Q1 := fun v s => v = some (.int x_6) ∧ s = (97, I_7, J, R)) rfl (az_E.deep (by omega) (re_La_minutes_16 (J := J) (R := R)  hx_8 ⟨rfl, rfl⟩)) (fun v s hq => ?_)
          obtain ⟨rfl, rfl⟩ := hq
          show az_E az_F ex 3 50 64 [.ref 26, .int v1, .int (v1 - v1 / (10 : Int32) * (10 : Int32))] [.int x_6, .int v1, .ref (26 + 1)] (97, I_7, J, R) _
          by_cases hc_9 : v1 < 0 ∨ 100 ≤ v1.toNatClampNeg
          · rw [if_pos hc_9] at h; cases h
          · rw [if_neg hc_9] at h
            refine az_E.o (o := az_si az_F (97, I_7, J, R) (26 + 1) v1 x_6) (pc' := 65) (L' := [.ref 26, .int v1, .int (v1 - v1 / (10 : Int32) * (10 : Int32))]) (S' := []) (x := (97, (az_u I_7 (26 + 1) v1.toNatClampNeg x_6), J, R)) rfl (if_neg hc_9) ?_
            refine az_E.sn 2 (pc' := 2) (L' := [.ref 26, .int (v1 + (1 : Int32)), .int (v1 - v1 / (10 : Int32) * (10 : Int32))]) (S' := []) (σ' := (97, (az_u I_7 (26 + 1) v1.toNatClampNeg x_6), J, R)) rfl ?_
            have h := Option.some.inj h
            subst h
            exact az_E.forget (L := [.ref 26, .int (v1 + (1 : Int32)), .retAddr 0]) ⟨rfl, rfl, trivial, trivial⟩ hQ
set_option maxRecDepth 100000 in
set_option maxHeartbeats 4000000 in
theorem re_Pa_fill_2_26_16 {ex : az_X} {I : Nat → Nat → Int32} {J : Nat → Nat → Int64} {R : Nat → Nat → Option Nat} {v1 : Int32} (hR_26_2 : R 26 2 = some 16) {x : (Nat → Nat → Int32)} (h : rs_Pa_fill_2 26 16 I v1 = some x) {Q : Option Value → az_S → Prop} (hQ : Q none (97, x, J, R)) : az_E az_F ex 3 50 2 [.ref 26, .int v1, .retAddr 0] [] (97, I, J, R) Q := by
  unfold rs_Pa_fill_2 at h
  refine az_lp_E (G := fun s => az_E az_F ex 3 50 2 [.ref 26, .int s.1, .retAddr 0] [] (97, s.2, J, R) Q) (H := fun x => Q none (97, x, J, R)) (fun s o hb ho => ?_) _ _ _ h hQ
  exact re_Pa_fill_2_b_26_16 hR_26_2 hb ho
set_option maxRecDepth 100000 in
set_option maxHeartbeats 4000000 in
theorem re_Pa_fill_26_16 {ex : az_X} {I : Nat → Nat → Int32} {J : Nat → Nat → Int64} {R : Nat → Nat → Option Nat} (hR_26_2 : R 26 2 = some 16) {o : (Nat → Nat → Int32)} (h : rs_Pa_fill 26 16 I = some o) {Q : Option Value → az_S → Prop} (hQ : Q none (97, o, J, R)) : az_E az_F ex 3 50 0 [.ref 26, .retAddr 0, .retAddr 0] [] (97, I, J, R) Q := by
  unfold rs_Pa_fill at h
  refine az_E.sn 2 (pc' := 2) (L' := [.ref 26, .int (0 : Int32), .retAddr 0]) (S' := []) (σ' := (97, I, J, R)) rfl ?_
  exact az_E.forget (L := [.ref 26, .int (0 : Int32), .retAddr 0]) ⟨rfl, rfl, trivial, trivial⟩ (re_Pa_fill_2_26_16 (I := I) (J := J) (R := R) hR_26_2 h hQ)
set_option maxRecDepth 100000 in
set_option maxHeartbeats 4000000 in
theorem re_Pa_become_26_16 {ex : az_X} {I : Nat → Nat → Int32} {J : Nat → Nat → Int64} {R : Nat → Nat → Option Nat} {a3 : Int32} {a4 : Int32} {a5 : Int32} {o : (Nat → Nat → Int32)} (h : rs_Pa_become 26 16 I a3 a4 a5 = some o) {Q : Option Value → az_S → Prop} (hQ : Q none (97, o, J, (az_u (az_u R 26 2 (some 16)) 26 3 (some 5)))) : az_E az_F ex 4 43 0 [.ref 26, .ref 16, .ref 4, .int a3, .int a4, .int a5] [] (97, I, J, R) Q := by
  unfold rs_Pa_become at h
  refine az_E.sn 23 (pc' := 43) (L' := [.ref 26, .ref 16, .ref 4, .int a3, .int a4, .int a5]) (S' := [.ref 5, .ref 26]) (σ' := (97, (az_u (az_u (az_u (az_u I 26 7 (I 4 10)) 26 4 a3) 26 5 a4) 26 6 a5), J, (az_u (az_u R 26 2 (some 16)) 26 3 (some 5)))) rfl ?_
  cases hx_2 : rs_Pa_lookForPairs 26 (az_u (az_u (az_u (az_u I 26 7 (I 4 10)) 26 4 a3) 26 5 a4) 26 6 a5) with
  | none => rw [hx_2] at h; cases h
  | some I_1 =>
    rw [hx_2] at h
    dsimp only at h
    refine az_E.call (d := 3) (k' := 48) (vs := [.ref 26, .ref 5]) (pc' := 46) (S' := []) (Q1 := fun v s => v = none ∧ s = (97, I_1, J, (az_u (az_u R 26 2 (some 16)) 26 3 (some 5)))) rfl (az_E.deep (by omega) (re_Pa_lookForPairs_26 (J := J) (R := (az_u (az_u R 26 2 (some 16)) 26 3 (some 5)))  hx_2 ⟨rfl, rfl⟩)) (fun v s hq => ?_)
    obtain ⟨rfl, rfl⟩ := hq
    show az_E az_F ex 4 43 46 [.ref 26, .ref 16, .ref 4, .int a3, .int a4, .int a5] [] (97, I_1, J, (az_u (az_u R 26 2 (some 16)) 26 3 (some 5))) _
    refine az_E.sn 1 (pc' := 47) (L' := [.ref 26, .ref 16, .ref 4, .int a3, .int a4, .int a5]) (S' := [.ref 26]) (σ' := (97, I_1, J, (az_u (az_u R 26 2 (some 16)) 26 3 (some 5)))) rfl ?_
    cases hx_4 : rs_Pa_fill 26 16 I_1 with
    | none => rw [hx_4] at h; cases h
    | some I_3 =>
      rw [hx_4] at h
      dsimp only at h
      refine az_E.call (d := 3) (k' := 50) (vs := [.ref 26]) (pc' := 50) (S' := []) (Q1 := fun v s => v = none ∧ s = (97, I_3, J, (az_u (az_u R 26 2 (some 16)) 26 3 (some 5)))) rfl (az_E.deep (by omega) (re_Pa_fill_26_16 (J := J) (R := (az_u (az_u R 26 2 (some 16)) 26 3 (some 5))) rfl hx_4 ⟨rfl, rfl⟩)) (fun v s hq => ?_)
      obtain ⟨rfl, rfl⟩ := hq
      show az_E az_F ex 4 43 50 [.ref 26, .ref 16, .ref 4, .int a3, .int a4, .int a5] [] (97, I_3, J, (az_u (az_u R 26 2 (some 16)) 26 3 (some 5))) _
      have h := Option.some.inj h
      subst h
      exact az_E.ret (v := none) (σ' := (97, I_3, J, (az_u (az_u R 26 2 (some 16)) 26 3 (some 5)))) rfl hQ
set_option maxRecDepth 100000 in
set_option maxHeartbeats 4000000 in
theorem re_X_setPace_16 {ex : az_X} {I : Nat → Nat → Int32} {J : Nat → Nat → Int64} {R : Nat → Nat → Option Nat} {a1 : Int32} (hR_3_2 : R 3 2 = some 16) {o : (Nat → Nat → Int32)} (h : rs_X_setPace 16 I a1 = some o) {Q : Option Value → az_S → Prop} (hQ : Q none (97, o, J, (az_u (az_u R 26 2 (some 16)) 26 3 (some 5)))) : az_E az_F ex 5 144 0 [.ref 3, .int a1] [] (97, I, J, R) Q := by
  unfold rs_X_setPace at h
  refine az_E.sn 3 (pc' := 5) (L' := [.ref 3, .int a1]) (S' := [.ref 3, .ref 26]) (σ' := (97, I, J, R)) rfl ?_
  refine az_E.ov (pc' := 8) (L' := [.ref 3, .int a1]) (S' := [.ref 26]) (σ' := (97, I, J, R)) (x := .ref 16) rfl (congrArg (fun z => some (va_rf z)) hR_3_2) ?_
  refine az_E.sn 6 (pc' := 20) (L' := [.ref 3, .int a1]) (S' := [.int a1, .ref 8, .ref 4, .ref 16, .ref 26]) (σ' := (97, I, J, R)) rfl ?_
  by_cases hc_1 : a1 < 0 ∨ 6 ≤ a1.toNatClampNeg
  · rw [if_pos hc_1] at h; cases h
  · rw [if_neg hc_1] at h
    refine az_E.oi (o := az_ai az_F ex (97, I, J, R) 8 a1) (pc' := 21) (L' := [.ref 3, .int a1]) (S' := [.ref 4, .ref 16, .ref 26]) (σ' := (97, I, J, R)) (x := (I 8 a1.toNatClampNeg)) rfl (if_neg hc_1) ?_
    refine az_E.sn 4 (pc' := 29) (L' := [.ref 3, .int a1]) (S' := [.int a1, .ref 9, .int (I 8 a1.toNatClampNeg), .ref 4, .ref 16, .ref 26]) (σ' := (97, I, J, R)) rfl ?_
    by_cases hc_2 : a1 < 0 ∨ 6 ≤ a1.toNatClampNeg
    · rw [if_pos hc_2] at h; cases h
    · rw [if_neg hc_2] at h
      refine az_E.oi (o := az_ai az_F ex (97, I, J, R) 9 a1) (pc' := 30) (L' := [.ref 3, .int a1]) (S' := [.int (I 8 a1.toNatClampNeg), .ref 4, .ref 16, .ref 26]) (σ' := (97, I, J, R)) (x := (I 9 a1.toNatClampNeg)) rfl (if_neg hc_2) ?_
      refine az_E.sn 4 (pc' := 38) (L' := [.ref 3, .int a1]) (S' := [.int a1, .ref 10, .int (I 9 a1.toNatClampNeg), .int (I 8 a1.toNatClampNeg), .ref 4, .ref 16, .ref 26]) (σ' := (97, I, J, R)) rfl ?_
      by_cases hc_3 : a1 < 0 ∨ 6 ≤ a1.toNatClampNeg
      · rw [if_pos hc_3] at h; cases h
      · rw [if_neg hc_3] at h
        refine az_E.oi (o := az_ai az_F ex (97, I, J, R) 10 a1) (pc' := 39) (L' := [.ref 3, .int a1]) (S' := [.int (I 9 a1.toNatClampNeg), .int (I 8 a1.toNatClampNeg), .ref 4, .ref 16, .ref 26]) (σ' := (97, I, J, R)) (x := (I 10 a1.toNatClampNeg)) rfl (if_neg hc_3) ?_
        cases hx_5 : rs_Pa_become 26 16 I (I 8 a1.toNatClampNeg) (I 9 a1.toNatClampNeg) (I 10 a1.toNatClampNeg) with
        | none => rw [hx_5] at h; cases h
        | some I_4 =>
          rw [hx_5] at h
          dsimp only at h
          refine az_E.call (d := 4) (k' := 43) (vs := [.ref 26, .ref 16, .ref 4, .int (I 8 a1.toNatClampNeg), .int (I 9 a1.toNatClampNeg), .int (I 10 a1.toNatClampNeg)]) (pc' := 42) (S' := []) (Q1 := fun v s => v = none ∧ s = (97, I_4, J, (az_u (az_u R 26 2 (some 16)) 26 3 (some 5)))) rfl (az_E.deep (by omega) (re_Pa_become_26_16 (J := J) (R := R)  hx_5 ⟨rfl, rfl⟩)) (fun v s hq => ?_)
          obtain ⟨rfl, rfl⟩ := hq
          show az_E az_F ex 5 144 42 [.ref 3, .int a1] [] (97, I_4, J, (az_u (az_u R 26 2 (some 16)) 26 3 (some 5))) _
          have h := Option.some.inj h
          subst h
          exact az_E.ret (v := none) (σ' := (97, I_4, J, (az_u (az_u R 26 2 (some 16)) 26 3 (some 5)))) rfl hQ
set_option maxRecDepth 100000 in
set_option maxHeartbeats 4000000 in
theorem re_Fi_enter {ex : az_X} {I : Nat → Nat → Int32} {J : Nat → Nat → Int64} {R : Nat → Nat → Option Nat} {a1 : Int32} {a2 : Int32} {o : (Nat → Nat → Int32)} (h : rs_Fi_enter I a1 a2 = some o) {Q : Option Value → az_S → Prop} (hQ : Q none (97, o, J, R)) : az_E az_F ex 0 19 0 [.ref 32, .int a1, .int a2, .retAddr 0] [] (97, I, J, R) Q := by
  unfold rs_Fi_enter at h
  refine az_E.sn 3 (pc' := 7) (L' := [.ref 32, .int a1, .int a2, .retAddr 0]) (S' := [.int (577 : Int32), .int (I 32 7)]) (σ' := (97, I, J, R)) rfl ?_
  refine az_E.br (c := (577 : Int32) ≤ (I 32 7)) (tt := 70) (ff := 10) (L' := [.ref 32, .int a1, .int a2, .retAddr 0]) (S' := []) (σ' := (97, I, J, R)) rfl (fun hc_1 => ?_) (fun hc_1 => ?_)
  · rw [if_pos hc_1] at h
    have h := Option.some.inj h
    subst h
    exact az_E.ret (v := none) (σ' := (97, I, J, R)) rfl hQ
  · rw [if_neg hc_1] at h
    refine az_E.sn 2 (pc' := 13) (L' := [.ref 32, .int a1, .int a2, .retAddr 0]) (S' := [.int (100 : Int32), .int a2]) (σ' := (97, I, J, R)) rfl ?_
    have hd_2 : ¬ ((100 : Int32) = 0) := by decide
    refine az_E.dv (c := (100 : Int32) = 0) (pc' := 14) (L' := [.ref 32, .int a1, .int a2, .retAddr 0]) (S' := [.int (a2 - a2 / (100 : Int32) * (100 : Int32))]) (σ' := (97, I, J, R)) rfl hd_2 ?_
    refine az_E.sn 6 (pc' := 24) (L' := [.ref 32, .int a1, .int a2, .int (a2 - a2 / (100 : Int32) * (100 : Int32))]) (S' := [.int a1, .int (I 32 7), .ref 38]) (σ' := (97, I, J, R)) rfl ?_
    by_cases hc_3 : (I 32 7) < 0 ∨ 577 ≤ (I 32 7).toNatClampNeg
    · rw [if_pos hc_3] at h; cases h
    · rw [if_neg hc_3] at h
      refine az_E.o (o := az_si az_F (97, I, J, R) 38 (I 32 7) a1) (pc' := 25) (L' := [.ref 32, .int a1, .int a2, .int (a2 - a2 / (100 : Int32) * (100 : Int32))]) (S' := []) (x := (97, (az_u I 38 (I 32 7).toNatClampNeg a1), J, R)) rfl (if_neg hc_3) ?_
      refine az_E.sn 7 (pc' := 38) (L' := [.ref 32, .int a1, .int a2, .int (a2 - a2 / (100 : Int32) * (100 : Int32))]) (S' := [.int (a2 - a2 / (100 : Int32) * (100 : Int32)), .ref 36, .int (I 32 7), .ref 37]) (σ' := (97, (az_u I 38 (I 32 7).toNatClampNeg a1), J, R)) rfl ?_
      by_cases hc_4 : (a2 - a2 / (100 : Int32) * (100 : Int32)) < 0 ∨ 100 ≤ (a2 - a2 / (100 : Int32) * (100 : Int32)).toNatClampNeg
      · rw [if_pos hc_4] at h; cases h
      · rw [if_neg hc_4] at h
        refine az_E.oi (o := az_ai az_F ex (97, (az_u I 38 (I 32 7).toNatClampNeg a1), J, R) 36 (a2 - a2 / (100 : Int32) * (100 : Int32))) (pc' := 39) (L' := [.ref 32, .int a1, .int a2, .int (a2 - a2 / (100 : Int32) * (100 : Int32))]) (S' := [.int (I 32 7), .ref 37]) (σ' := (97, (az_u I 38 (I 32 7).toNatClampNeg a1), J, R)) (x := (I 36 (a2 - a2 / (100 : Int32) * (100 : Int32)).toNatClampNeg)) rfl (if_neg hc_4) ?_
        by_cases hc_5 : (I 32 7) < 0 ∨ 577 ≤ (I 32 7).toNatClampNeg
        · rw [if_pos hc_5] at h; cases h
        · rw [if_neg hc_5] at h
          refine az_E.o (o := az_si az_F (97, (az_u I 38 (I 32 7).toNatClampNeg a1), J, R) 37 (I 32 7) (I 36 (a2 - a2 / (100 : Int32) * (100 : Int32)).toNatClampNeg)) (pc' := 40) (L' := [.ref 32, .int a1, .int a2, .int (a2 - a2 / (100 : Int32) * (100 : Int32))]) (S' := []) (x := (97, (az_u (az_u I 38 (I 32 7).toNatClampNeg a1) 37 (I 32 7).toNatClampNeg (I 36 (a2 - a2 / (100 : Int32) * (100 : Int32)).toNatClampNeg)), J, R)) rfl (if_neg hc_5) ?_
          refine az_E.sn 5 (pc' := 49) (L' := [.ref 32, .int a1, .int a2, .int (a2 - a2 / (100 : Int32) * (100 : Int32))]) (S' := [.int (I 32 7), .int (a2 - a2 / (100 : Int32) * (100 : Int32)), .ref 36]) (σ' := (97, (az_u (az_u I 38 (I 32 7).toNatClampNeg a1) 37 (I 32 7).toNatClampNeg (I 36 (a2 - a2 / (100 : Int32) * (100 : Int32)).toNatClampNeg)), J, R)) rfl ?_
          by_cases hc_6 : (a2 - a2 / (100 : Int32) * (100 : Int32)) < 0 ∨ 100 ≤ (a2 - a2 / (100 : Int32) * (100 : Int32)).toNatClampNeg
          · rw [if_pos hc_6] at h; cases h
          · rw [if_neg hc_6] at h
            refine az_E.o (o := az_si az_F (97, (az_u (az_u I 38 (I 32 7).toNatClampNeg a1) 37 (I 32 7).toNatClampNeg (I 36 (a2 - a2 / (100 : Int32) * (100 : Int32)).toNatClampNeg)), J, R) 36 (a2 - a2 / (100 : Int32) * (100 : Int32)) (I 32 7)) (pc' := 50) (L' := [.ref 32, .int a1, .int a2, .int (a2 - a2 / (100 : Int32) * (100 : Int32))]) (S' := []) (x := (97, (az_u (az_u (az_u I 38 (I 32 7).toNatClampNeg a1) 37 (I 32 7).toNatClampNeg (I 36 (a2 - a2 / (100 : Int32) * (100 : Int32)).toNatClampNeg)) 36 (a2 - a2 / (100 : Int32) * (100 : Int32)).toNatClampNeg (I 32 7)), J, R)) rfl (if_neg hc_6) ?_
            refine az_E.sn 12 (pc' := 70) (L' := [.ref 32, .int a1, .int a2, .int (a2 - a2 / (100 : Int32) * (100 : Int32))]) (S' := []) (σ' := (97, (az_u (az_u (az_u (az_u (az_u I 38 (I 32 7).toNatClampNeg a1) 37 (I 32 7).toNatClampNeg (I 36 (a2 - a2 / (100 : Int32) * (100 : Int32)).toNatClampNeg)) 36 (a2 - a2 / (100 : Int32) * (100 : Int32)).toNatClampNeg (I 32 7)) 32 7 ((I 32 7) + (1 : Int32))) 32 8 ((I 32 8) + (1 : Int32))), J, R)) rfl ?_
            have h := Option.some.inj h
            subst h
            exact az_E.ret (v := none) (σ' := (97, (az_u (az_u (az_u (az_u (az_u I 38 (I 32 7).toNatClampNeg a1) 37 (I 32 7).toNatClampNeg (I 36 (a2 - a2 / (100 : Int32) * (100 : Int32)).toNatClampNeg)) 36 (a2 - a2 / (100 : Int32) * (100 : Int32)).toNatClampNeg (I 32 7)) 32 7 ((I 32 7) + (1 : Int32))) 32 8 ((I 32 8) + (1 : Int32))), J, R)) rfl hQ
set_option maxRecDepth 100000 in
set_option maxHeartbeats 4000000 in
theorem re_Fi_relax_55_26_33_5 {ex : az_X} {I : Nat → Nat → Int32} {J : Nat → Nat → Int64} {R : Nat → Nat → Option Nat} {v2 : Int32} {v3 : Int32} {v5 : Int32} {v6 : Int32} {s0 : Int32} (hR_26_3 : R 26 3 = some 5) {x : ((Int32 × (Nat → Nat → Int32)) ⊕ ((Nat → Nat → Int32)))} (h : rs_Fi_relax_55 26 33 I v2 v3 v5 v6 s0 = some x) {Q : Option Value → az_S → Prop} (hQ : Sum.elim (fun s => az_E az_F ex 1 18 3 [.ref 32, .ref 26, .int v2, .int v3, .ref 33, .int s.1, .retAddr 0, .retAddr 0] [] (97, s.2, J, R) Q) (fun x => Q none (97, x, J, R)) x) : az_E az_F ex 1 18 55 [.ref 32, .ref 26, .int v2, .int v3, .ref 33, .int v5, .int v6, .retAddr 0] [.int s0] (97, I, J, R) Q := by
  unfold rs_Fi_relax_55 at h
  refine az_E.sn 3 (pc' := 60) (L' := [.ref 32, .ref 26, .int v2, .int v3, .ref 33, .int v5, .int v6, .int s0]) (S' := [.int v2, .ref 33]) (σ' := (97, I, J, R)) rfl ?_
  by_cases hc_12 : v2 < 0 ∨ 144 ≤ v2.toNatClampNeg
  · rw [if_pos hc_12] at h; cases h
  · rw [if_neg hc_12] at h
    refine az_E.oi (o := az_ai az_F ex (97, I, J, R) 33 v2) (pc' := 61) (L' := [.ref 32, .ref 26, .int v2, .int v3, .ref 33, .int v5, .int v6, .int s0]) (S' := []) (σ' := (97, I, J, R)) (x := (I 33 v2.toNatClampNeg)) rfl (if_neg hc_12) ?_
    refine az_E.sn 4 (pc' := 68) (L' := [.ref 32, .ref 26, .int v2, .int v3, .ref 33, .int v5, .int v6, .int s0]) (S' := [.int v6, .ref 33, .int ((I 33 v2.toNatClampNeg) + s0)]) (σ' := (97, I, J, R)) rfl ?_
    by_cases hc_13 : v6 < 0 ∨ 144 ≤ v6.toNatClampNeg
    · rw [if_pos hc_13] at h; cases h
    · rw [if_neg hc_13] at h
      refine az_E.oi (o := az_ai az_F ex (97, I, J, R) 33 v6) (pc' := 69) (L' := [.ref 32, .ref 26, .int v2, .int v3, .ref 33, .int v5, .int v6, .int s0]) (S' := [.int ((I 33 v2.toNatClampNeg) + s0)]) (σ' := (97, I, J, R)) (x := (I 33 v6.toNatClampNeg)) rfl (if_neg hc_13) ?_
      refine az_E.br (c := (I 33 v6.toNatClampNeg) ≤ ((I 33 v2.toNatClampNeg) + s0)) (tt := 95) (ff := 72) (L' := [.ref 32, .ref 26, .int v2, .int v3, .ref 33, .int v5, .int v6, .int s0]) (S' := []) (σ' := (97, I, J, R)) rfl (fun hc_14 => ?_) (fun hc_14 => ?_)
      · rw [if_pos hc_14] at h
        refine az_E.sn 2 (pc' := 3) (L' := [.ref 32, .ref 26, .int v2, .int v3, .ref 33, .int (v5 + (1 : Int32)), .int v6, .int s0]) (S' := []) (σ' := (97, I, J, R)) rfl ?_
        have h := Option.some.inj h
        subst h
        exact az_E.forget (L := [.ref 32, .ref 26, .int v2, .int v3, .ref 33, .int (v5 + (1 : Int32)), .retAddr 0, .retAddr 0]) ⟨rfl, rfl, rfl, rfl, rfl, rfl, trivial, trivial, trivial⟩ hQ
      · rw [if_neg hc_14] at h
        refine az_E.sn 4 (pc' := 79) (L' := [.ref 32, .ref 26, .int v2, .int v3, .ref 33, .int v5, .int v6, .int s0]) (S' := [.int v2, .ref 33, .int v6, .ref 33]) (σ' := (97, I, J, R)) rfl ?_
        by_cases hc_15 : v2 < 0 ∨ 144 ≤ v2.toNatClampNeg
        · rw [if_pos hc_15] at h; cases h
        · rw [if_neg hc_15] at h
          refine az_E.oi (o := az_ai az_F ex (97, I, J, R) 33 v2) (pc' := 80) (L' := [.ref 32, .ref 26, .int v2, .int v3, .ref 33, .int v5, .int v6, .int s0]) (S' := [.int v6, .ref 33]) (σ' := (97, I, J, R)) (x := (I 33 v2.toNatClampNeg)) rfl (if_neg hc_15) ?_
          refine az_E.sn 2 (pc' := 83) (L' := [.ref 32, .ref 26, .int v2, .int v3, .ref 33, .int v5, .int v6, .int s0]) (S' := [.int ((I 33 v2.toNatClampNeg) + s0), .int v6, .ref 33]) (σ' := (97, I, J, R)) rfl ?_
          by_cases hc_16 : v6 < 0 ∨ 144 ≤ v6.toNatClampNeg
          · rw [if_pos hc_16] at h; cases h
          · rw [if_neg hc_16] at h
            refine az_E.o (o := az_si az_F (97, I, J, R) 33 v6 ((I 33 v2.toNatClampNeg) + s0)) (pc' := 84) (L' := [.ref 32, .ref 26, .int v2, .int v3, .ref 33, .int v5, .int v6, .int s0]) (S' := []) (x := (97, (az_u I 33 v6.toNatClampNeg ((I 33 v2.toNatClampNeg) + s0)), J, R)) rfl (if_neg hc_16) ?_
            refine az_E.sn 4 (pc' := 91) (L' := [.ref 32, .ref 26, .int v2, .int v3, .ref 33, .int v5, .int v6, .int s0]) (S' := [.int v6, .ref 33, .int v6, .ref 32]) (σ' := (97, (az_u I 33 v6.toNatClampNeg ((I 33 v2.toNatClampNeg) + s0)), J, R)) rfl ?_
            by_cases hc_17 : v6 < 0 ∨ 144 ≤ v6.toNatClampNeg
            · rw [if_pos hc_17] at h; cases h
            · rw [if_neg hc_17] at h
              refine az_E.oi (o := az_ai az_F ex (97, (az_u I 33 v6.toNatClampNeg ((I 33 v2.toNatClampNeg) + s0)), J, R) 33 v6) (pc' := 92) (L' := [.ref 32, .ref 26, .int v2, .int v3, .ref 33, .int v5, .int v6, .int s0]) (S' := [.int v6, .ref 32]) (σ' := (97, (az_u I 33 v6.toNatClampNeg ((I 33 v2.toNatClampNeg) + s0)), J, R)) (x := ((az_u I 33 v6.toNatClampNeg ((I 33 v2.toNatClampNeg) + s0)) 33 v6.toNatClampNeg)) rfl (if_neg hc_17) ?_
              cases hx_19 : rs_Fi_enter (az_u I 33 v6.toNatClampNeg ((I 33 v2.toNatClampNeg) + s0)) v6 ((az_u I 33 v6.toNatClampNeg ((I 33 v2.toNatClampNeg) + s0)) 33 v6.toNatClampNeg) with
              | none => rw [hx_19] at h; cases h
              | some I_18 =>
                rw [hx_19] at h
                dsimp only at h
                refine az_E.call (d := 0) (k' := 19) (vs := [.ref 32, .int v6, .int ((az_u I 33 v6.toNatClampNeg ((I 33 v2.toNatClampNeg) + s0)) 33 v6.toNatClampNeg)]) (pc' := 95) (S' := []) (Q1 := fun v s => v = none ∧ s = (97, I_18, J, R)) rfl (az_E.deep (by omega) (re_Fi_enter (J := J) (R := R)  hx_19 ⟨rfl, rfl⟩)) (fun v s hq => ?_)
                obtain ⟨rfl, rfl⟩ := hq
                show az_E az_F ex 1 18 95 [.ref 32, .ref 26, .int v2, .int v3, .ref 33, .int v5, .int v6, .int s0] [] (97, I_18, J, R) _
                refine az_E.sn 2 (pc' := 3) (L' := [.ref 32, .ref 26, .int v2, .int v3, .ref 33, .int (v5 + (1 : Int32)), .int v6, .int s0]) (S' := []) (σ' := (97, I_18, J, R)) rfl ?_
                have h := Option.some.inj h
                subst h
                exact az_E.forget (L := [.ref 32, .ref 26, .int v2, .int v3, .ref 33, .int (v5 + (1 : Int32)), .retAddr 0, .retAddr 0]) ⟨rfl, rfl, rfl, rfl, rfl, rfl, trivial, trivial, trivial⟩ hQ
set_option maxRecDepth 100000 in
set_option maxHeartbeats 4000000 in
theorem re_Fi_relax_3_b_26_33_5 {ex : az_X} {I : Nat → Nat → Int32} {J : Nat → Nat → Int64} {R : Nat → Nat → Option Nat} {v2 : Int32} {v3 : Int32} {v5 : Int32} (hR_26_3 : R 26 3 = some 5) {x : ((Int32 × (Nat → Nat → Int32)) ⊕ ((Nat → Nat → Int32)))} (h : rs_Fi_relax_3_b 26 33 v2 v3 v5 I = some x) {Q : Option Value → az_S → Prop} (hQ : Sum.elim (fun s => az_E az_F ex 1 18 3 [.ref 32, .ref 26, .int v2, .int v3, .ref 33, .int s.1, .retAddr 0, .retAddr 0] [] (97, s.2, J, R) Q) (fun x => Q none (97, x, J, R)) x) : az_E az_F ex 1 18 3 [.ref 32, .ref 26, .int v2, .int v3, .ref 33, .int v5, .retAddr 0, .retAddr 0] [] (97, I, J, R) Q := by
  unfold rs_Fi_relax_3_b at h
  refine az_E.sn 2 (pc' := 6) (L' := [.ref 32, .ref 26, .int v2, .int v3, .ref 33, .int v5, .retAddr 0, .retAddr 0]) (S' := [.int (4 : Int32), .int v5]) (σ' := (97, I, J, R)) rfl ?_
  refine az_E.br (c := (4 : Int32) ≤ v5) (tt := 101) (ff := 9) (L' := [.ref 32, .ref 26, .int v2, .int v3, .ref 33, .int v5, .retAddr 0, .retAddr 0]) (S' := []) (σ' := (97, I, J, R)) rfl (fun hc_1 => ?_) (fun hc_1 => ?_)
  · rw [if_pos hc_1] at h
    have h := Option.some.inj h
    subst h
    exact az_E.ret (v := none) (σ' := (97, I, J, R)) rfl hQ
  · rw [if_neg hc_1] at h
    refine az_E.sn 2 (pc' := 12) (L' := [.ref 32, .ref 26, .int v2, .int v3, .ref 33, .int v5, .retAddr 0, .retAddr 0]) (S' := [.int v5, .int v2]) (σ' := (97, I, J, R)) rfl ?_
    cases hx_3 : rs_X_sideCell v2 v5 with
    | none => rw [hx_3] at h; cases h
    | some x_2 =>
      rw [hx_3] at h
      dsimp only at h
      refine az_E.call (d := 0) (k' := 141) (vs := [.int v2, .int v5]) (pc' := 15) (S' := []) (Q1 := fun v s => v = some (.int x_2) ∧ s = (97, I, J, R)) rfl (az_E.deep (by omega) (re_X_sideCell (J := J) (R := R)  hx_3 ⟨rfl, rfl⟩)) (fun v s hq => ?_)
      obtain ⟨rfl, rfl⟩ := hq
      show az_E az_F ex 1 18 15 [.ref 32, .ref 26, .int v2, .int v3, .ref 33, .int v5, .retAddr 0, .retAddr 0] [.int x_2] (97, I, J, R) _
      refine az_E.sn 2 (pc' := 19) (L' := [.ref 32, .ref 26, .int v2, .int v3, .ref 33, .int v5, .int x_2, .retAddr 0]) (S' := [.int x_2]) (σ' := (97, I, J, R)) rfl ?_
      refine az_E.br (c := x_2 < 0) (tt := 95) (ff := 22) (L' := [.ref 32, .ref 26, .int v2, .int v3, .ref 33, .int v5, .int x_2, .retAddr 0]) (S' := []) (σ' := (97, I, J, R)) rfl (fun hc_4 => ?_) (fun hc_4 => ?_)
      · rw [if_pos hc_4] at h
        refine az_E.sn 2 (pc' := 3) (L' := [.ref 32, .ref 26, .int v2, .int v3, .ref 33, .int (v5 + (1 : Int32)), .int x_2, .retAddr 0]) (S' := []) (σ' := (97, I, J, R)) rfl ?_
        have h := Option.some.inj h
        subst h
        exact az_E.forget (L := [.ref 32, .ref 26, .int v2, .int v3, .ref 33, .int (v5 + (1 : Int32)), .retAddr 0, .retAddr 0]) ⟨rfl, rfl, rfl, rfl, rfl, rfl, trivial, trivial, trivial⟩ hQ
      · rw [if_neg hc_4] at h
        refine az_E.sn 2 (pc' := 26) (L' := [.ref 32, .ref 26, .int v2, .int v3, .ref 33, .int v5, .int x_2, .retAddr 0]) (S' := [.int x_2, .ref 33]) (σ' := (97, I, J, R)) rfl ?_
        by_cases hc_5 : x_2 < 0 ∨ 144 ≤ x_2.toNatClampNeg
        · rw [if_pos hc_5] at h; cases h
        · rw [if_neg hc_5] at h
          refine az_E.oi (o := az_ai az_F ex (97, I, J, R) 33 x_2) (pc' := 27) (L' := [.ref 32, .ref 26, .int v2, .int v3, .ref 33, .int v5, .int x_2, .retAddr 0]) (S' := []) (σ' := (97, I, J, R)) (x := (I 33 x_2.toNatClampNeg)) rfl (if_neg hc_5) ?_
          refine az_E.sn 2 (pc' := 30) (L' := [.ref 32, .ref 26, .int v2, .int v3, .ref 33, .int v5, .int x_2, .retAddr 0]) (S' := [.int v2, .ref 33, .int (I 33 x_2.toNatClampNeg)]) (σ' := (97, I, J, R)) rfl ?_
          by_cases hc_6 : v2 < 0 ∨ 144 ≤ v2.toNatClampNeg
          · rw [if_pos hc_6] at h; cases h
          · rw [if_neg hc_6] at h
            refine az_E.oi (o := az_ai az_F ex (97, I, J, R) 33 v2) (pc' := 31) (L' := [.ref 32, .ref 26, .int v2, .int v3, .ref 33, .int v5, .int x_2, .retAddr 0]) (S' := [.int (I 33 x_2.toNatClampNeg)]) (σ' := (97, I, J, R)) (x := (I 33 v2.toNatClampNeg)) rfl (if_neg hc_6) ?_
            refine az_E.br (c := (I 33 x_2.toNatClampNeg) ≤ (I 33 v2.toNatClampNeg)) (tt := 95) (ff := 34) (L' := [.ref 32, .ref 26, .int v2, .int v3, .ref 33, .int v5, .int x_2, .retAddr 0]) (S' := []) (σ' := (97, I, J, R)) rfl (fun hc_7 => ?_) (fun hc_7 => ?_)
            · rw [if_pos hc_7] at h
              refine az_E.sn 2 (pc' := 3) (L' := [.ref 32, .ref 26, .int v2, .int v3, .ref 33, .int (v5 + (1 : Int32)), .int x_2, .retAddr 0]) (S' := []) (σ' := (97, I, J, R)) rfl ?_
              have h := Option.some.inj h
              subst h
              exact az_E.forget (L := [.ref 32, .ref 26, .int v2, .int v3, .ref 33, .int (v5 + (1 : Int32)), .retAddr 0, .retAddr 0]) ⟨rfl, rfl, rfl, rfl, rfl, rfl, trivial, trivial, trivial⟩ hQ
            · rw [if_neg hc_7] at h
              refine az_E.sn 1 (pc' := 35) (L' := [.ref 32, .ref 26, .int v2, .int v3, .ref 33, .int v5, .int x_2, .retAddr 0]) (S' := [.int v3]) (σ' := (97, I, J, R)) rfl ?_
              refine az_E.br (c := v3 = 0) (tt := 48) (ff := 38) (L' := [.ref 32, .ref 26, .int v2, .int v3, .ref 33, .int v5, .int x_2, .retAddr 0]) (S' := []) (σ' := (97, I, J, R)) rfl (fun hc_8 => ?_) (fun hc_8 => ?_)
              · rw [if_pos hc_8] at h
                refine az_E.sn 3 (pc' := 52) (L' := [.ref 32, .ref 26, .int v2, .int v3, .ref 33, .int v5, .int x_2, .retAddr 0]) (S' := [.int x_2, .int v2, .ref 26]) (σ' := (97, I, J, R)) rfl ?_
                refine az_E.call (d := 0) (k' := 52) (vs := [.ref 26, .int v2, .int x_2]) (pc' := 55) (S' := []) rfl ?_ (fun _ _ hq => hq)
                show az_E az_F ex 0 52 0 [.ref 26, .int v2, .int x_2] [] (97, I, J, R) _
                refine az_E.sn 1 (pc' := 1) (L' := [.ref 26, .int v2, .int x_2]) (S' := [.ref 26]) (σ' := (97, I, J, R)) rfl ?_
                refine az_E.ov (pc' := 4) (L' := [.ref 26, .int v2, .int x_2]) (S' := []) (σ' := (97, I, J, R)) (x := .ref 5) rfl (congrArg (fun z => some (va_rf z)) hR_26_3) ?_
                refine az_E.sn 4 (pc' := 17) (L' := [.ref 26, .int v2, .int x_2]) (S' := [.ref 26, .ref (26 + 1)]) (σ' := (97, I, J, R)) rfl ?_
                refine az_E.ov (pc' := 20) (L' := [.ref 26, .int v2, .int x_2]) (S' := [.ref (26 + 1)]) (σ' := (97, I, J, R)) (x := .ref 5) rfl (congrArg (fun z => some (va_rf z)) hR_26_3) ?_
                refine az_E.sn 1 (pc' := 21) (L' := [.ref 26, .int v2, .int x_2]) (S' := [.int v2, .ref 5, .ref (26 + 1)]) (σ' := (97, I, J, R)) rfl ?_
                by_cases hc_9 : v2 < 0 ∨ 144 ≤ v2.toNatClampNeg
                · rw [if_pos hc_9] at h; cases h
                · rw [if_neg hc_9] at h
                  refine az_E.oi (o := az_ai az_F ex (97, I, J, R) 5 v2) (pc' := 22) (L' := [.ref 26, .int v2, .int x_2]) (S' := [.ref (26 + 1)]) (σ' := (97, I, J, R)) (x := (I 5 v2.toNatClampNeg)) rfl (if_neg hc_9) ?_
                  refine az_E.sn 3 (pc' := 26) (L' := [.ref 26, .int v2, .int x_2]) (S' := [.ref 26, .int ((I 5 v2.toNatClampNeg) * (10 : Int32)), .ref (26 + 1)]) (σ' := (97, I, J, R)) rfl ?_
                  refine az_E.ov (pc' := 29) (L' := [.ref 26, .int v2, .int x_2]) (S' := [.int ((I 5 v2.toNatClampNeg) * (10 : Int32)), .ref (26 + 1)]) (σ' := (97, I, J, R)) (x := .ref 5) rfl (congrArg (fun z => some (va_rf z)) hR_26_3) ?_
                  refine az_E.sn 1 (pc' := 30) (L' := [.ref 26, .int v2, .int x_2]) (S' := [.int x_2, .ref 5, .int ((I 5 v2.toNatClampNeg) * (10 : Int32)), .ref (26 + 1)]) (σ' := (97, I, J, R)) rfl ?_
                  by_cases hc_10 : x_2 < 0 ∨ 144 ≤ x_2.toNatClampNeg
                  · rw [if_pos hc_10] at h; cases h
                  · rw [if_neg hc_10] at h
                    refine az_E.oi (o := az_ai az_F ex (97, I, J, R) 5 x_2) (pc' := 31) (L' := [.ref 26, .int v2, .int x_2]) (S' := [.int ((I 5 v2.toNatClampNeg) * (10 : Int32)), .ref (26 + 1)]) (σ' := (97, I, J, R)) (x := (I 5 x_2.toNatClampNeg)) rfl (if_neg hc_10) ?_
                    refine az_E.sn 1 (pc' := 32) (L' := [.ref 26, .int v2, .int x_2]) (S' := [.int (((I 5 v2.toNatClampNeg) * (10 : Int32)) + (I 5 x_2.toNatClampNeg)), .ref (26 + 1)]) (σ' := (97, I, J, R)) rfl ?_
                    by_cases hc_11 : (((I 5 v2.toNatClampNeg) * (10 : Int32)) + (I 5 x_2.toNatClampNeg)) < 0 ∨ 100 ≤ (((I 5 v2.toNatClampNeg) * (10 : Int32)) + (I 5 x_2.toNatClampNeg)).toNatClampNeg
                    · rw [if_pos hc_11] at h; cases h
                    · rw [if_neg hc_11] at h
                      refine az_E.oi (o := az_ai az_F ex (97, I, J, R) (26 + 1) (((I 5 v2.toNatClampNeg) * (10 : Int32)) + (I 5 x_2.toNatClampNeg))) (pc' := 33) (L' := [.ref 26, .int v2, .int x_2]) (S' := []) (σ' := (97, I, J, R)) (x := (I (26 + 1) (((I 5 v2.toNatClampNeg) * (10 : Int32)) + (I 5 x_2.toNatClampNeg)).toNatClampNeg)) rfl (if_neg hc_11) ?_
                      refine az_E.ret (v := some (.int (I (26 + 1) (((I 5 v2.toNatClampNeg) * (10 : Int32)) + (I 5 x_2.toNatClampNeg)).toNatClampNeg))) (σ' := (97, I, J, R)) rfl ?_
                      show az_E az_F ex 1 18 55 [.ref 32, .ref 26, .int v2, .int v3, .ref 33, .int v5, .int x_2, .retAddr 0] [.int (I (26 + 1) (((I 5 v2.toNatClampNeg) * (10 : Int32)) + (I 5 x_2.toNatClampNeg)).toNatClampNeg)] (97, I, J, R) _
                      exact az_E.forget (L := [.ref 32, .ref 26, .int v2, .int v3, .ref 33, .int v5, .int x_2, .retAddr 0]) ⟨rfl, rfl, rfl, rfl, rfl, rfl, rfl, trivial, trivial⟩ (re_Fi_relax_55_26_33_5 (I := I) (J := J) (R := R) hR_26_3 h hQ)
              · rw [if_neg hc_8] at h
                refine az_E.sn 3 (pc' := 42) (L' := [.ref 32, .ref 26, .int v2, .int v3, .ref 33, .int v5, .int x_2, .retAddr 0]) (S' := [.int v2, .int x_2, .ref 26]) (σ' := (97, I, J, R)) rfl ?_
                refine az_E.call (d := 0) (k' := 52) (vs := [.ref 26, .int x_2, .int v2]) (pc' := 45) (S' := []) rfl ?_ (fun _ _ hq => hq)
                show az_E az_F ex 0 52 0 [.ref 26, .int x_2, .int v2] [] (97, I, J, R) _
                refine az_E.sn 1 (pc' := 1) (L' := [.ref 26, .int x_2, .int v2]) (S' := [.ref 26]) (σ' := (97, I, J, R)) rfl ?_
                refine az_E.ov (pc' := 4) (L' := [.ref 26, .int x_2, .int v2]) (S' := []) (σ' := (97, I, J, R)) (x := .ref 5) rfl (congrArg (fun z => some (va_rf z)) hR_26_3) ?_
                refine az_E.sn 4 (pc' := 17) (L' := [.ref 26, .int x_2, .int v2]) (S' := [.ref 26, .ref (26 + 1)]) (σ' := (97, I, J, R)) rfl ?_
                refine az_E.ov (pc' := 20) (L' := [.ref 26, .int x_2, .int v2]) (S' := [.ref (26 + 1)]) (σ' := (97, I, J, R)) (x := .ref 5) rfl (congrArg (fun z => some (va_rf z)) hR_26_3) ?_
                refine az_E.sn 1 (pc' := 21) (L' := [.ref 26, .int x_2, .int v2]) (S' := [.int x_2, .ref 5, .ref (26 + 1)]) (σ' := (97, I, J, R)) rfl ?_
                by_cases hc_20 : x_2 < 0 ∨ 144 ≤ x_2.toNatClampNeg
                · rw [if_pos hc_20] at h; cases h
                · rw [if_neg hc_20] at h
                  refine az_E.oi (o := az_ai az_F ex (97, I, J, R) 5 x_2) (pc' := 22) (L' := [.ref 26, .int x_2, .int v2]) (S' := [.ref (26 + 1)]) (σ' := (97, I, J, R)) (x := (I 5 x_2.toNatClampNeg)) rfl (if_neg hc_20) ?_
                  refine az_E.sn 3 (pc' := 26) (L' := [.ref 26, .int x_2, .int v2]) (S' := [.ref 26, .int ((I 5 x_2.toNatClampNeg) * (10 : Int32)), .ref (26 + 1)]) (σ' := (97, I, J, R)) rfl ?_
                  refine az_E.ov (pc' := 29) (L' := [.ref 26, .int x_2, .int v2]) (S' := [.int ((I 5 x_2.toNatClampNeg) * (10 : Int32)), .ref (26 + 1)]) (σ' := (97, I, J, R)) (x := .ref 5) rfl (congrArg (fun z => some (va_rf z)) hR_26_3) ?_
                  refine az_E.sn 1 (pc' := 30) (L' := [.ref 26, .int x_2, .int v2]) (S' := [.int v2, .ref 5, .int ((I 5 x_2.toNatClampNeg) * (10 : Int32)), .ref (26 + 1)]) (σ' := (97, I, J, R)) rfl ?_
                  by_cases hc_21 : v2 < 0 ∨ 144 ≤ v2.toNatClampNeg
                  · rw [if_pos hc_21] at h; cases h
                  · rw [if_neg hc_21] at h
                    refine az_E.oi (o := az_ai az_F ex (97, I, J, R) 5 v2) (pc' := 31) (L' := [.ref 26, .int x_2, .int v2]) (S' := [.int ((I 5 x_2.toNatClampNeg) * (10 : Int32)), .ref (26 + 1)]) (σ' := (97, I, J, R)) (x := (I 5 v2.toNatClampNeg)) rfl (if_neg hc_21) ?_
                    refine az_E.sn 1 (pc' := 32) (L' := [.ref 26, .int x_2, .int v2]) (S' := [.int (((I 5 x_2.toNatClampNeg) * (10 : Int32)) + (I 5 v2.toNatClampNeg)), .ref (26 + 1)]) (σ' := (97, I, J, R)) rfl ?_
                    by_cases hc_22 : (((I 5 x_2.toNatClampNeg) * (10 : Int32)) + (I 5 v2.toNatClampNeg)) < 0 ∨ 100 ≤ (((I 5 x_2.toNatClampNeg) * (10 : Int32)) + (I 5 v2.toNatClampNeg)).toNatClampNeg
                    · rw [if_pos hc_22] at h; cases h
                    · rw [if_neg hc_22] at h
                      refine az_E.oi (o := az_ai az_F ex (97, I, J, R) (26 + 1) (((I 5 x_2.toNatClampNeg) * (10 : Int32)) + (I 5 v2.toNatClampNeg))) (pc' := 33) (L' := [.ref 26, .int x_2, .int v2]) (S' := []) (σ' := (97, I, J, R)) (x := (I (26 + 1) (((I 5 x_2.toNatClampNeg) * (10 : Int32)) + (I 5 v2.toNatClampNeg)).toNatClampNeg)) rfl (if_neg hc_22) ?_
                      refine az_E.ret (v := some (.int (I (26 + 1) (((I 5 x_2.toNatClampNeg) * (10 : Int32)) + (I 5 v2.toNatClampNeg)).toNatClampNeg))) (σ' := (97, I, J, R)) rfl ?_
                      show az_E az_F ex 1 18 45 [.ref 32, .ref 26, .int v2, .int v3, .ref 33, .int v5, .int x_2, .retAddr 0] [.int (I (26 + 1) (((I 5 x_2.toNatClampNeg) * (10 : Int32)) + (I 5 v2.toNatClampNeg)).toNatClampNeg)] (97, I, J, R) _
                      refine az_E.sn 1 (pc' := 55) (L' := [.ref 32, .ref 26, .int v2, .int v3, .ref 33, .int v5, .int x_2, .retAddr 0]) (S' := [.int (I (26 + 1) (((I 5 x_2.toNatClampNeg) * (10 : Int32)) + (I 5 v2.toNatClampNeg)).toNatClampNeg)]) (σ' := (97, I, J, R)) rfl ?_
                      exact az_E.forget (L := [.ref 32, .ref 26, .int v2, .int v3, .ref 33, .int v5, .int x_2, .retAddr 0]) ⟨rfl, rfl, rfl, rfl, rfl, rfl, rfl, trivial, trivial⟩ (re_Fi_relax_55_26_33_5 (I := I) (J := J) (R := R) hR_26_3 h hQ)
set_option maxRecDepth 100000 in
set_option maxHeartbeats 4000000 in
theorem re_Fi_relax_3_26_33_5 {ex : az_X} {I : Nat → Nat → Int32} {J : Nat → Nat → Int64} {R : Nat → Nat → Option Nat} {v2 : Int32} {v3 : Int32} {v5 : Int32} (hR_26_3 : R 26 3 = some 5) {x : (Nat → Nat → Int32)} (h : rs_Fi_relax_3 26 33 I v2 v3 v5 = some x) {Q : Option Value → az_S → Prop} (hQ : Q none (97, x, J, R)) : az_E az_F ex 1 18 3 [.ref 32, .ref 26, .int v2, .int v3, .ref 33, .int v5, .retAddr 0, .retAddr 0] [] (97, I, J, R) Q := by
  unfold rs_Fi_relax_3 at h
  refine az_lp_E (G := fun s => az_E az_F ex 1 18 3 [.ref 32, .ref 26, .int v2, .int v3, .ref 33, .int s.1, .retAddr 0, .retAddr 0] [] (97, s.2, J, R) Q) (H := fun x => Q none (97, x, J, R)) (fun s o hb ho => ?_) _ _ _ h hQ
  exact re_Fi_relax_3_b_26_33_5 hR_26_3 hb ho
set_option maxRecDepth 100000 in
set_option maxHeartbeats 4000000 in
theorem re_Fi_relax_26_33_5 {ex : az_X} {I : Nat → Nat → Int32} {J : Nat → Nat → Int64} {R : Nat → Nat → Option Nat} {a2 : Int32} {a3 : Int32} (hR_26_3 : R 26 3 = some 5) {o : (Nat → Nat → Int32)} (h : rs_Fi_relax 26 33 I a2 a3 = some o) {Q : Option Value → az_S → Prop} (hQ : Q none (97, o, J, R)) : az_E az_F ex 1 18 0 [.ref 32, .ref 26, .int a2, .int a3, .ref 33, .retAddr 0, .retAddr 0, .retAddr 0] [] (97, I, J, R) Q := by
  unfold rs_Fi_relax at h
  refine az_E.sn 2 (pc' := 3) (L' := [.ref 32, .ref 26, .int a2, .int a3, .ref 33, .int (0 : Int32), .retAddr 0, .retAddr 0]) (S' := []) (σ' := (97, I, J, R)) rfl ?_
  exact az_E.forget (L := [.ref 32, .ref 26, .int a2, .int a3, .ref 33, .int (0 : Int32), .retAddr 0, .retAddr 0]) ⟨rfl, rfl, rfl, rfl, rfl, rfl, trivial, trivial, trivial⟩ (re_Fi_relax_3_26_33_5 (I := I) (J := J) (R := R) hR_26_3 h hQ)
set_option maxRecDepth 100000 in
set_option maxHeartbeats 4000000 in
theorem re_Fi_spread_149_26_33_5 {ex : az_X} {I : Nat → Nat → Int32} {J : Nat → Nat → Int64} {R : Nat → Nat → Option Nat} {v3 : Int32} {v4 : Int32} {v6 : Int32} {v7 : Int32} (hR_26_3 : R 26 3 = some 5) {x : ((Int32 × (Nat → Nat → Int32)) ⊕ ((Nat → Nat → Int32)))} (h : rs_Fi_spread_149 26 33 I v3 v4 v6 v7 = some x) {Q : Option Value → az_S → Prop} (hQ : Sum.elim (fun s => az_E az_F ex 2 17 40 [.ref 32, .ref 26, .retAddr 0, .int v3, .int v4, .ref 33, .int s.1, .retAddr 0, .retAddr 0, .retAddr 0, .retAddr 0] [] (97, s.2, J, R) Q) (fun x => Q none (97, x, J, R)) x) : az_E az_F ex 2 17 149 [.ref 32, .ref 26, .retAddr 0, .int v3, .int v4, .ref 33, .int v6, .int v7, .retAddr 0, .retAddr 0, .retAddr 0] [] (97, I, J, R) Q := by
  unfold rs_Fi_spread_149 at h
  refine az_E.sn 4 (pc' := 156) (L' := [.ref 32, .ref 26, .retAddr 0, .int v3, .int v4, .ref 33, .int v6, .int v7, .retAddr 0, .retAddr 0, .retAddr 0]) (S' := [.int (-1 : Int32), .int v7, .ref 36]) (σ' := (97, I, J, R)) rfl ?_
  by_cases hc_9 : v7 < 0 ∨ 100 ≤ v7.toNatClampNeg
  · rw [if_pos hc_9] at h; cases h
  · rw [if_neg hc_9] at h
    refine az_E.o (o := az_si az_F (97, I, J, R) 36 v7 (-1 : Int32)) (pc' := 157) (L' := [.ref 32, .ref 26, .retAddr 0, .int v3, .int v4, .ref 33, .int v6, .int v7, .retAddr 0, .retAddr 0, .retAddr 0]) (S' := []) (x := (97, (az_u I 36 v7.toNatClampNeg (-1 : Int32)), J, R)) rfl (if_neg hc_9) ?_
    refine az_E.sn 2 (pc' := 40) (L' := [.ref 32, .ref 26, .retAddr 0, .int v3, .int v4, .ref 33, .int (v6 + (1 : Int32)), .int v7, .retAddr 0, .retAddr 0, .retAddr 0]) (S' := []) (σ' := (97, (az_u I 36 v7.toNatClampNeg (-1 : Int32)), J, R)) rfl ?_
    have h := Option.some.inj h
    subst h
    exact az_E.forget (L := [.ref 32, .ref 26, .retAddr 0, .int v3, .int v4, .ref 33, .int (v6 + (1 : Int32)), .retAddr 0, .retAddr 0, .retAddr 0, .retAddr 0]) ⟨rfl, rfl, trivial, rfl, rfl, rfl, rfl, trivial, trivial, trivial, trivial, trivial⟩ hQ
set_option maxRecDepth 100000 in
set_option maxHeartbeats 4000000 in
theorem re_Fi_spread_74_b_26_33_5 {ex : az_X} {I : Nat → Nat → Int32} {J : Nat → Nat → Int64} {R : Nat → Nat → Option Nat} {v3 : Int32} {v4 : Int32} {v6 : Int32} {v7 : Int32} {v8 : Int32} {v9 : Int32} (hR_26_3 : R 26 3 = some 5) {x : ((Int32 × Int32 × (Nat → Nat → Int32)) ⊕ (((Int32 × (Nat → Nat → Int32)) ⊕ ((Nat → Nat → Int32)))))} (h : rs_Fi_spread_74_b 26 33 v3 v4 v6 v7 v8 v9 I = some x) {Q : Option Value → az_S → Prop} (hQ : Sum.elim (fun s => az_E az_F ex 2 17 74 [.ref 32, .ref 26, .retAddr 0, .int v3, .int v4, .ref 33, .int v6, .int v7, .int s.1, .int s.2.1, .retAddr 0] [] (97, s.2.2, J, R) Q) (fun x => Sum.elim (fun s => az_E az_F ex 2 17 40 [.ref 32, .ref 26, .retAddr 0, .int v3, .int v4, .ref 33, .int s.1, .retAddr 0, .retAddr 0, .retAddr 0, .retAddr 0] [] (97, s.2, J, R) Q) (fun x => Q none (97, x, J, R)) x) x) : az_E az_F ex 2 17 74 [.ref 32, .ref 26, .retAddr 0, .int v3, .int v4, .ref 33, .int v6, .int v7, .int v8, .int v9, .retAddr 0] [] (97, I, J, R) Q := by
  unfold rs_Fi_spread_74_b at h
  refine az_E.sn 2 (pc' := 79) (L' := [.ref 32, .ref 26, .retAddr 0, .int v3, .int v4, .ref 33, .int v6, .int v7, .int v8, .int v9, .retAddr 0]) (S' := [.int (577 : Int32), .int v9]) (σ' := (97, I, J, R)) rfl ?_
  refine az_E.br (c := (577 : Int32) ≤ v9) (tt := 149) (ff := 82) (L' := [.ref 32, .ref 26, .retAddr 0, .int v3, .int v4, .ref 33, .int v6, .int v7, .int v8, .int v9, .retAddr 0]) (S' := []) (σ' := (97, I, J, R)) rfl (fun hc_8 => ?_) (fun hc_8 => ?_)
  · rw [if_pos hc_8] at h
    obtain ⟨x, hx, rfl⟩ := Option.map_eq_some_iff.mp h
    exact az_E.forget (L := [.ref 32, .ref 26, .retAddr 0, .int v3, .int v4, .ref 33, .int v6, .int v7, .retAddr 0, .retAddr 0, .retAddr 0]) ⟨rfl, rfl, trivial, rfl, rfl, rfl, rfl, rfl, trivial, trivial, trivial, trivial⟩ (re_Fi_spread_149_26_33_5 (I := I) (J := J) (R := R) hR_26_3 hx hQ)
  · rw [if_neg hc_8] at h
    refine az_E.sn 1 (pc' := 84) (L' := [.ref 32, .ref 26, .retAddr 0, .int v3, .int v4, .ref 33, .int v6, .int v7, .int v8, .int v9, .retAddr 0]) (S' := [.int v8]) (σ' := (97, I, J, R)) rfl ?_
    refine az_E.br (c := v8 < 0) (tt := 149) (ff := 87) (L' := [.ref 32, .ref 26, .retAddr 0, .int v3, .int v4, .ref 33, .int v6, .int v7, .int v8, .int v9, .retAddr 0]) (S' := []) (σ' := (97, I, J, R)) rfl (fun hc_10 => ?_) (fun hc_10 => ?_)
    · rw [if_pos hc_10] at h
      obtain ⟨x, hx, rfl⟩ := Option.map_eq_some_iff.mp h
      exact az_E.forget (L := [.ref 32, .ref 26, .retAddr 0, .int v3, .int v4, .ref 33, .int v6, .int v7, .retAddr 0, .retAddr 0, .retAddr 0]) ⟨rfl, rfl, trivial, rfl, rfl, rfl, rfl, rfl, trivial, trivial, trivial, trivial⟩ (re_Fi_spread_149_26_33_5 (I := I) (J := J) (R := R) hR_26_3 hx hQ)
    · rw [if_neg hc_10] at h
      refine az_E.sn 3 (pc' := 93) (L' := [.ref 32, .ref 26, .retAddr 0, .int v3, .int v4, .ref 33, .int v6, .int v7, .int v8, .int v9, .retAddr 0]) (S' := [.int v8, .ref 38]) (σ' := (97, I, J, R)) rfl ?_
      by_cases hc_11 : v8 < 0 ∨ 577 ≤ v8.toNatClampNeg
      · rw [if_pos hc_11] at h; cases h
      · rw [if_neg hc_11] at h
        refine az_E.oi (o := az_ai az_F ex (97, I, J, R) 38 v8) (pc' := 94) (L' := [.ref 32, .ref 26, .retAddr 0, .int v3, .int v4, .ref 33, .int v6, .int v7, .int v8, .int v9, .retAddr 0]) (S' := []) (σ' := (97, I, J, R)) (x := (I 38 v8.toNatClampNeg)) rfl (if_neg hc_11) ?_
        refine az_E.sn 4 (pc' := 102) (L' := [.ref 32, .ref 26, .retAddr 0, .int v3, .int v4, .ref 33, .int v6, .int v7, .int v8, .int v9, .int (I 38 v8.toNatClampNeg)]) (S' := [.int v8, .ref 37]) (σ' := (97, I, J, R)) rfl ?_
        by_cases hc_12 : v8 < 0 ∨ 577 ≤ v8.toNatClampNeg
        · rw [if_pos hc_12] at h; cases h
        · rw [if_neg hc_12] at h
          refine az_E.oi (o := az_ai az_F ex (97, I, J, R) 37 v8) (pc' := 103) (L' := [.ref 32, .ref 26, .retAddr 0, .int v3, .int v4, .ref 33, .int v6, .int v7, .int v8, .int v9, .int (I 38 v8.toNatClampNeg)]) (S' := []) (σ' := (97, I, J, R)) (x := (I 37 v8.toNatClampNeg)) rfl (if_neg hc_12) ?_
          refine az_E.sn 9 (pc' := 119) (L' := [.ref 32, .ref 26, .retAddr 0, .int v3, .int v4, .ref 33, .int v6, .int v7, .int (I 37 v8.toNatClampNeg), .int v9, .int (I 38 v8.toNatClampNeg)]) (S' := [.int (I 38 v8.toNatClampNeg), .ref 33]) (σ' := (97, (az_u I 32 8 ((I 32 8) - (1 : Int32))), J, R)) rfl ?_
          by_cases hc_13 : (I 38 v8.toNatClampNeg) < 0 ∨ 144 ≤ (I 38 v8.toNatClampNeg).toNatClampNeg
          · rw [if_pos hc_13] at h; cases h
          · rw [if_neg hc_13] at h
            refine az_E.oi (o := az_ai az_F ex (97, (az_u I 32 8 ((I 32 8) - (1 : Int32))), J, R) 33 (I 38 v8.toNatClampNeg)) (pc' := 120) (L' := [.ref 32, .ref 26, .retAddr 0, .int v3, .int v4, .ref 33, .int v6, .int v7, .int (I 37 v8.toNatClampNeg), .int v9, .int (I 38 v8.toNatClampNeg)]) (S' := []) (σ' := (97, (az_u I 32 8 ((I 32 8) - (1 : Int32))), J, R)) (x := (I 33 (I 38 v8.toNatClampNeg).toNatClampNeg)) rfl (if_neg hc_13) ?_
            refine az_E.sn 1 (pc' := 122) (L' := [.ref 32, .ref 26, .retAddr 0, .int v3, .int v4, .ref 33, .int v6, .int v7, .int (I 37 v8.toNatClampNeg), .int v9, .int (I 38 v8.toNatClampNeg)]) (S' := [.int v6, .int (I 33 (I 38 v8.toNatClampNeg).toNatClampNeg)]) (σ' := (97, (az_u I 32 8 ((I 32 8) - (1 : Int32))), J, R)) rfl ?_
            refine az_E.br (c := (I 33 (I 38 v8.toNatClampNeg).toNatClampNeg) = v6) (tt := 125) (ff := 143) (L' := [.ref 32, .ref 26, .retAddr 0, .int v3, .int v4, .ref 33, .int v6, .int v7, .int (I 37 v8.toNatClampNeg), .int v9, .int (I 38 v8.toNatClampNeg)]) (S' := []) (σ' := (97, (az_u I 32 8 ((I 32 8) - (1 : Int32))), J, R)) rfl (fun hc_14 => ?_) (fun hc_14 => ?_)
            · rw [if_pos hc_14] at h
              refine az_E.sn 2 (pc' := 129) (L' := [.ref 32, .ref 26, .retAddr 0, .int v3, .int v4, .ref 33, .int v6, .int v7, .int (I 37 v8.toNatClampNeg), .int v9, .int (I 38 v8.toNatClampNeg)]) (S' := [.int v4, .int (I 38 v8.toNatClampNeg)]) (σ' := (97, (az_u I 32 8 ((I 32 8) - (1 : Int32))), J, R)) rfl ?_
              refine az_E.br (c := (I 38 v8.toNatClampNeg) = v4) (tt := 132) (ff := 133) (L' := [.ref 32, .ref 26, .retAddr 0, .int v3, .int v4, .ref 33, .int v6, .int v7, .int (I 37 v8.toNatClampNeg), .int v9, .int (I 38 v8.toNatClampNeg)]) (S' := []) (σ' := (97, (az_u I 32 8 ((I 32 8) - (1 : Int32))), J, R)) rfl (fun hc_15 => ?_) (fun hc_15 => ?_)
              · rw [if_pos hc_15] at h
                have h := Option.some.inj h
                subst h
                exact az_E.ret (v := none) (σ' := (97, (az_u I 32 8 ((I 32 8) - (1 : Int32))), J, R)) rfl hQ
              · rw [if_neg hc_15] at h
                refine az_E.sn 5 (pc' := 140) (L' := [.ref 32, .ref 26, .retAddr 0, .int v3, .int v4, .ref 33, .int v6, .int v7, .int (I 37 v8.toNatClampNeg), .int v9, .int (I 38 v8.toNatClampNeg)]) (S' := [.ref 33, .int v3, .int (I 38 v8.toNatClampNeg), .ref 26, .ref 32]) (σ' := (97, (az_u I 32 8 ((I 32 8) - (1 : Int32))), J, R)) rfl ?_
                cases hx_17 : rs_Fi_relax 26 33 (az_u I 32 8 ((I 32 8) - (1 : Int32))) (I 38 v8.toNatClampNeg) v3 with
                | none => rw [hx_17] at h; cases h
                | some I_16 =>
                  rw [hx_17] at h
                  dsimp only at h
                  refine az_E.call (d := 1) (k' := 18) (vs := [.ref 32, .ref 26, .int (I 38 v8.toNatClampNeg), .int v3, .ref 33]) (pc' := 143) (S' := []) (Q1 := fun v s => v = none ∧ s = (97, I_16, J, R)) rfl (az_E.deep (by omega) (re_Fi_relax_26_33_5 (J := J) (R := R) hR_26_3 hx_17 ⟨rfl, rfl⟩)) (fun v s hq => ?_)
                  obtain ⟨rfl, rfl⟩ := hq
                  show az_E az_F ex 2 17 143 [.ref 32, .ref 26, .retAddr 0, .int v3, .int v4, .ref 33, .int v6, .int v7, .int (I 37 v8.toNatClampNeg), .int v9, .int (I 38 v8.toNatClampNeg)] [] (97, I_16, J, R) _
                  refine az_E.sn 2 (pc' := 74) (L' := [.ref 32, .ref 26, .retAddr 0, .int v3, .int v4, .ref 33, .int v6, .int v7, .int (I 37 v8.toNatClampNeg), .int (v9 + (1 : Int32)), .int (I 38 v8.toNatClampNeg)]) (S' := []) (σ' := (97, I_16, J, R)) rfl ?_
                  have h := Option.some.inj h
                  subst h
                  exact az_E.forget (L := [.ref 32, .ref 26, .retAddr 0, .int v3, .int v4, .ref 33, .int v6, .int v7, .int (I 37 v8.toNatClampNeg), .int (v9 + (1 : Int32)), .retAddr 0]) ⟨rfl, rfl, trivial, rfl, rfl, rfl, rfl, rfl, rfl, rfl, trivial, trivial⟩ hQ
            · rw [if_neg hc_14] at h
              refine az_E.sn 2 (pc' := 74) (L' := [.ref 32, .ref 26, .retAddr 0, .int v3, .int v4, .ref 33, .int v6, .int v7, .int (I 37 v8.toNatClampNeg), .int (v9 + (1 : Int32)), .int (I 38 v8.toNatClampNeg)]) (S' := []) (σ' := (97, (az_u I 32 8 ((I 32 8) - (1 : Int32))), J, R)) rfl ?_
              have h := Option.some.inj h
              subst h
              exact az_E.forget (L := [.ref 32, .ref 26, .retAddr 0, .int v3, .int v4, .ref 33, .int v6, .int v7, .int (I 37 v8.toNatClampNeg), .int (v9 + (1 : Int32)), .retAddr 0]) ⟨rfl, rfl, trivial, rfl, rfl, rfl, rfl, rfl, rfl, rfl, trivial, trivial⟩ hQ
set_option maxRecDepth 100000 in
set_option maxHeartbeats 4000000 in
theorem re_Fi_spread_74_26_33_5 {ex : az_X} {I : Nat → Nat → Int32} {J : Nat → Nat → Int64} {R : Nat → Nat → Option Nat} {v3 : Int32} {v4 : Int32} {v6 : Int32} {v7 : Int32} {v8 : Int32} {v9 : Int32} (hR_26_3 : R 26 3 = some 5) {x : ((Int32 × (Nat → Nat → Int32)) ⊕ ((Nat → Nat → Int32)))} (h : rs_Fi_spread_74 26 33 I v3 v4 v6 v7 v8 v9 = some x) {Q : Option Value → az_S → Prop} (hQ : Sum.elim (fun s => az_E az_F ex 2 17 40 [.ref 32, .ref 26, .retAddr 0, .int v3, .int v4, .ref 33, .int s.1, .retAddr 0, .retAddr 0, .retAddr 0, .retAddr 0] [] (97, s.2, J, R) Q) (fun x => Q none (97, x, J, R)) x) : az_E az_F ex 2 17 74 [.ref 32, .ref 26, .retAddr 0, .int v3, .int v4, .ref 33, .int v6, .int v7, .int v8, .int v9, .retAddr 0] [] (97, I, J, R) Q := by
  unfold rs_Fi_spread_74 at h
  refine az_lp_E (G := fun s => az_E az_F ex 2 17 74 [.ref 32, .ref 26, .retAddr 0, .int v3, .int v4, .ref 33, .int v6, .int v7, .int s.1, .int s.2.1, .retAddr 0] [] (97, s.2.2, J, R) Q) (H := fun x => Sum.elim (fun s => az_E az_F ex 2 17 40 [.ref 32, .ref 26, .retAddr 0, .int v3, .int v4, .ref 33, .int s.1, .retAddr 0, .retAddr 0, .retAddr 0, .retAddr 0] [] (97, s.2, J, R) Q) (fun x => Q none (97, x, J, R)) x) (fun s o hb ho => ?_) _ _ _ h hQ
  exact re_Fi_spread_74_b_26_33_5 hR_26_3 hb ho
set_option maxRecDepth 100000 in
set_option maxHeartbeats 4000000 in
theorem re_Fi_spread_40_b_26_33_5 {ex : az_X} {I : Nat → Nat → Int32} {J : Nat → Nat → Int64} {R : Nat → Nat → Option Nat} {v3 : Int32} {v4 : Int32} {v6 : Int32} (hR_26_3 : R 26 3 = some 5) {x : ((Int32 × (Nat → Nat → Int32)) ⊕ ((Nat → Nat → Int32)))} (h : rs_Fi_spread_40_b 26 33 v3 v4 v6 I = some x) {Q : Option Value → az_S → Prop} (hQ : Sum.elim (fun s => az_E az_F ex 2 17 40 [.ref 32, .ref 26, .retAddr 0, .int v3, .int v4, .ref 33, .int s.1, .retAddr 0, .retAddr 0, .retAddr 0, .retAddr 0] [] (97, s.2, J, R) Q) (fun x => Q none (97, x, J, R)) x) : az_E az_F ex 2 17 40 [.ref 32, .ref 26, .retAddr 0, .int v3, .int v4, .ref 33, .int v6, .retAddr 0, .retAddr 0, .retAddr 0, .retAddr 0] [] (97, I, J, R) Q := by
  unfold rs_Fi_spread_40_b at h
  refine az_E.sn 2 (pc' := 45) (L' := [.ref 32, .ref 26, .retAddr 0, .int v3, .int v4, .ref 33, .int v6, .retAddr 0, .retAddr 0, .retAddr 0, .retAddr 0]) (S' := [.int (14256 : Int32), .int v6]) (σ' := (97, I, J, R)) rfl ?_
  refine az_E.br (c := (14256 : Int32) ≤ v6) (tt := 163) (ff := 48) (L' := [.ref 32, .ref 26, .retAddr 0, .int v3, .int v4, .ref 33, .int v6, .retAddr 0, .retAddr 0, .retAddr 0, .retAddr 0]) (S' := []) (σ' := (97, I, J, R)) rfl (fun hc_4 => ?_) (fun hc_4 => ?_)
  · rw [if_pos hc_4] at h
    have h := Option.some.inj h
    subst h
    exact az_E.ret (v := none) (σ' := (97, I, J, R)) rfl hQ
  · rw [if_neg hc_4] at h
    refine az_E.sn 2 (pc' := 52) (L' := [.ref 32, .ref 26, .retAddr 0, .int v3, .int v4, .ref 33, .int v6, .retAddr 0, .retAddr 0, .retAddr 0, .retAddr 0]) (S' := [.int (I 32 8)]) (σ' := (97, I, J, R)) rfl ?_
    refine az_E.br (c := (I 32 8) ≤ 0) (tt := 163) (ff := 55) (L' := [.ref 32, .ref 26, .retAddr 0, .int v3, .int v4, .ref 33, .int v6, .retAddr 0, .retAddr 0, .retAddr 0, .retAddr 0]) (S' := []) (σ' := (97, I, J, R)) rfl (fun hc_5 => ?_) (fun hc_5 => ?_)
    · rw [if_pos hc_5] at h
      have h := Option.some.inj h
      subst h
      exact az_E.ret (v := none) (σ' := (97, I, J, R)) rfl hQ
    · rw [if_neg hc_5] at h
      refine az_E.sn 2 (pc' := 59) (L' := [.ref 32, .ref 26, .retAddr 0, .int v3, .int v4, .ref 33, .int v6, .retAddr 0, .retAddr 0, .retAddr 0, .retAddr 0]) (S' := [.int (100 : Int32), .int v6]) (σ' := (97, I, J, R)) rfl ?_
      have hd_6 : ¬ ((100 : Int32) = 0) := by decide
      refine az_E.dv (c := (100 : Int32) = 0) (pc' := 60) (L' := [.ref 32, .ref 26, .retAddr 0, .int v3, .int v4, .ref 33, .int v6, .retAddr 0, .retAddr 0, .retAddr 0, .retAddr 0]) (S' := [.int (v6 - v6 / (100 : Int32) * (100 : Int32))]) (σ' := (97, I, J, R)) rfl hd_6 ?_
      refine az_E.sn 4 (pc' := 68) (L' := [.ref 32, .ref 26, .retAddr 0, .int v3, .int v4, .ref 33, .int v6, .int (v6 - v6 / (100 : Int32) * (100 : Int32)), .retAddr 0, .retAddr 0, .retAddr 0]) (S' := [.int (v6 - v6 / (100 : Int32) * (100 : Int32)), .ref 36]) (σ' := (97, I, J, R)) rfl ?_
      by_cases hc_7 : (v6 - v6 / (100 : Int32) * (100 : Int32)) < 0 ∨ 100 ≤ (v6 - v6 / (100 : Int32) * (100 : Int32)).toNatClampNeg
      · rw [if_pos hc_7] at h; cases h
      · rw [if_neg hc_7] at h
        refine az_E.oi (o := az_ai az_F ex (97, I, J, R) 36 (v6 - v6 / (100 : Int32) * (100 : Int32))) (pc' := 69) (L' := [.ref 32, .ref 26, .retAddr 0, .int v3, .int v4, .ref 33, .int v6, .int (v6 - v6 / (100 : Int32) * (100 : Int32)), .retAddr 0, .retAddr 0, .retAddr 0]) (S' := []) (σ' := (97, I, J, R)) (x := (I 36 (v6 - v6 / (100 : Int32) * (100 : Int32)).toNatClampNeg)) rfl (if_neg hc_7) ?_
        refine az_E.sn 3 (pc' := 74) (L' := [.ref 32, .ref 26, .retAddr 0, .int v3, .int v4, .ref 33, .int v6, .int (v6 - v6 / (100 : Int32) * (100 : Int32)), .int (I 36 (v6 - v6 / (100 : Int32) * (100 : Int32)).toNatClampNeg), .int (0 : Int32), .retAddr 0]) (S' := []) (σ' := (97, I, J, R)) rfl ?_
        exact az_E.forget (L := [.ref 32, .ref 26, .retAddr 0, .int v3, .int v4, .ref 33, .int v6, .int (v6 - v6 / (100 : Int32) * (100 : Int32)), .int (I 36 (v6 - v6 / (100 : Int32) * (100 : Int32)).toNatClampNeg), .int (0 : Int32), .retAddr 0]) ⟨rfl, rfl, trivial, rfl, rfl, rfl, rfl, rfl, rfl, rfl, trivial, trivial⟩ (re_Fi_spread_74_26_33_5 (I := I) (J := J) (R := R) hR_26_3 h hQ)
set_option maxRecDepth 100000 in
set_option maxHeartbeats 4000000 in
theorem re_Fi_spread_40_26_33_5 {ex : az_X} {I : Nat → Nat → Int32} {J : Nat → Nat → Int64} {R : Nat → Nat → Option Nat} {v3 : Int32} {v4 : Int32} {v6 : Int32} (hR_26_3 : R 26 3 = some 5) {x : (Nat → Nat → Int32)} (h : rs_Fi_spread_40 26 33 I v3 v4 v6 = some x) {Q : Option Value → az_S → Prop} (hQ : Q none (97, x, J, R)) : az_E az_F ex 2 17 40 [.ref 32, .ref 26, .retAddr 0, .int v3, .int v4, .ref 33, .int v6, .retAddr 0, .retAddr 0, .retAddr 0, .retAddr 0] [] (97, I, J, R) Q := by
  unfold rs_Fi_spread_40 at h
  refine az_lp_E (G := fun s => az_E az_F ex 2 17 40 [.ref 32, .ref 26, .retAddr 0, .int v3, .int v4, .ref 33, .int s.1, .retAddr 0, .retAddr 0, .retAddr 0, .retAddr 0] [] (97, s.2, J, R) Q) (H := fun x => Q none (97, x, J, R)) (fun s o hb ho => ?_) _ _ _ h hQ
  exact re_Fi_spread_40_b_26_33_5 hR_26_3 hb ho
set_option maxRecDepth 100000 in
set_option maxHeartbeats 4000000 in
theorem re_Fi_spread_26_33_5 {ex : az_X} {I : Nat → Nat → Int32} {J : Nat → Nat → Int64} {R : Nat → Nat → Option Nat} {a2 : Int32} {a3 : Int32} {a4 : Int32} (hR_26_3 : R 26 3 = some 5) {o : (Nat → Nat → Int32)} (h : rs_Fi_spread 26 33 I a2 a3 a4 = some o) {Q : Option Value → az_S → Prop} (hQ : Q none (97, o, J, R)) : az_E az_F ex 2 17 0 [.ref 32, .ref 26, .int a2, .int a3, .int a4, .ref 33, .retAddr 0, .retAddr 0, .retAddr 0, .retAddr 0, .retAddr 0] [] (97, I, J, R) Q := by
  unfold rs_Fi_spread at h
  refine az_E.sn 2 (pc' := 5) (L' := [.ref 32, .ref 26, .int a2, .int a3, .int a4, .ref 33, .retAddr 0, .retAddr 0, .retAddr 0, .retAddr 0, .retAddr 0]) (S' := [.int (14256 : Int32), .ref 33]) (σ' := (97, I, J, R)) rfl ?_
  refine az_E.call (d := 1) (k' := 257) (vs := [.ref 33, .int (14256 : Int32)]) (pc' := 8) (S' := []) (Q1 := fun v s => v = none ∧ s = (97, (az_ur I 33 (az_fill 144 (14256 : Int32) (I 33))), J, R)) rfl (az_E.deep (by omega) (re_fillI (r := 33) rfl ⟨rfl, rfl⟩)) (fun v s hq => ?_)
  obtain ⟨rfl, rfl⟩ := hq
  show az_E az_F ex 2 17 8 [.ref 32, .ref 26, .int a2, .int a3, .int a4, .ref 33, .retAddr 0, .retAddr 0, .retAddr 0, .retAddr 0, .retAddr 0] [] (97, (az_ur I 33 (az_fill 144 (14256 : Int32) (I 33))), J, R) _
  refine az_E.sn 3 (pc' := 13) (L' := [.ref 32, .ref 26, .int a2, .int a3, .int a4, .ref 33, .retAddr 0, .retAddr 0, .retAddr 0, .retAddr 0, .retAddr 0]) (S' := [.int (-1 : Int32), .ref 36]) (σ' := (97, (az_ur I 33 (az_fill 144 (14256 : Int32) (I 33))), J, R)) rfl ?_
  refine az_E.call (d := 1) (k' := 257) (vs := [.ref 36, .int (-1 : Int32)]) (pc' := 16) (S' := []) (Q1 := fun v s => v = none ∧ s = (97, (az_ur (az_ur I 33 (az_fill 144 (14256 : Int32) (I 33))) 36 (az_fill 100 (-1 : Int32) ((az_ur I 33 (az_fill 144 (14256 : Int32) (I 33))) 36))), J, R)) rfl (az_E.deep (by omega) (re_fillI (r := 36) rfl ⟨rfl, rfl⟩)) (fun v s hq => ?_)
  obtain ⟨rfl, rfl⟩ := hq
  show az_E az_F ex 2 17 16 [.ref 32, .ref 26, .int a2, .int a3, .int a4, .ref 33, .retAddr 0, .retAddr 0, .retAddr 0, .retAddr 0, .retAddr 0] [] (97, (az_ur (az_ur I 33 (az_fill 144 (14256 : Int32) (I 33))) 36 (az_fill 100 (-1 : Int32) ((az_ur I 33 (az_fill 144 (14256 : Int32) (I 33))) 36))), J, R) _
  refine az_E.sn 9 (pc' := 30) (L' := [.ref 32, .ref 26, .int a2, .int a3, .int a4, .ref 33, .retAddr 0, .retAddr 0, .retAddr 0, .retAddr 0, .retAddr 0]) (S' := [.int (0 : Int32), .int a2, .ref 33]) (σ' := (97, (az_u (az_u (az_ur (az_ur I 33 (az_fill 144 (14256 : Int32) (I 33))) 36 (az_fill 100 (-1 : Int32) ((az_ur I 33 (az_fill 144 (14256 : Int32) (I 33))) 36))) 32 7 (0 : Int32)) 32 8 (0 : Int32)), J, R)) rfl ?_
  by_cases hc_1 : a2 < 0 ∨ 144 ≤ a2.toNatClampNeg
  · rw [if_pos hc_1] at h; cases h
  · rw [if_neg hc_1] at h
    refine az_E.o (o := az_si az_F (97, (az_u (az_u (az_ur (az_ur I 33 (az_fill 144 (14256 : Int32) (I 33))) 36 (az_fill 100 (-1 : Int32) ((az_ur I 33 (az_fill 144 (14256 : Int32) (I 33))) 36))) 32 7 (0 : Int32)) 32 8 (0 : Int32)), J, R) 33 a2 (0 : Int32)) (pc' := 31) (L' := [.ref 32, .ref 26, .int a2, .int a3, .int a4, .ref 33, .retAddr 0, .retAddr 0, .retAddr 0, .retAddr 0, .retAddr 0]) (S' := []) (x := (97, (az_u (az_u (az_u (az_ur (az_ur I 33 (az_fill 144 (14256 : Int32) (I 33))) 36 (az_fill 100 (-1 : Int32) ((az_ur I 33 (az_fill 144 (14256 : Int32) (I 33))) 36))) 32 7 (0 : Int32)) 32 8 (0 : Int32)) 33 a2.toNatClampNeg (0 : Int32)), J, R)) rfl (if_neg hc_1) ?_
    refine az_E.sn 3 (pc' := 34) (L' := [.ref 32, .ref 26, .int a2, .int a3, .int a4, .ref 33, .retAddr 0, .retAddr 0, .retAddr 0, .retAddr 0, .retAddr 0]) (S' := [.int (0 : Int32), .int a2, .ref 32]) (σ' := (97, (az_u (az_u (az_u (az_ur (az_ur I 33 (az_fill 144 (14256 : Int32) (I 33))) 36 (az_fill 100 (-1 : Int32) ((az_ur I 33 (az_fill 144 (14256 : Int32) (I 33))) 36))) 32 7 (0 : Int32)) 32 8 (0 : Int32)) 33 a2.toNatClampNeg (0 : Int32)), J, R)) rfl ?_
    cases hx_3 : rs_Fi_enter (az_u (az_u (az_u (az_ur (az_ur I 33 (az_fill 144 (14256 : Int32) (I 33))) 36 (az_fill 100 (-1 : Int32) ((az_ur I 33 (az_fill 144 (14256 : Int32) (I 33))) 36))) 32 7 (0 : Int32)) 32 8 (0 : Int32)) 33 a2.toNatClampNeg (0 : Int32)) a2 (0 : Int32) with
    | none => rw [hx_3] at h; cases h
    | some I_2 =>
      rw [hx_3] at h
      dsimp only at h
      refine az_E.call (d := 1) (k' := 19) (vs := [.ref 32, .int a2, .int (0 : Int32)]) (pc' := 37) (S' := []) (Q1 := fun v s => v = none ∧ s = (97, I_2, J, R)) rfl (az_E.deep (by omega) (re_Fi_enter (J := J) (R := R)  hx_3 ⟨rfl, rfl⟩)) (fun v s hq => ?_)
      obtain ⟨rfl, rfl⟩ := hq
      show az_E az_F ex 2 17 37 [.ref 32, .ref 26, .int a2, .int a3, .int a4, .ref 33, .retAddr 0, .retAddr 0, .retAddr 0, .retAddr 0, .retAddr 0] [] (97, I_2, J, R) _
      refine az_E.sn 2 (pc' := 40) (L' := [.ref 32, .ref 26, .int a2, .int a3, .int a4, .ref 33, .int (0 : Int32), .retAddr 0, .retAddr 0, .retAddr 0, .retAddr 0]) (S' := []) (σ' := (97, I_2, J, R)) rfl ?_
      exact az_E.forget (L := [.ref 32, .ref 26, .retAddr 0, .int a3, .int a4, .ref 33, .int (0 : Int32), .retAddr 0, .retAddr 0, .retAddr 0, .retAddr 0]) ⟨rfl, rfl, trivial, rfl, rfl, rfl, rfl, trivial, trivial, trivial, trivial, trivial⟩ (re_Fi_spread_40_26_33_5 (I := I_2) (J := J) (R := R) hR_26_3 h hQ)
set_option maxRecDepth 100000 in
set_option maxHeartbeats 4000000 in
theorem re_Fi_minutes_26_5 {ex : az_X} {I : Nat → Nat → Int32} {J : Nat → Nat → Int64} {R : Nat → Nat → Option Nat} {a2 : Int32} {a3 : Int32} (hR_26_3 : R 26 3 = some 5) {o : Int32 × (Nat → Nat → Int32)} (h : rs_Fi_minutes 26 I a2 a3 = some o) {Q : Option Value → az_S → Prop} (hQ : Q (some (.int o.1)) (97, o.2, J, R)) : az_E az_F ex 3 16 0 [.ref 32, .ref 26, .int a2, .int a3] [] (97, I, J, R) Q := by
  unfold rs_Fi_minutes at h
  refine az_E.sn 2 (pc' := 2) (L' := [.ref 32, .ref 26, .int a2, .int a3]) (S' := [.int a3, .int a2]) (σ' := (97, I, J, R)) rfl ?_
  refine az_E.br (c := a2 = a3) (tt := 5) (ff := 7) (L' := [.ref 32, .ref 26, .int a2, .int a3]) (S' := []) (σ' := (97, I, J, R)) rfl (fun hc_1 => ?_) (fun hc_1 => ?_)
  · rw [if_pos hc_1] at h
    refine az_E.sn 1 (pc' := 6) (L' := [.ref 32, .ref 26, .int a2, .int a3]) (S' := [.int (0 : Int32)]) (σ' := (97, I, J, R)) rfl ?_
    have h := Option.some.inj h
    subst h
    exact az_E.ret (v := some (.int (0 : Int32))) (σ' := (97, I, J, R)) rfl hQ
  · rw [if_neg hc_1] at h
    refine az_E.sn 7 (pc' := 16) (L' := [.ref 32, .ref 26, .int a2, .int a3]) (S' := [.ref 33, .int a3, .int (0 : Int32), .int a2, .ref 26, .ref 32]) (σ' := (97, I, J, R)) rfl ?_
    cases hx_3 : rs_Fi_spread 26 33 I a2 (0 : Int32) a3 with
    | none => rw [hx_3] at h; cases h
    | some I_2 =>
      rw [hx_3] at h
      dsimp only at h
      refine az_E.call (d := 2) (k' := 17) (vs := [.ref 32, .ref 26, .int a2, .int (0 : Int32), .int a3, .ref 33]) (pc' := 19) (S' := []) (Q1 := fun v s => v = none ∧ s = (97, I_2, J, R)) rfl (az_E.deep (by omega) (re_Fi_spread_26_33_5 (J := J) (R := R) hR_26_3 hx_3 ⟨rfl, rfl⟩)) (fun v s hq => ?_)
      obtain ⟨rfl, rfl⟩ := hq
      show az_E az_F ex 3 16 19 [.ref 32, .ref 26, .int a2, .int a3] [] (97, I_2, J, R) _
      refine az_E.sn 3 (pc' := 24) (L' := [.ref 32, .ref 26, .int a2, .int a3]) (S' := [.int a3, .ref 33]) (σ' := (97, I_2, J, R)) rfl ?_
      by_cases hc_4 : a3 < 0 ∨ 144 ≤ a3.toNatClampNeg
      · rw [if_pos hc_4] at h; cases h
      · rw [if_neg hc_4] at h
        refine az_E.oi (o := az_ai az_F ex (97, I_2, J, R) 33 a3) (pc' := 25) (L' := [.ref 32, .ref 26, .int a2, .int a3]) (S' := []) (σ' := (97, I_2, J, R)) (x := (I_2 33 a3.toNatClampNeg)) rfl (if_neg hc_4) ?_
        have h := Option.some.inj h
        subst h
        exact az_E.ret (v := some (.int (I_2 33 a3.toNatClampNeg))) (σ' := (97, I_2, J, R)) rfl hQ
set_option maxRecDepth 100000 in
set_option maxHeartbeats 4000000 in
theorem re_X_armAt_5 {ex : az_X} {I : Nat → Nat → Int32} {J : Nat → Nat → Int64} {R : Nat → Nat → Option Nat} {a1 : Int32} (hR_26_3 : R 26 3 = some 5) {o : Int32 × (Nat → Nat → Int32)} (h : rs_X_armAt I a1 = some o) {Q : Option Value → az_S → Prop} (hQ : Q (some (.int o.1)) (97, o.2, J, R)) : az_E az_F ex 4 146 0 [.ref 3, .int a1] [] (97, I, J, R) Q := by
  unfold rs_X_armAt at h
  refine az_E.sn 8 (pc' := 16) (L' := [.ref 3, .int a1]) (S' := [.int a1, .ref 6, .ref 26, .ref 32]) (σ' := (97, I, J, R)) rfl ?_
  by_cases hc_1 : a1 < 0 ∨ 8 ≤ a1.toNatClampNeg
  · rw [if_pos hc_1] at h; cases h
  · rw [if_neg hc_1] at h
    refine az_E.oi (o := az_ai az_F ex (97, I, J, R) 6 a1) (pc' := 17) (L' := [.ref 3, .int a1]) (S' := [.ref 26, .ref 32]) (σ' := (97, I, J, R)) (x := (I 6 a1.toNatClampNeg)) rfl (if_neg hc_1) ?_
    refine az_E.sn 4 (pc' := 25) (L' := [.ref 3, .int a1]) (S' := [.int a1, .ref 7, .int (I 6 a1.toNatClampNeg), .ref 26, .ref 32]) (σ' := (97, I, J, R)) rfl ?_
    by_cases hc_2 : a1 < 0 ∨ 8 ≤ a1.toNatClampNeg
    · rw [if_pos hc_2] at h; cases h
    · rw [if_neg hc_2] at h
      refine az_E.oi (o := az_ai az_F ex (97, I, J, R) 7 a1) (pc' := 26) (L' := [.ref 3, .int a1]) (S' := [.int (I 6 a1.toNatClampNeg), .ref 26, .ref 32]) (σ' := (97, I, J, R)) (x := (I 7 a1.toNatClampNeg)) rfl (if_neg hc_2) ?_
      cases hx_5 : rs_Fi_minutes 26 I (I 6 a1.toNatClampNeg) (I 7 a1.toNatClampNeg) with
      | none => rw [hx_5] at h; cases h
      | some o =>
        rw [hx_5] at h
        obtain ⟨x_3, I_4⟩ := o
        dsimp only at h
        refine az_E.call (d := 3) (k' := 16) (vs := [.ref 32, .ref 26, .int (I 6 a1.toNatClampNeg), .int (I 7 a1.toNatClampNeg)]) (pc' := 29) (S' := []) (Q1 := fun v s => v = some (.int x_3) ∧ s = (97, I_4, J, R)) rfl (az_E.deep (by omega) (re_Fi_minutes_26_5 (J := J) (R := R) hR_26_3 hx_5 ⟨rfl, rfl⟩)) (fun v s hq => ?_)
        obtain ⟨rfl, rfl⟩ := hq
        show az_E az_F ex 4 146 29 [.ref 3, .int a1] [.int x_3] (97, I_4, J, R) _
        have h := Option.some.inj h
        subst h
        exact az_E.ret (v := some (.int x_3)) (σ' := (97, I_4, J, R)) rfl hQ
set_option maxRecDepth 100000 in
set_option maxHeartbeats 4000000 in
theorem re_X_arm_16_21 {ex : az_X} {I : Nat → Nat → Int32} {J : Nat → Nat → Int64} {R : Nat → Nat → Option Nat} {a1 : Int32} (hR_3_2 : R 3 2 = some 16) (hR_3_3 : R 3 3 = some 21) {o : Int32 × (Nat → Nat → Int32)} (h : rs_X_arm 21 16 I a1 = some o) {Q : Option Value → az_S → Prop} (hQ : ∀ R' : Nat → Nat → Option Nat, R' 3 2 = some 16 → R' 3 3 = some 21 → Q (some (.int o.1)) (97, o.2, J, R')) : az_E az_F ex 6 92 0 [.ref 3, .int a1] [] (97, I, J, R) Q := by
  unfold rs_X_arm at h
  refine az_E.sn 2 (pc' := 2) (L' := [.ref 3, .int a1]) (S' := [.int a1, .ref 3]) (σ' := (97, I, J, R)) rfl ?_
  refine az_E.call (d := 5) (k' := 139) (vs := [.ref 3, .int a1]) (pc' := 5) (S' := []) rfl ?_ (fun _ _ hq => hq)
  show az_E az_F ex 5 139 0 [.ref 3, .int a1] [] (97, I, J, R) _
  refine az_E.sn 1 (pc' := 1) (L' := [.ref 3, .int a1]) (S' := [.int a1]) (σ' := (97, I, J, R)) rfl ?_
  refine az_E.br (c := a1 < 0) (tt := 33) (ff := 4) (L' := [.ref 3, .int a1]) (S' := []) (σ' := (97, I, J, R)) rfl (fun hc_1 => ?_) (fun hc_1 => ?_)
  · rw [if_pos hc_1] at h
    refine az_E.sn 1 (pc' := 34) (L' := [.ref 3, .int a1]) (S' := [.int (0 : Int32)]) (σ' := (97, I, J, R)) rfl ?_
    refine az_E.ret (v := some (.int (0 : Int32))) (σ' := (97, I, J, R)) rfl ?_
    show az_E az_F ex 6 92 5 [.ref 3, .int a1] [.int (0 : Int32)] (97, I, J, R) _
    refine az_E.br (c := (0 : Int32) = 0) (tt := 8) (ff := 10) (L' := [.ref 3, .int a1]) (S' := []) (σ' := (97, I, J, R)) rfl (fun _ => ?_) (fun hn => absurd (by decide) hn)
    refine az_E.sn 1 (pc' := 9) (L' := [.ref 3, .int a1]) (S' := [.int (-1 : Int32)]) (σ' := (97, I, J, R)) rfl ?_
    have h := Option.some.inj h
    subst h
    exact az_E.ret (v := some (.int (-1 : Int32))) (σ' := (97, I, J, R)) rfl (hQ _ hR_3_2 hR_3_3)
  · rw [if_neg hc_1] at h
    refine az_E.sn 2 (pc' := 7) (L' := [.ref 3, .int a1]) (S' := [.int (10 : Int32), .int a1]) (σ' := (97, I, J, R)) rfl ?_
    have hd_2 : ¬ ((10 : Int32) = 0) := by decide
    refine az_E.dv (c := (10 : Int32) = 0) (pc' := 8) (L' := [.ref 3, .int a1]) (S' := [.int (a1 / (10 : Int32))]) (σ' := (97, I, J, R)) rfl hd_2 ?_
    refine az_E.sn 3 (pc' := 15) (L' := [.ref 3, .int a1]) (S' := [.int (I 4 3), .int (a1 / (10 : Int32))]) (σ' := (97, I, J, R)) rfl ?_
    refine az_E.br (c := (I 4 3) ≤ (a1 / (10 : Int32))) (tt := 33) (ff := 18) (L' := [.ref 3, .int a1]) (S' := []) (σ' := (97, I, J, R)) rfl (fun hc_3 => ?_) (fun hc_3 => ?_)
    · rw [if_pos hc_3] at h
      refine az_E.sn 1 (pc' := 34) (L' := [.ref 3, .int a1]) (S' := [.int (0 : Int32)]) (σ' := (97, I, J, R)) rfl ?_
      refine az_E.ret (v := some (.int (0 : Int32))) (σ' := (97, I, J, R)) rfl ?_
      show az_E az_F ex 6 92 5 [.ref 3, .int a1] [.int (0 : Int32)] (97, I, J, R) _
      refine az_E.br (c := (0 : Int32) = 0) (tt := 8) (ff := 10) (L' := [.ref 3, .int a1]) (S' := []) (σ' := (97, I, J, R)) rfl (fun _ => ?_) (fun hn => absurd (by decide) hn)
      refine az_E.sn 1 (pc' := 9) (L' := [.ref 3, .int a1]) (S' := [.int (-1 : Int32)]) (σ' := (97, I, J, R)) rfl ?_
      have h := Option.some.inj h
      subst h
      exact az_E.ret (v := some (.int (-1 : Int32))) (σ' := (97, I, J, R)) rfl (hQ _ hR_3_2 hR_3_3)
    · rw [if_neg hc_3] at h
      refine az_E.sn 3 (pc' := 22) (L' := [.ref 3, .int a1]) (S' := [.int (10 : Int32), .int a1, .ref 3]) (σ' := (97, I, J, R)) rfl ?_
      have hd_4 : ¬ ((10 : Int32) = 0) := by decide
      refine az_E.dv (c := (10 : Int32) = 0) (pc' := 23) (L' := [.ref 3, .int a1]) (S' := [.int (a1 - a1 / (10 : Int32) * (10 : Int32)), .ref 3]) (σ' := (97, I, J, R)) rfl hd_4 ?_
      refine az_E.call (d := 4) (k' := 138) (vs := [.ref 3, .int (a1 - a1 / (10 : Int32) * (10 : Int32))]) (pc' := 26) (S' := []) rfl ?_ (fun _ _ hq => hq)
      show az_E az_F ex 4 138 0 [.ref 3, .int (a1 - a1 / (10 : Int32) * (10 : Int32))] [] (97, I, J, R) _
      refine az_E.sn 7 (pc' := 11) (L' := [.ref 3, .int (a1 - a1 / (10 : Int32) * (10 : Int32))]) (S' := [.int ((I 4 9) - (1 : Int32)), .int (0 : Int32), .int (a1 - a1 / (10 : Int32) * (10 : Int32))]) (σ' := (97, I, J, R)) rfl ?_
      refine az_E.call (d := 3) (k' := 131) (vs := [.int (a1 - a1 / (10 : Int32) * (10 : Int32)), .int (0 : Int32), .int ((I 4 9) - (1 : Int32))]) (pc' := 14) (S' := []) rfl ?_ (fun _ _ hq => hq)
      show az_E az_F ex 3 131 0 [.int (a1 - a1 / (10 : Int32) * (10 : Int32)), .int (0 : Int32), .int ((I 4 9) - (1 : Int32))] [] (97, I, J, R) _
      refine az_E.sn 2 (pc' := 2) (L' := [.int (a1 - a1 / (10 : Int32) * (10 : Int32)), .int (0 : Int32), .int ((I 4 9) - (1 : Int32))]) (S' := [.int (0 : Int32), .int (a1 - a1 / (10 : Int32) * (10 : Int32))]) (σ' := (97, I, J, R)) rfl ?_
      refine az_E.br (c := (a1 - a1 / (10 : Int32) * (10 : Int32)) < (0 : Int32)) (tt := 14) (ff := 5) (L' := [.int (a1 - a1 / (10 : Int32) * (10 : Int32)), .int (0 : Int32), .int ((I 4 9) - (1 : Int32))]) (S' := []) (σ' := (97, I, J, R)) rfl (fun hc_5 => ?_) (fun hc_5 => ?_)
      · rw [if_pos hc_5] at h
        refine az_E.sn 1 (pc' := 15) (L' := [.int (a1 - a1 / (10 : Int32) * (10 : Int32)), .int (0 : Int32), .int ((I 4 9) - (1 : Int32))]) (S' := [.int (0 : Int32)]) (σ' := (97, I, J, R)) rfl ?_
        refine az_E.ret (v := some (.int (0 : Int32))) (σ' := (97, I, J, R)) rfl ?_
        show az_E az_F ex 4 138 14 [.ref 3, .int (a1 - a1 / (10 : Int32) * (10 : Int32))] [.int (0 : Int32)] (97, I, J, R) _
        refine az_E.ret (v := some (.int (0 : Int32))) (σ' := (97, I, J, R)) rfl ?_
        show az_E az_F ex 5 139 26 [.ref 3, .int a1] [.int (0 : Int32)] (97, I, J, R) _
        refine az_E.br (c := (0 : Int32) = 0) (tt := 33) (ff := 29) (L' := [.ref 3, .int a1]) (S' := []) (σ' := (97, I, J, R)) rfl (fun _ => ?_) (fun hn => absurd (by decide) hn)
        refine az_E.sn 1 (pc' := 34) (L' := [.ref 3, .int a1]) (S' := [.int (0 : Int32)]) (σ' := (97, I, J, R)) rfl ?_
        refine az_E.ret (v := some (.int (0 : Int32))) (σ' := (97, I, J, R)) rfl ?_
        show az_E az_F ex 6 92 5 [.ref 3, .int a1] [.int (0 : Int32)] (97, I, J, R) _
        refine az_E.br (c := (0 : Int32) = 0) (tt := 8) (ff := 10) (L' := [.ref 3, .int a1]) (S' := []) (σ' := (97, I, J, R)) rfl (fun _ => ?_) (fun hn => absurd (by decide) hn)
        refine az_E.sn 1 (pc' := 9) (L' := [.ref 3, .int a1]) (S' := [.int (-1 : Int32)]) (σ' := (97, I, J, R)) rfl ?_
        have h := Option.some.inj h
        subst h
        exact az_E.ret (v := some (.int (-1 : Int32))) (σ' := (97, I, J, R)) rfl (hQ _ hR_3_2 hR_3_3)
      · rw [if_neg hc_5] at h
        refine az_E.sn 2 (pc' := 7) (L' := [.int (a1 - a1 / (10 : Int32) * (10 : Int32)), .int (0 : Int32), .int ((I 4 9) - (1 : Int32))]) (S' := [.int ((I 4 9) - (1 : Int32)), .int (a1 - a1 / (10 : Int32) * (10 : Int32))]) (σ' := (97, I, J, R)) rfl ?_
        refine az_E.br (c := ((I 4 9) - (1 : Int32)) < (a1 - a1 / (10 : Int32) * (10 : Int32))) (tt := 14) (ff := 10) (L' := [.int (a1 - a1 / (10 : Int32) * (10 : Int32)), .int (0 : Int32), .int ((I 4 9) - (1 : Int32))]) (S' := []) (σ' := (97, I, J, R)) rfl (fun hc_6 => ?_) (fun hc_6 => ?_)
        · rw [if_pos hc_6] at h
          refine az_E.sn 1 (pc' := 15) (L' := [.int (a1 - a1 / (10 : Int32) * (10 : Int32)), .int (0 : Int32), .int ((I 4 9) - (1 : Int32))]) (S' := [.int (0 : Int32)]) (σ' := (97, I, J, R)) rfl ?_
          refine az_E.ret (v := some (.int (0 : Int32))) (σ' := (97, I, J, R)) rfl ?_
          show az_E az_F ex 4 138 14 [.ref 3, .int (a1 - a1 / (10 : Int32) * (10 : Int32))] [.int (0 : Int32)] (97, I, J, R) _
          refine az_E.ret (v := some (.int (0 : Int32))) (σ' := (97, I, J, R)) rfl ?_
          show az_E az_F ex 5 139 26 [.ref 3, .int a1] [.int (0 : Int32)] (97, I, J, R) _
          refine az_E.br (c := (0 : Int32) = 0) (tt := 33) (ff := 29) (L' := [.ref 3, .int a1]) (S' := []) (σ' := (97, I, J, R)) rfl (fun _ => ?_) (fun hn => absurd (by decide) hn)
          refine az_E.sn 1 (pc' := 34) (L' := [.ref 3, .int a1]) (S' := [.int (0 : Int32)]) (σ' := (97, I, J, R)) rfl ?_
          refine az_E.ret (v := some (.int (0 : Int32))) (σ' := (97, I, J, R)) rfl ?_
          show az_E az_F ex 6 92 5 [.ref 3, .int a1] [.int (0 : Int32)] (97, I, J, R) _
          refine az_E.br (c := (0 : Int32) = 0) (tt := 8) (ff := 10) (L' := [.ref 3, .int a1]) (S' := []) (σ' := (97, I, J, R)) rfl (fun _ => ?_) (fun hn => absurd (by decide) hn)
          refine az_E.sn 1 (pc' := 9) (L' := [.ref 3, .int a1]) (S' := [.int (-1 : Int32)]) (σ' := (97, I, J, R)) rfl ?_
          have h := Option.some.inj h
          subst h
          exact az_E.ret (v := some (.int (-1 : Int32))) (σ' := (97, I, J, R)) rfl (hQ _ hR_3_2 hR_3_3)
        · rw [if_neg hc_6] at h
          refine az_E.sn 2 (pc' := 15) (L' := [.int (a1 - a1 / (10 : Int32) * (10 : Int32)), .int (0 : Int32), .int ((I 4 9) - (1 : Int32))]) (S' := [.int (1 : Int32)]) (σ' := (97, I, J, R)) rfl ?_
          refine az_E.ret (v := some (.int (1 : Int32))) (σ' := (97, I, J, R)) rfl ?_
          show az_E az_F ex 4 138 14 [.ref 3, .int (a1 - a1 / (10 : Int32) * (10 : Int32))] [.int (1 : Int32)] (97, I, J, R) _
          refine az_E.ret (v := some (.int (1 : Int32))) (σ' := (97, I, J, R)) rfl ?_
          show az_E az_F ex 5 139 26 [.ref 3, .int a1] [.int (1 : Int32)] (97, I, J, R) _
          refine az_E.br (c := (1 : Int32) = 0) (tt := 33) (ff := 29) (L' := [.ref 3, .int a1]) (S' := []) (σ' := (97, I, J, R)) rfl (fun hn => absurd hn (by decide)) (fun _ => ?_)
          refine az_E.sn 2 (pc' := 34) (L' := [.ref 3, .int a1]) (S' := [.int (1 : Int32)]) (σ' := (97, I, J, R)) rfl ?_
          refine az_E.ret (v := some (.int (1 : Int32))) (σ' := (97, I, J, R)) rfl ?_
          show az_E az_F ex 6 92 5 [.ref 3, .int a1] [.int (1 : Int32)] (97, I, J, R) _
          refine az_E.br (c := (1 : Int32) = 0) (tt := 8) (ff := 10) (L' := [.ref 3, .int a1]) (S' := []) (σ' := (97, I, J, R)) rfl (fun hn => absurd hn (by decide)) (fun _ => ?_)
          refine az_E.sn 3 (pc' := 14) (L' := [.ref 3, .int a1]) (S' := [.int (10 : Int32), .int a1, .ref 3]) (σ' := (97, I, J, R)) rfl ?_
          have hd_7 : ¬ ((10 : Int32) = 0) := by decide
          refine az_E.dv (c := (10 : Int32) = 0) (pc' := 15) (L' := [.ref 3, .int a1]) (S' := [.int (a1 - a1 / (10 : Int32) * (10 : Int32)), .ref 3]) (σ' := (97, I, J, R)) rfl hd_7 ?_
          cases hx_9 : rs_X_setPace 16 I (a1 - a1 / (10 : Int32) * (10 : Int32)) with
          | none => rw [hx_9] at h; cases h
          | some I_8 =>
            rw [hx_9] at h
            dsimp only at h
            refine az_E.call (d := 5) (k' := 144) (vs := [.ref 3, .int (a1 - a1 / (10 : Int32) * (10 : Int32))]) (pc' := 18) (S' := []) (Q1 := fun v s => v = none ∧ s = (97, I_8, J, (az_u (az_u R 26 2 (some 16)) 26 3 (some 5)))) rfl (az_E.deep (by omega) (re_X_setPace_16 (J := J) (R := R) hR_3_2 hx_9 ⟨rfl, rfl⟩)) (fun v s hq => ?_)
            obtain ⟨rfl, rfl⟩ := hq
            show az_E az_F ex 6 92 18 [.ref 3, .int a1] [] (97, I_8, J, (az_u (az_u R 26 2 (some 16)) 26 3 (some 5))) _
            refine az_E.sn 3 (pc' := 22) (L' := [.ref 3, .int a1]) (S' := [.int (10 : Int32), .int a1, .ref 3]) (σ' := (97, I_8, J, (az_u (az_u R 26 2 (some 16)) 26 3 (some 5)))) rfl ?_
            have hd_10 : ¬ ((10 : Int32) = 0) := by decide
            refine az_E.dv (c := (10 : Int32) = 0) (pc' := 23) (L' := [.ref 3, .int a1]) (S' := [.int (a1 / (10 : Int32)), .ref 3]) (σ' := (97, I_8, J, (az_u (az_u R 26 2 (some 16)) 26 3 (some 5)))) rfl hd_10 ?_
            cases hx_13 : rs_X_armAt I_8 (a1 / (10 : Int32)) with
            | none => rw [hx_13] at h; cases h
            | some o =>
              rw [hx_13] at h
              obtain ⟨x_11, I_12⟩ := o
              dsimp only at h
              refine az_E.call (d := 5) (k' := 146) (vs := [.ref 3, .int (a1 / (10 : Int32))]) (pc' := 26) (S' := []) (Q1 := fun v s => v = some (.int x_11) ∧ s = (97, I_12, J, (az_u (az_u R 26 2 (some 16)) 26 3 (some 5)))) rfl (az_E.deep (by omega) (re_X_armAt_5 (J := J) (R := (az_u (az_u R 26 2 (some 16)) 26 3 (some 5))) rfl hx_13 ⟨rfl, rfl⟩)) (fun v s hq => ?_)
              obtain ⟨rfl, rfl⟩ := hq
              show az_E az_F ex 6 92 26 [.ref 3, .int a1] [.int x_11] (97, I_12, J, (az_u (az_u R 26 2 (some 16)) 26 3 (some 5))) _
              have h := Option.some.inj h
              subst h
              exact az_E.ret (v := some (.int x_11)) (σ' := (97, I_12, J, (az_u (az_u R 26 2 (some 16)) 26 3 (some 5)))) rfl (hQ _ hR_3_2 hR_3_3)
set_option maxRecDepth 100000 in
set_option maxHeartbeats 4000000 in
theorem re_M_isAw {ex : az_X} {I : Nat → Nat → Int32} {J : Nat → Nat → Int64} {R : Nat → Nat → Option Nat} {a1 : Int32} {o : Int32} (h : rs_M_isAw I a1 = some o) {Q : Option Value → az_S → Prop} (hQ : Q (some (.int o)) (97, I, J, R)) : az_E az_F ex 2 164 0 [.ref 73, .int a1] [] (97, I, J, R) Q := by
  unfold rs_M_isAw at h
  refine az_E.sn 1 (pc' := 1) (L' := [.ref 73, .int a1]) (S' := [.int a1]) (σ' := (97, I, J, R)) rfl ?_
  refine az_E.br (c := a1 < 0) (tt := 32) (ff := 4) (L' := [.ref 73, .int a1]) (S' := []) (σ' := (97, I, J, R)) rfl (fun hc_1 => ?_) (fun hc_1 => ?_)
  · rw [if_pos hc_1] at h
    refine az_E.sn 1 (pc' := 33) (L' := [.ref 73, .int a1]) (S' := [.int (0 : Int32)]) (σ' := (97, I, J, R)) rfl ?_
    have h := Option.some.inj h
    subst h
    exact az_E.ret (v := some (.int (0 : Int32))) (σ' := (97, I, J, R)) rfl hQ
  · rw [if_neg hc_1] at h
    refine az_E.sn 3 (pc' := 8) (L' := [.ref 73, .int a1]) (S' := [.int (10 : Int32), .int a1, .ref 73]) (σ' := (97, I, J, R)) rfl ?_
    have hd_2 : ¬ ((10 : Int32) = 0) := by decide
    refine az_E.dv (c := (10 : Int32) = 0) (pc' := 9) (L' := [.ref 73, .int a1]) (S' := [.int (a1 / (10 : Int32)), .ref 73]) (σ' := (97, I, J, R)) rfl hd_2 ?_
    refine az_E.sn 1 (pc' := 10) (L' := [.ref 73, .int a1]) (S' := [.long (a1 / (10 : Int32)).toInt64, .ref 73]) (σ' := (97, I, J, R)) rfl ?_
    refine az_E.call (d := 1) (k' := 161) (vs := [.ref 73, .long (a1 / (10 : Int32)).toInt64]) (pc' := 13) (S' := []) rfl ?_ (fun _ _ hq => hq)
    show az_E az_F ex 1 161 0 [.ref 73, .long (a1 / (10 : Int32)).toInt64, .retAddr 0] [] (97, I, J, R) _
    refine az_E.sn 7 (pc' := 9) (L' := [.ref 73, .long (a1 / (10 : Int32)).toInt64, .retAddr 0]) (S' := [.long ((I 73 6) - (1 : Int32)).toInt64, .long (0 : Int64), .long (a1 / (10 : Int32)).toInt64]) (σ' := (97, I, J, R)) rfl ?_
    refine az_E.call (d := 0) (k' := 154) (vs := [.long (a1 / (10 : Int32)).toInt64, .long (0 : Int64), .long ((I 73 6) - (1 : Int32)).toInt64]) (pc' := 12) (S' := []) rfl ?_ (fun _ _ hq => hq)
    show az_E az_F ex 0 154 0 [.long (a1 / (10 : Int32)).toInt64, .retAddr 0, .long (0 : Int64), .retAddr 0, .long ((I 73 6) - (1 : Int32)).toInt64, .retAddr 0] [] (97, I, J, R) _
    refine az_E.sn 3 (pc' := 3) (L' := [.long (a1 / (10 : Int32)).toInt64, .retAddr 0, .long (0 : Int64), .retAddr 0, .long ((I 73 6) - (1 : Int32)).toInt64, .retAddr 0]) (S' := [.int (lg_cmp (a1 / (10 : Int32)).toInt64 (0 : Int64))]) (σ' := (97, I, J, R)) rfl ?_
    refine az_E.br (c := (lg_cmp (a1 / (10 : Int32)).toInt64 (0 : Int64)) < 0) (tt := 17) (ff := 6) (L' := [.long (a1 / (10 : Int32)).toInt64, .retAddr 0, .long (0 : Int64), .retAddr 0, .long ((I 73 6) - (1 : Int32)).toInt64, .retAddr 0]) (S' := []) (σ' := (97, I, J, R)) rfl (fun hc_3 => ?_) (fun hc_3 => ?_)
    · rw [if_pos hc_3] at h
      refine az_E.sn 1 (pc' := 18) (L' := [.long (a1 / (10 : Int32)).toInt64, .retAddr 0, .long (0 : Int64), .retAddr 0, .long ((I 73 6) - (1 : Int32)).toInt64, .retAddr 0]) (S' := [.int (0 : Int32)]) (σ' := (97, I, J, R)) rfl ?_
      refine az_E.ret (v := some (.int (0 : Int32))) (σ' := (97, I, J, R)) rfl ?_
      show az_E az_F ex 1 161 12 [.ref 73, .long (a1 / (10 : Int32)).toInt64, .retAddr 0] [.int (0 : Int32)] (97, I, J, R) _
      refine az_E.ret (v := some (.int (0 : Int32))) (σ' := (97, I, J, R)) rfl ?_
      show az_E az_F ex 2 164 13 [.ref 73, .int a1] [.int (0 : Int32)] (97, I, J, R) _
      refine az_E.br (c := (0 : Int32) = 0) (tt := 32) (ff := 16) (L' := [.ref 73, .int a1]) (S' := []) (σ' := (97, I, J, R)) rfl (fun _ => ?_) (fun hn => absurd (by decide) hn)
      refine az_E.sn 1 (pc' := 33) (L' := [.ref 73, .int a1]) (S' := [.int (0 : Int32)]) (σ' := (97, I, J, R)) rfl ?_
      have h := Option.some.inj h
      subst h
      exact az_E.ret (v := some (.int (0 : Int32))) (σ' := (97, I, J, R)) rfl hQ
    · rw [if_neg hc_3] at h
      refine az_E.sn 3 (pc' := 10) (L' := [.long (a1 / (10 : Int32)).toInt64, .retAddr 0, .long (0 : Int64), .retAddr 0, .long ((I 73 6) - (1 : Int32)).toInt64, .retAddr 0]) (S' := [.int (lg_cmp (a1 / (10 : Int32)).toInt64 ((I 73 6) - (1 : Int32)).toInt64)]) (σ' := (97, I, J, R)) rfl ?_
      refine az_E.br (c := 0 < (lg_cmp (a1 / (10 : Int32)).toInt64 ((I 73 6) - (1 : Int32)).toInt64)) (tt := 17) (ff := 13) (L' := [.long (a1 / (10 : Int32)).toInt64, .retAddr 0, .long (0 : Int64), .retAddr 0, .long ((I 73 6) - (1 : Int32)).toInt64, .retAddr 0]) (S' := []) (σ' := (97, I, J, R)) rfl (fun hc_4 => ?_) (fun hc_4 => ?_)
      · rw [if_pos hc_4] at h
        refine az_E.sn 1 (pc' := 18) (L' := [.long (a1 / (10 : Int32)).toInt64, .retAddr 0, .long (0 : Int64), .retAddr 0, .long ((I 73 6) - (1 : Int32)).toInt64, .retAddr 0]) (S' := [.int (0 : Int32)]) (σ' := (97, I, J, R)) rfl ?_
        refine az_E.ret (v := some (.int (0 : Int32))) (σ' := (97, I, J, R)) rfl ?_
        show az_E az_F ex 1 161 12 [.ref 73, .long (a1 / (10 : Int32)).toInt64, .retAddr 0] [.int (0 : Int32)] (97, I, J, R) _
        refine az_E.ret (v := some (.int (0 : Int32))) (σ' := (97, I, J, R)) rfl ?_
        show az_E az_F ex 2 164 13 [.ref 73, .int a1] [.int (0 : Int32)] (97, I, J, R) _
        refine az_E.br (c := (0 : Int32) = 0) (tt := 32) (ff := 16) (L' := [.ref 73, .int a1]) (S' := []) (σ' := (97, I, J, R)) rfl (fun _ => ?_) (fun hn => absurd (by decide) hn)
        refine az_E.sn 1 (pc' := 33) (L' := [.ref 73, .int a1]) (S' := [.int (0 : Int32)]) (σ' := (97, I, J, R)) rfl ?_
        have h := Option.some.inj h
        subst h
        exact az_E.ret (v := some (.int (0 : Int32))) (σ' := (97, I, J, R)) rfl hQ
      · rw [if_neg hc_4] at h
        refine az_E.sn 2 (pc' := 18) (L' := [.long (a1 / (10 : Int32)).toInt64, .retAddr 0, .long (0 : Int64), .retAddr 0, .long ((I 73 6) - (1 : Int32)).toInt64, .retAddr 0]) (S' := [.int (1 : Int32)]) (σ' := (97, I, J, R)) rfl ?_
        refine az_E.ret (v := some (.int (1 : Int32))) (σ' := (97, I, J, R)) rfl ?_
        show az_E az_F ex 1 161 12 [.ref 73, .long (a1 / (10 : Int32)).toInt64, .retAddr 0] [.int (1 : Int32)] (97, I, J, R) _
        refine az_E.ret (v := some (.int (1 : Int32))) (σ' := (97, I, J, R)) rfl ?_
        show az_E az_F ex 2 164 13 [.ref 73, .int a1] [.int (1 : Int32)] (97, I, J, R) _
        refine az_E.br (c := (1 : Int32) = 0) (tt := 32) (ff := 16) (L' := [.ref 73, .int a1]) (S' := []) (σ' := (97, I, J, R)) rfl (fun hn => absurd hn (by decide)) (fun _ => ?_)
        refine az_E.sn 3 (pc' := 20) (L' := [.ref 73, .int a1]) (S' := [.int (10 : Int32), .int a1, .ref 73]) (σ' := (97, I, J, R)) rfl ?_
        have hd_5 : ¬ ((10 : Int32) = 0) := by decide
        refine az_E.dv (c := (10 : Int32) = 0) (pc' := 21) (L' := [.ref 73, .int a1]) (S' := [.int (a1 - a1 / (10 : Int32) * (10 : Int32)), .ref 73]) (σ' := (97, I, J, R)) rfl hd_5 ?_
        refine az_E.sn 1 (pc' := 22) (L' := [.ref 73, .int a1]) (S' := [.long (a1 - a1 / (10 : Int32) * (10 : Int32)).toInt64, .ref 73]) (σ' := (97, I, J, R)) rfl ?_
        refine az_E.call (d := 1) (k' := 162) (vs := [.ref 73, .long (a1 - a1 / (10 : Int32) * (10 : Int32)).toInt64]) (pc' := 25) (S' := []) rfl ?_ (fun _ _ hq => hq)
        show az_E az_F ex 1 162 0 [.ref 73, .long (a1 - a1 / (10 : Int32) * (10 : Int32)).toInt64, .retAddr 0] [] (97, I, J, R) _
        refine az_E.sn 7 (pc' := 9) (L' := [.ref 73, .long (a1 - a1 / (10 : Int32) * (10 : Int32)).toInt64, .retAddr 0]) (S' := [.long ((I 73 7) - (1 : Int32)).toInt64, .long (0 : Int64), .long (a1 - a1 / (10 : Int32) * (10 : Int32)).toInt64]) (σ' := (97, I, J, R)) rfl ?_
        refine az_E.call (d := 0) (k' := 154) (vs := [.long (a1 - a1 / (10 : Int32) * (10 : Int32)).toInt64, .long (0 : Int64), .long ((I 73 7) - (1 : Int32)).toInt64]) (pc' := 12) (S' := []) rfl ?_ (fun _ _ hq => hq)
        show az_E az_F ex 0 154 0 [.long (a1 - a1 / (10 : Int32) * (10 : Int32)).toInt64, .retAddr 0, .long (0 : Int64), .retAddr 0, .long ((I 73 7) - (1 : Int32)).toInt64, .retAddr 0] [] (97, I, J, R) _
        refine az_E.sn 3 (pc' := 3) (L' := [.long (a1 - a1 / (10 : Int32) * (10 : Int32)).toInt64, .retAddr 0, .long (0 : Int64), .retAddr 0, .long ((I 73 7) - (1 : Int32)).toInt64, .retAddr 0]) (S' := [.int (lg_cmp (a1 - a1 / (10 : Int32) * (10 : Int32)).toInt64 (0 : Int64))]) (σ' := (97, I, J, R)) rfl ?_
        refine az_E.br (c := (lg_cmp (a1 - a1 / (10 : Int32) * (10 : Int32)).toInt64 (0 : Int64)) < 0) (tt := 17) (ff := 6) (L' := [.long (a1 - a1 / (10 : Int32) * (10 : Int32)).toInt64, .retAddr 0, .long (0 : Int64), .retAddr 0, .long ((I 73 7) - (1 : Int32)).toInt64, .retAddr 0]) (S' := []) (σ' := (97, I, J, R)) rfl (fun hc_6 => ?_) (fun hc_6 => ?_)
        · rw [if_pos hc_6] at h
          refine az_E.sn 1 (pc' := 18) (L' := [.long (a1 - a1 / (10 : Int32) * (10 : Int32)).toInt64, .retAddr 0, .long (0 : Int64), .retAddr 0, .long ((I 73 7) - (1 : Int32)).toInt64, .retAddr 0]) (S' := [.int (0 : Int32)]) (σ' := (97, I, J, R)) rfl ?_
          refine az_E.ret (v := some (.int (0 : Int32))) (σ' := (97, I, J, R)) rfl ?_
          show az_E az_F ex 1 162 12 [.ref 73, .long (a1 - a1 / (10 : Int32) * (10 : Int32)).toInt64, .retAddr 0] [.int (0 : Int32)] (97, I, J, R) _
          refine az_E.ret (v := some (.int (0 : Int32))) (σ' := (97, I, J, R)) rfl ?_
          show az_E az_F ex 2 164 25 [.ref 73, .int a1] [.int (0 : Int32)] (97, I, J, R) _
          refine az_E.br (c := (0 : Int32) = 0) (tt := 32) (ff := 28) (L' := [.ref 73, .int a1]) (S' := []) (σ' := (97, I, J, R)) rfl (fun _ => ?_) (fun hn => absurd (by decide) hn)
          refine az_E.sn 1 (pc' := 33) (L' := [.ref 73, .int a1]) (S' := [.int (0 : Int32)]) (σ' := (97, I, J, R)) rfl ?_
          have h := Option.some.inj h
          subst h
          exact az_E.ret (v := some (.int (0 : Int32))) (σ' := (97, I, J, R)) rfl hQ
        · rw [if_neg hc_6] at h
          refine az_E.sn 3 (pc' := 10) (L' := [.long (a1 - a1 / (10 : Int32) * (10 : Int32)).toInt64, .retAddr 0, .long (0 : Int64), .retAddr 0, .long ((I 73 7) - (1 : Int32)).toInt64, .retAddr 0]) (S' := [.int (lg_cmp (a1 - a1 / (10 : Int32) * (10 : Int32)).toInt64 ((I 73 7) - (1 : Int32)).toInt64)]) (σ' := (97, I, J, R)) rfl ?_
          refine az_E.br (c := 0 < (lg_cmp (a1 - a1 / (10 : Int32) * (10 : Int32)).toInt64 ((I 73 7) - (1 : Int32)).toInt64)) (tt := 17) (ff := 13) (L' := [.long (a1 - a1 / (10 : Int32) * (10 : Int32)).toInt64, .retAddr 0, .long (0 : Int64), .retAddr 0, .long ((I 73 7) - (1 : Int32)).toInt64, .retAddr 0]) (S' := []) (σ' := (97, I, J, R)) rfl (fun hc_7 => ?_) (fun hc_7 => ?_)
          · rw [if_pos hc_7] at h
            refine az_E.sn 1 (pc' := 18) (L' := [.long (a1 - a1 / (10 : Int32) * (10 : Int32)).toInt64, .retAddr 0, .long (0 : Int64), .retAddr 0, .long ((I 73 7) - (1 : Int32)).toInt64, .retAddr 0]) (S' := [.int (0 : Int32)]) (σ' := (97, I, J, R)) rfl ?_
            refine az_E.ret (v := some (.int (0 : Int32))) (σ' := (97, I, J, R)) rfl ?_
            show az_E az_F ex 1 162 12 [.ref 73, .long (a1 - a1 / (10 : Int32) * (10 : Int32)).toInt64, .retAddr 0] [.int (0 : Int32)] (97, I, J, R) _
            refine az_E.ret (v := some (.int (0 : Int32))) (σ' := (97, I, J, R)) rfl ?_
            show az_E az_F ex 2 164 25 [.ref 73, .int a1] [.int (0 : Int32)] (97, I, J, R) _
            refine az_E.br (c := (0 : Int32) = 0) (tt := 32) (ff := 28) (L' := [.ref 73, .int a1]) (S' := []) (σ' := (97, I, J, R)) rfl (fun _ => ?_) (fun hn => absurd (by decide) hn)
            refine az_E.sn 1 (pc' := 33) (L' := [.ref 73, .int a1]) (S' := [.int (0 : Int32)]) (σ' := (97, I, J, R)) rfl ?_
            have h := Option.some.inj h
            subst h
            exact az_E.ret (v := some (.int (0 : Int32))) (σ' := (97, I, J, R)) rfl hQ
          · rw [if_neg hc_7] at h
            refine az_E.sn 2 (pc' := 18) (L' := [.long (a1 - a1 / (10 : Int32) * (10 : Int32)).toInt64, .retAddr 0, .long (0 : Int64), .retAddr 0, .long ((I 73 7) - (1 : Int32)).toInt64, .retAddr 0]) (S' := [.int (1 : Int32)]) (σ' := (97, I, J, R)) rfl ?_
            refine az_E.ret (v := some (.int (1 : Int32))) (σ' := (97, I, J, R)) rfl ?_
            show az_E az_F ex 1 162 12 [.ref 73, .long (a1 - a1 / (10 : Int32) * (10 : Int32)).toInt64, .retAddr 0] [.int (1 : Int32)] (97, I, J, R) _
            refine az_E.ret (v := some (.int (1 : Int32))) (σ' := (97, I, J, R)) rfl ?_
            show az_E az_F ex 2 164 25 [.ref 73, .int a1] [.int (1 : Int32)] (97, I, J, R) _
            refine az_E.br (c := (1 : Int32) = 0) (tt := 32) (ff := 28) (L' := [.ref 73, .int a1]) (S' := []) (σ' := (97, I, J, R)) rfl (fun hn => absurd hn (by decide)) (fun _ => ?_)
            refine az_E.sn 2 (pc' := 33) (L' := [.ref 73, .int a1]) (S' := [.int (1 : Int32)]) (σ' := (97, I, J, R)) rfl ?_
            have h := Option.some.inj h
            subst h
            exact az_E.ret (v := some (.int (1 : Int32))) (σ' := (97, I, J, R)) rfl hQ
set_option maxRecDepth 100000 in
set_option maxHeartbeats 4000000 in
theorem re_M_nearestOpen_4_b {ex : az_X} {I : Nat → Nat → Int32} {J : Nat → Nat → Int64} {R : Nat → Nat → Option Nat} {v1 : Int32} {v2 : Int32} {x : ((Int32 × Int32) ⊕ (Int32))} (h : rs_M_nearestOpen_4_b I v1 v2 = some x) {Q : Option Value → az_S → Prop} (hQ : Sum.elim (fun s => az_E az_F ex 0 193 4 [.ref 73, .int s.1, .int s.2] [] (97, I, J, R) Q) (fun x => Q (some (.int x)) (97, I, J, R)) x) : az_E az_F ex 0 193 4 [.ref 73, .int v1, .int v2] [] (97, I, J, R) Q := by
  unfold rs_M_nearestOpen_4_b at h
  refine az_E.sn 2 (pc' := 8) (L' := [.ref 73, .int v1, .int v2]) (S' := [.int (144 : Int32), .int v2]) (σ' := (97, I, J, R)) rfl ?_
  refine az_E.br (c := (144 : Int32) ≤ v2) (tt := 58) (ff := 11) (L' := [.ref 73, .int v1, .int v2]) (S' := []) (σ' := (97, I, J, R)) rfl (fun hc_1 => ?_) (fun hc_1 => ?_)
  · rw [if_pos hc_1] at h
    refine az_E.sn 1 (pc' := 59) (L' := [.ref 73, .int v1, .int v2]) (S' := [.int v1]) (σ' := (97, I, J, R)) rfl ?_
    have h := Option.some.inj h
    subst h
    exact az_E.ret (v := some (.int v1)) (σ' := (97, I, J, R)) rfl hQ
  · rw [if_neg hc_1] at h
    refine az_E.sn 3 (pc' := 16) (L' := [.ref 73, .int v1, .int v2]) (S' := [.int v2, .ref 85]) (σ' := (97, I, J, R)) rfl ?_
    by_cases hc_2 : v2 < 0 ∨ 144 ≤ v2.toNatClampNeg
    · rw [if_pos hc_2] at h; cases h
    · rw [if_neg hc_2] at h
      refine az_E.oi (o := az_az az_F (97, I, J, R) 85 v2) (pc' := 17) (L' := [.ref 73, .int v1, .int v2]) (S' := []) (σ' := (97, I, J, R)) (x := (I 85 v2.toNatClampNeg)) rfl (if_neg hc_2) ?_
      refine az_E.br (c := (I 85 v2.toNatClampNeg) = 0) (tt := 20) (ff := 52) (L' := [.ref 73, .int v1, .int v2]) (S' := []) (σ' := (97, I, J, R)) rfl (fun hc_3 => ?_) (fun hc_3 => ?_)
      · rw [if_pos hc_3] at h
        refine az_E.sn 3 (pc' := 25) (L' := [.ref 73, .int v1, .int v2]) (S' := [.int v2, .ref 84]) (σ' := (97, I, J, R)) rfl ?_
        by_cases hc_4 : v2 < 0 ∨ 144 ≤ v2.toNatClampNeg
        · rw [if_pos hc_4] at h; cases h
        · rw [if_neg hc_4] at h
          refine az_E.oi (o := az_ai az_F ex (97, I, J, R) 84 v2) (pc' := 26) (L' := [.ref 73, .int v1, .int v2]) (S' := []) (σ' := (97, I, J, R)) (x := (I 84 v2.toNatClampNeg)) rfl (if_neg hc_4) ?_
          refine az_E.sn 1 (pc' := 28) (L' := [.ref 73, .int v1, .int v2]) (S' := [.int (1000000 : Int32), .int (I 84 v2.toNatClampNeg)]) (σ' := (97, I, J, R)) rfl ?_
          refine az_E.br (c := (1000000 : Int32) ≤ (I 84 v2.toNatClampNeg)) (tt := 52) (ff := 31) (L' := [.ref 73, .int v1, .int v2]) (S' := []) (σ' := (97, I, J, R)) rfl (fun hc_5 => ?_) (fun hc_5 => ?_)
          · rw [if_pos hc_5] at h
            refine az_E.sn 2 (pc' := 4) (L' := [.ref 73, .int v1, .int (v2 + (1 : Int32))]) (S' := []) (σ' := (97, I, J, R)) rfl ?_
            have h := Option.some.inj h
            subst h
            exact az_E.forget (L := [.ref 73, .int v1, .int (v2 + (1 : Int32))]) ⟨rfl, rfl, rfl, trivial⟩ hQ
          · rw [if_neg hc_5] at h
            refine az_E.sn 1 (pc' := 32) (L' := [.ref 73, .int v1, .int v2]) (S' := [.int v1]) (σ' := (97, I, J, R)) rfl ?_
            refine az_E.br (c := v1 < 0) (tt := 50) (ff := 35) (L' := [.ref 73, .int v1, .int v2]) (S' := []) (σ' := (97, I, J, R)) rfl (fun hc_6 => ?_) (fun hc_6 => ?_)
            · rw [if_pos hc_6] at h
              refine az_E.sn 4 (pc' := 4) (L' := [.ref 73, .int v2, .int (v2 + (1 : Int32))]) (S' := []) (σ' := (97, I, J, R)) rfl ?_
              have h := Option.some.inj h
              subst h
              exact az_E.forget (L := [.ref 73, .int v2, .int (v2 + (1 : Int32))]) ⟨rfl, rfl, rfl, trivial⟩ hQ
            · rw [if_neg hc_6] at h
              refine az_E.sn 3 (pc' := 40) (L' := [.ref 73, .int v1, .int v2]) (S' := [.int v2, .ref 84]) (σ' := (97, I, J, R)) rfl ?_
              by_cases hc_7 : v2 < 0 ∨ 144 ≤ v2.toNatClampNeg
              · rw [if_pos hc_7] at h; cases h
              · rw [if_neg hc_7] at h
                refine az_E.oi (o := az_ai az_F ex (97, I, J, R) 84 v2) (pc' := 41) (L' := [.ref 73, .int v1, .int v2]) (S' := []) (σ' := (97, I, J, R)) (x := (I 84 v2.toNatClampNeg)) rfl (if_neg hc_7) ?_
                refine az_E.sn 3 (pc' := 46) (L' := [.ref 73, .int v1, .int v2]) (S' := [.int v1, .ref 84, .int (I 84 v2.toNatClampNeg)]) (σ' := (97, I, J, R)) rfl ?_
                by_cases hc_8 : v1 < 0 ∨ 144 ≤ v1.toNatClampNeg
                · rw [if_pos hc_8] at h; cases h
                · rw [if_neg hc_8] at h
                  refine az_E.oi (o := az_ai az_F ex (97, I, J, R) 84 v1) (pc' := 47) (L' := [.ref 73, .int v1, .int v2]) (S' := [.int (I 84 v2.toNatClampNeg)]) (σ' := (97, I, J, R)) (x := (I 84 v1.toNatClampNeg)) rfl (if_neg hc_8) ?_
                  refine az_E.br (c := (I 84 v1.toNatClampNeg) ≤ (I 84 v2.toNatClampNeg)) (tt := 52) (ff := 50) (L' := [.ref 73, .int v1, .int v2]) (S' := []) (σ' := (97, I, J, R)) rfl (fun hc_9 => ?_) (fun hc_9 => ?_)
                  · rw [if_pos hc_9] at h
                    refine az_E.sn 2 (pc' := 4) (L' := [.ref 73, .int v1, .int (v2 + (1 : Int32))]) (S' := []) (σ' := (97, I, J, R)) rfl ?_
                    have h := Option.some.inj h
                    subst h
                    exact az_E.forget (L := [.ref 73, .int v1, .int (v2 + (1 : Int32))]) ⟨rfl, rfl, rfl, trivial⟩ hQ
                  · rw [if_neg hc_9] at h
                    refine az_E.sn 4 (pc' := 4) (L' := [.ref 73, .int v2, .int (v2 + (1 : Int32))]) (S' := []) (σ' := (97, I, J, R)) rfl ?_
                    have h := Option.some.inj h
                    subst h
                    exact az_E.forget (L := [.ref 73, .int v2, .int (v2 + (1 : Int32))]) ⟨rfl, rfl, rfl, trivial⟩ hQ
      · rw [if_neg hc_3] at h
        refine az_E.sn 2 (pc' := 4) (L' := [.ref 73, .int v1, .int (v2 + (1 : Int32))]) (S' := []) (σ' := (97, I, J, R)) rfl ?_
        have h := Option.some.inj h
        subst h
        exact az_E.forget (L := [.ref 73, .int v1, .int (v2 + (1 : Int32))]) ⟨rfl, rfl, rfl, trivial⟩ hQ
set_option maxRecDepth 100000 in
set_option maxHeartbeats 4000000 in
theorem re_M_nearestOpen_4 {ex : az_X} {I : Nat → Nat → Int32} {J : Nat → Nat → Int64} {R : Nat → Nat → Option Nat} {v1 : Int32} {v2 : Int32} {x : Int32} (h : rs_M_nearestOpen_4 I v1 v2 = some x) {Q : Option Value → az_S → Prop} (hQ : Q (some (.int x)) (97, I, J, R)) : az_E az_F ex 0 193 4 [.ref 73, .int v1, .int v2] [] (97, I, J, R) Q := by
  unfold rs_M_nearestOpen_4 at h
  refine az_lp_E (G := fun s => az_E az_F ex 0 193 4 [.ref 73, .int s.1, .int s.2] [] (97, I, J, R) Q) (H := fun x => Q (some (.int x)) (97, I, J, R)) (fun s o hb ho => ?_) _ _ _ h hQ
  exact re_M_nearestOpen_4_b  hb ho
set_option maxRecDepth 100000 in
set_option maxHeartbeats 4000000 in
theorem re_M_nearestOpen {ex : az_X} {I : Nat → Nat → Int32} {J : Nat → Nat → Int64} {R : Nat → Nat → Option Nat} {o : Int32} (h : rs_M_nearestOpen I = some o) {Q : Option Value → az_S → Prop} (hQ : Q (some (.int o)) (97, I, J, R)) : az_E az_F ex 0 193 0 [.ref 73, .retAddr 0, .retAddr 0] [] (97, I, J, R) Q := by
  unfold rs_M_nearestOpen at h
  refine az_E.sn 4 (pc' := 4) (L' := [.ref 73, .int (-1 : Int32), .int (0 : Int32)]) (S' := []) (σ' := (97, I, J, R)) rfl ?_
  exact az_E.forget (L := [.ref 73, .int (-1 : Int32), .int (0 : Int32)]) ⟨rfl, rfl, rfl, trivial⟩ (re_M_nearestOpen_4 (I := I) (J := J) (R := R)  h hQ)
set_option maxRecDepth 100000 in
set_option maxHeartbeats 4000000 in
theorem re_M_asksMinutes_144 {ex : az_X} {I : Nat → Nat → Int32} {J : Nat → Nat → Int64} {R : Nat → Nat → Option Nat} {v2 : Int32} {x : ((Int32 × (Nat → Nat → Int32)) ⊕ ((Nat → Nat → Int32)))} (h : rs_M_asksMinutes_144 I v2 = some x) {Q : Option Value → az_S → Prop} (hQ : Sum.elim (fun s => az_E az_F ex 2 194 44 [.ref 73, .retAddr 0, .int v2, .int s.1, .retAddr 0, .retAddr 0, .retAddr 0] [] (97, s.2, J, R) Q) (fun x => Q none (97, x, J, R)) x) : az_E az_F ex 2 194 144 [.ref 73, .retAddr 0, .int v2, .retAddr 0, .retAddr 0, .retAddr 0, .retAddr 0] [] (97, I, J, R) Q := by
  unfold rs_M_asksMinutes_144 at h
  refine az_E.sn 1 (pc' := 145) (L' := [.ref 73, .retAddr 0, .int v2, .retAddr 0, .retAddr 0, .retAddr 0, .retAddr 0]) (S' := [.ref 73]) (σ' := (97, I, J, R)) rfl ?_
  cases hx_8 : rs_M_nearestOpen I with
  | none => rw [hx_8] at h; cases h
  | some x_7 =>
    rw [hx_8] at h
    dsimp only at h
    refine az_E.call (d := 1) (k' := 193) (vs := [.ref 73]) (pc' := 148) (S' := []) (Q1 := fun v s => v = some (.int x_7) ∧ s = (97, I, J, R)) rfl (az_E.deep (by omega) (re_M_nearestOpen (J := J) (R := R)  hx_8 ⟨rfl, rfl⟩)) (fun v s hq => ?_)
    obtain ⟨rfl, rfl⟩ := hq
    show az_E az_F ex 2 194 148 [.ref 73, .retAddr 0, .int v2, .retAddr 0, .retAddr 0, .retAddr 0, .retAddr 0] [.int x_7] (97, I, J, R) _
    refine az_E.sn 2 (pc' := 44) (L' := [.ref 73, .retAddr 0, .int v2, .int x_7, .retAddr 0, .retAddr 0, .retAddr 0]) (S' := []) (σ' := (97, I, J, R)) rfl ?_
    have h := Option.some.inj h
    subst h
    exact az_E.forget (L := [.ref 73, .retAddr 0, .int v2, .int x_7, .retAddr 0, .retAddr 0, .retAddr 0]) ⟨rfl, trivial, rfl, rfl, trivial, trivial, trivial, trivial⟩ hQ
set_option maxRecDepth 100000 in
set_option maxHeartbeats 4000000 in
theorem re_M_asksMinutes_137 {ex : az_X} {I : Nat → Nat → Int32} {J : Nat → Nat → Int64} {R : Nat → Nat → Option Nat} {v2 : Int32} {v3 : Int32} {v4 : Int32} {s0 : Int32} {s1 : Int32} {x : ((Int32 × (Nat → Nat → Int32)) ⊕ (((Int32 × (Nat → Nat → Int32)) ⊕ ((Nat → Nat → Int32)))))} (h : rs_M_asksMinutes_137 I v2 v3 v4 s0 s1 = some x) {Q : Option Value → az_S → Prop} (hQ : Sum.elim (fun s => az_E az_F ex 2 194 58 [.ref 73, .retAddr 0, .int v2, .int v3, .int s.1, .retAddr 0, .retAddr 0] [] (97, s.2, J, R) Q) (fun x => Sum.elim (fun s => az_E az_F ex 2 194 44 [.ref 73, .retAddr 0, .int v2, .int s.1, .retAddr 0, .retAddr 0, .retAddr 0] [] (97, s.2, J, R) Q) (fun x => Q none (97, x, J, R)) x) x) : az_E az_F ex 2 194 137 [.ref 73, .retAddr 0, .int v2, .int v3, .int v4, .retAddr 0, .retAddr 0] [.int s0, .int s1, .ref 84] (97, I, J, R) Q := by
  unfold rs_M_asksMinutes_137 at h
  by_cases hc_20 : s1 < 0 ∨ 144 ≤ s1.toNatClampNeg
  · rw [if_pos hc_20] at h; cases h
  · rw [if_neg hc_20] at h
    refine az_E.o (o := az_si az_F (97, I, J, R) 84 s1 s0) (pc' := 138) (L' := [.ref 73, .retAddr 0, .int v2, .int v3, .int v4, .retAddr 0, .retAddr 0]) (S' := []) (x := (97, (az_u I 84 s1.toNatClampNeg s0), J, R)) rfl (if_neg hc_20) ?_
    refine az_E.sn 2 (pc' := 58) (L' := [.ref 73, .retAddr 0, .int v2, .int v3, .int (v4 + (1 : Int32)), .retAddr 0, .retAddr 0]) (S' := []) (σ' := (97, (az_u I 84 s1.toNatClampNeg s0), J, R)) rfl ?_
    have h := Option.some.inj h
    subst h
    exact az_E.forget (L := [.ref 73, .retAddr 0, .int v2, .int v3, .int (v4 + (1 : Int32)), .retAddr 0, .retAddr 0]) ⟨rfl, trivial, rfl, rfl, rfl, trivial, trivial, trivial⟩ hQ
set_option maxRecDepth 100000 in
set_option maxHeartbeats 4000000 in
theorem re_M_asksMinutes_104 {ex : az_X} {I : Nat → Nat → Int32} {J : Nat → Nat → Int64} {R : Nat → Nat → Option Nat} {v2 : Int32} {v3 : Int32} {v4 : Int32} {v5 : Int32} {s0 : Int32} {s1 : Int32} {x : ((Int32 × (Nat → Nat → Int32)) ⊕ (((Int32 × (Nat → Nat → Int32)) ⊕ ((Nat → Nat → Int32)))))} (h : rs_M_asksMinutes_104 I v2 v3 v4 v5 s0 s1 = some x) {Q : Option Value → az_S → Prop} (hQ : Sum.elim (fun s => az_E az_F ex 2 194 58 [.ref 73, .retAddr 0, .int v2, .int v3, .int s.1, .retAddr 0, .retAddr 0] [] (97, s.2, J, R) Q) (fun x => Sum.elim (fun s => az_E az_F ex 2 194 44 [.ref 73, .retAddr 0, .int v2, .int s.1, .retAddr 0, .retAddr 0, .retAddr 0] [] (97, s.2, J, R) Q) (fun x => Q none (97, x, J, R)) x) x) : az_E az_F ex 2 194 104 [.ref 73, .retAddr 0, .int v2, .int v3, .int v4, .int v5, .retAddr 0] [.int s0, .int s1] (97, I, J, R) Q := by
  unfold rs_M_asksMinutes_104 at h
  refine az_E.sn 9 (pc' := 121) (L' := [.ref 73, .retAddr 0, .int v2, .int v3, .int v4, .int v5, .int (s1 + s0)]) (S' := [.int v5, .ref 84, .int (s1 + s0), .int v5, .ref 84]) (σ' := (97, I, J, R)) rfl ?_
  by_cases hc_17 : v5 < 0 ∨ 144 ≤ v5.toNatClampNeg
  · rw [if_pos hc_17] at h; cases h
  · rw [if_neg hc_17] at h
    refine az_E.oi (o := az_ai az_F ex (97, I, J, R) 84 v5) (pc' := 122) (L' := [.ref 73, .retAddr 0, .int v2, .int v3, .int v4, .int v5, .int (s1 + s0)]) (S' := [.int (s1 + s0), .int v5, .ref 84]) (σ' := (97, I, J, R)) (x := (I 84 v5.toNatClampNeg)) rfl (if_neg hc_17) ?_
    refine az_E.br (c := (I 84 v5.toNatClampNeg) ≤ (s1 + s0)) (tt := 130) (ff := 125) (L' := [.ref 73, .retAddr 0, .int v2, .int v3, .int v4, .int v5, .int (s1 + s0)]) (S' := [.int v5, .ref 84]) (σ' := (97, I, J, R)) rfl (fun hc_18 => ?_) (fun hc_18 => ?_)
    · rw [if_pos hc_18] at h
      refine az_E.sn 3 (pc' := 136) (L' := [.ref 73, .retAddr 0, .int v2, .int v3, .int v4, .int v5, .int (s1 + s0)]) (S' := [.int v5, .ref 84, .int v5, .ref 84]) (σ' := (97, I, J, R)) rfl ?_
      by_cases hc_19 : v5 < 0 ∨ 144 ≤ v5.toNatClampNeg
      · rw [if_pos hc_19] at h; cases h
      · rw [if_neg hc_19] at h
        refine az_E.oi (o := az_ai az_F ex (97, I, J, R) 84 v5) (pc' := 137) (L' := [.ref 73, .retAddr 0, .int v2, .int v3, .int v4, .int v5, .int (s1 + s0)]) (S' := [.int v5, .ref 84]) (σ' := (97, I, J, R)) (x := (I 84 v5.toNatClampNeg)) rfl (if_neg hc_19) ?_
        exact az_E.forget (L := [.ref 73, .retAddr 0, .int v2, .int v3, .int v4, .retAddr 0, .retAddr 0]) ⟨rfl, trivial, rfl, rfl, rfl, trivial, trivial, trivial⟩ (re_M_asksMinutes_137 (I := I) (J := J) (R := R)  h hQ)
    · rw [if_neg hc_18] at h
      refine az_E.sn 2 (pc' := 137) (L' := [.ref 73, .retAddr 0, .int v2, .int v3, .int v4, .int v5, .int (s1 + s0)]) (S' := [.int (s1 + s0), .int v5, .ref 84]) (σ' := (97, I, J, R)) rfl ?_
      exact az_E.forget (L := [.ref 73, .retAddr 0, .int v2, .int v3, .int v4, .retAddr 0, .retAddr 0]) ⟨rfl, trivial, rfl, rfl, rfl, trivial, trivial, trivial⟩ (re_M_asksMinutes_137 (I := I) (J := J) (R := R)  h hQ)
set_option maxRecDepth 100000 in
set_option maxHeartbeats 4000000 in
theorem re_M_asksMinutes_58_b {ex : az_X} {I : Nat → Nat → Int32} {J : Nat → Nat → Int64} {R : Nat → Nat → Option Nat} {v2 : Int32} {v3 : Int32} {v4 : Int32} {x : ((Int32 × (Nat → Nat → Int32)) ⊕ (((Int32 × (Nat → Nat → Int32)) ⊕ ((Nat → Nat → Int32)))))} (h : rs_M_asksMinutes_58_b v2 v3 v4 I = some x) {Q : Option Value → az_S → Prop} (hQ : Sum.elim (fun s => az_E az_F ex 2 194 58 [.ref 73, .retAddr 0, .int v2, .int v3, .int s.1, .retAddr 0, .retAddr 0] [] (97, s.2, J, R) Q) (fun x => Sum.elim (fun s => az_E az_F ex 2 194 44 [.ref 73, .retAddr 0, .int v2, .int s.1, .retAddr 0, .retAddr 0, .retAddr 0] [] (97, s.2, J, R) Q) (fun x => Q none (97, x, J, R)) x) x) : az_E az_F ex 2 194 58 [.ref 73, .retAddr 0, .int v2, .int v3, .int v4, .retAddr 0, .retAddr 0] [] (97, I, J, R) Q := by
  unfold rs_M_asksMinutes_58_b at h
  refine az_E.sn 2 (pc' := 61) (L' := [.ref 73, .retAddr 0, .int v2, .int v3, .int v4, .retAddr 0, .retAddr 0]) (S' := [.int (4 : Int32), .int v4]) (σ' := (97, I, J, R)) rfl ?_
  refine az_E.br (c := (4 : Int32) ≤ v4) (tt := 144) (ff := 64) (L' := [.ref 73, .retAddr 0, .int v2, .int v3, .int v4, .retAddr 0, .retAddr 0]) (S' := []) (σ' := (97, I, J, R)) rfl (fun hc_6 => ?_) (fun hc_6 => ?_)
  · rw [if_pos hc_6] at h
    obtain ⟨x, hx, rfl⟩ := Option.map_eq_some_iff.mp h
    exact az_E.forget (L := [.ref 73, .retAddr 0, .int v2, .retAddr 0, .retAddr 0, .retAddr 0, .retAddr 0]) ⟨rfl, trivial, rfl, trivial, trivial, trivial, trivial, trivial⟩ (re_M_asksMinutes_144 (I := I) (J := J) (R := R)  hx hQ)
  · rw [if_neg hc_6] at h
    refine az_E.sn 2 (pc' := 67) (L' := [.ref 73, .retAddr 0, .int v2, .int v3, .int v4, .retAddr 0, .retAddr 0]) (S' := [.int v4, .int v3]) (σ' := (97, I, J, R)) rfl ?_
    cases hx_10 : rs_M_beside v3 v4 with
    | none => rw [hx_10] at h; cases h
    | some x_9 =>
      rw [hx_10] at h
      dsimp only at h
      refine az_E.call (d := 1) (k' := 191) (vs := [.int v3, .int v4]) (pc' := 70) (S' := []) (Q1 := fun v s => v = some (.int x_9) ∧ s = (97, I, J, R)) rfl (az_E.deep (by omega) (re_M_beside (J := J) (R := R)  hx_10 ⟨rfl, rfl⟩)) (fun v s hq => ?_)
      obtain ⟨rfl, rfl⟩ := hq
      show az_E az_F ex 2 194 70 [.ref 73, .retAddr 0, .int v2, .int v3, .int v4, .retAddr 0, .retAddr 0] [.int x_9] (97, I, J, R) _
      refine az_E.sn 2 (pc' := 74) (L' := [.ref 73, .retAddr 0, .int v2, .int v3, .int v4, .int x_9, .retAddr 0]) (S' := [.int x_9]) (σ' := (97, I, J, R)) rfl ?_
      refine az_E.br (c := x_9 < 0) (tt := 138) (ff := 77) (L' := [.ref 73, .retAddr 0, .int v2, .int v3, .int v4, .int x_9, .retAddr 0]) (S' := []) (σ' := (97, I, J, R)) rfl (fun hc_11 => ?_) (fun hc_11 => ?_)
      · rw [if_pos hc_11] at h
        refine az_E.sn 2 (pc' := 58) (L' := [.ref 73, .retAddr 0, .int v2, .int v3, .int (v4 + (1 : Int32)), .int x_9, .retAddr 0]) (S' := []) (σ' := (97, I, J, R)) rfl ?_
        have h := Option.some.inj h
        subst h
        exact az_E.forget (L := [.ref 73, .retAddr 0, .int v2, .int v3, .int (v4 + (1 : Int32)), .retAddr 0, .retAddr 0]) ⟨rfl, trivial, rfl, rfl, rfl, trivial, trivial, trivial⟩ hQ
      · rw [if_neg hc_11] at h
        refine az_E.sn 3 (pc' := 82) (L' := [.ref 73, .retAddr 0, .int v2, .int v3, .int v4, .int x_9, .retAddr 0]) (S' := [.int v3, .ref 84]) (σ' := (97, I, J, R)) rfl ?_
        by_cases hc_12 : v3 < 0 ∨ 144 ≤ v3.toNatClampNeg
        · rw [if_pos hc_12] at h; cases h
        · rw [if_neg hc_12] at h
          refine az_E.oi (o := az_ai az_F ex (97, I, J, R) 84 v3) (pc' := 83) (L' := [.ref 73, .retAddr 0, .int v2, .int v3, .int v4, .int x_9, .retAddr 0]) (S' := []) (σ' := (97, I, J, R)) (x := (I 84 v3.toNatClampNeg)) rfl (if_neg hc_12) ?_
          refine az_E.sn 1 (pc' := 84) (L' := [.ref 73, .retAddr 0, .int v2, .int v3, .int v4, .int x_9, .retAddr 0]) (S' := [.int v2, .int (I 84 v3.toNatClampNeg)]) (σ' := (97, I, J, R)) rfl ?_
          refine az_E.br (c := v2 = 0) (tt := 97) (ff := 87) (L' := [.ref 73, .retAddr 0, .int v2, .int v3, .int v4, .int x_9, .retAddr 0]) (S' := [.int (I 84 v3.toNatClampNeg)]) (σ' := (97, I, J, R)) rfl (fun hc_13 => ?_) (fun hc_13 => ?_)
          · rw [if_pos hc_13] at h
            refine az_E.sn 3 (pc' := 101) (L' := [.ref 73, .retAddr 0, .int v2, .int v3, .int v4, .int x_9, .retAddr 0]) (S' := [.int v3, .int x_9, .ref 73, .int (I 84 v3.toNatClampNeg)]) (σ' := (97, I, J, R)) rfl ?_
            refine az_E.call (d := 1) (k' := 192) (vs := [.ref 73, .int x_9, .int v3]) (pc' := 104) (S' := [.int (I 84 v3.toNatClampNeg)]) rfl ?_ (fun _ _ hq => hq)
            show az_E az_F ex 1 192 0 [.ref 73, .int x_9, .int v3] [] (97, I, J, R) _
            refine az_E.sn 6 (pc' := 11) (L' := [.ref 73, .int x_9, .int v3]) (S' := [.int x_9, .ref 74, .int (10 : Int32), .ref 83]) (σ' := (97, I, J, R)) rfl ?_
            by_cases hc_14 : x_9 < 0 ∨ 179 ≤ x_9.toNatClampNeg
            · rw [if_pos hc_14] at h; cases h
            · rw [if_neg hc_14] at h
              refine az_E.oi (o := az_ai az_F ex (97, I, J, R) 74 x_9) (pc' := 12) (L' := [.ref 73, .int x_9, .int v3]) (S' := [.int (10 : Int32), .ref 83]) (σ' := (97, I, J, R)) (x := (I 74 x_9.toNatClampNeg)) rfl (if_neg hc_14) ?_
              refine az_E.sn 4 (pc' := 18) (L' := [.ref 73, .int x_9, .int v3]) (S' := [.int v3, .ref 74, .int ((10 : Int32) * (I 74 x_9.toNatClampNeg)), .ref 83]) (σ' := (97, I, J, R)) rfl ?_
              by_cases hc_15 : v3 < 0 ∨ 179 ≤ v3.toNatClampNeg
              · rw [if_pos hc_15] at h; cases h
              · rw [if_neg hc_15] at h
                refine az_E.oi (o := az_ai az_F ex (97, I, J, R) 74 v3) (pc' := 19) (L' := [.ref 73, .int x_9, .int v3]) (S' := [.int ((10 : Int32) * (I 74 x_9.toNatClampNeg)), .ref 83]) (σ' := (97, I, J, R)) (x := (I 74 v3.toNatClampNeg)) rfl (if_neg hc_15) ?_
                refine az_E.sn 1 (pc' := 20) (L' := [.ref 73, .int x_9, .int v3]) (S' := [.int (((10 : Int32) * (I 74 x_9.toNatClampNeg)) + (I 74 v3.toNatClampNeg)), .ref 83]) (σ' := (97, I, J, R)) rfl ?_
                by_cases hc_16 : (((10 : Int32) * (I 74 x_9.toNatClampNeg)) + (I 74 v3.toNatClampNeg)) < 0 ∨ 100 ≤ (((10 : Int32) * (I 74 x_9.toNatClampNeg)) + (I 74 v3.toNatClampNeg)).toNatClampNeg
                · rw [if_pos hc_16] at h; cases h
                · rw [if_neg hc_16] at h
                  refine az_E.oi (o := az_ai az_F ex (97, I, J, R) 83 (((10 : Int32) * (I 74 x_9.toNatClampNeg)) + (I 74 v3.toNatClampNeg))) (pc' := 21) (L' := [.ref 73, .int x_9, .int v3]) (S' := []) (σ' := (97, I, J, R)) (x := (I 83 (((10 : Int32) * (I 74 x_9.toNatClampNeg)) + (I 74 v3.toNatClampNeg)).toNatClampNeg)) rfl (if_neg hc_16) ?_
                  refine az_E.ret (v := some (.int (I 83 (((10 : Int32) * (I 74 x_9.toNatClampNeg)) + (I 74 v3.toNatClampNeg)).toNatClampNeg))) (σ' := (97, I, J, R)) rfl ?_
                  show az_E az_F ex 2 194 104 [.ref 73, .retAddr 0, .int v2, .int v3, .int v4, .int x_9, .retAddr 0] [.int (I 83 (((10 : Int32) * (I 74 x_9.toNatClampNeg)) + (I 74 v3.toNatClampNeg)).toNatClampNeg), .int (I 84 v3.toNatClampNeg)] (97, I, J, R) _
                  exact az_E.forget (L := [.ref 73, .retAddr 0, .int v2, .int v3, .int v4, .int x_9, .retAddr 0]) ⟨rfl, trivial, rfl, rfl, rfl, rfl, trivial, trivial⟩ (re_M_asksMinutes_104 (I := I) (J := J) (R := R)  h hQ)
          · rw [if_neg hc_13] at h
            refine az_E.sn 3 (pc' := 91) (L' := [.ref 73, .retAddr 0, .int v2, .int v3, .int v4, .int x_9, .retAddr 0]) (S' := [.int x_9, .int v3, .ref 73, .int (I 84 v3.toNatClampNeg)]) (σ' := (97, I, J, R)) rfl ?_
            refine az_E.call (d := 1) (k' := 192) (vs := [.ref 73, .int v3, .int x_9]) (pc' := 94) (S' := [.int (I 84 v3.toNatClampNeg)]) rfl ?_ (fun _ _ hq => hq)
            show az_E az_F ex 1 192 0 [.ref 73, .int v3, .int x_9] [] (97, I, J, R) _
            refine az_E.sn 6 (pc' := 11) (L' := [.ref 73, .int v3, .int x_9]) (S' := [.int v3, .ref 74, .int (10 : Int32), .ref 83]) (σ' := (97, I, J, R)) rfl ?_
            by_cases hc_21 : v3 < 0 ∨ 179 ≤ v3.toNatClampNeg
            · rw [if_pos hc_21] at h; cases h
            · rw [if_neg hc_21] at h
              refine az_E.oi (o := az_ai az_F ex (97, I, J, R) 74 v3) (pc' := 12) (L' := [.ref 73, .int v3, .int x_9]) (S' := [.int (10 : Int32), .ref 83]) (σ' := (97, I, J, R)) (x := (I 74 v3.toNatClampNeg)) rfl (if_neg hc_21) ?_
              refine az_E.sn 4 (pc' := 18) (L' := [.ref 73, .int v3, .int x_9]) (S' := [.int x_9, .ref 74, .int ((10 : Int32) * (I 74 v3.toNatClampNeg)), .ref 83]) (σ' := (97, I, J, R)) rfl ?_
              by_cases hc_22 : x_9 < 0 ∨ 179 ≤ x_9.toNatClampNeg
              · rw [if_pos hc_22] at h; cases h
              · rw [if_neg hc_22] at h
                refine az_E.oi (o := az_ai az_F ex (97, I, J, R) 74 x_9) (pc' := 19) (L' := [.ref 73, .int v3, .int x_9]) (S' := [.int ((10 : Int32) * (I 74 v3.toNatClampNeg)), .ref 83]) (σ' := (97, I, J, R)) (x := (I 74 x_9.toNatClampNeg)) rfl (if_neg hc_22) ?_
                refine az_E.sn 1 (pc' := 20) (L' := [.ref 73, .int v3, .int x_9]) (S' := [.int (((10 : Int32) * (I 74 v3.toNatClampNeg)) + (I 74 x_9.toNatClampNeg)), .ref 83]) (σ' := (97, I, J, R)) rfl ?_
                by_cases hc_23 : (((10 : Int32) * (I 74 v3.toNatClampNeg)) + (I 74 x_9.toNatClampNeg)) < 0 ∨ 100 ≤ (((10 : Int32) * (I 74 v3.toNatClampNeg)) + (I 74 x_9.toNatClampNeg)).toNatClampNeg
                · rw [if_pos hc_23] at h; cases h
                · rw [if_neg hc_23] at h
                  refine az_E.oi (o := az_ai az_F ex (97, I, J, R) 83 (((10 : Int32) * (I 74 v3.toNatClampNeg)) + (I 74 x_9.toNatClampNeg))) (pc' := 21) (L' := [.ref 73, .int v3, .int x_9]) (S' := []) (σ' := (97, I, J, R)) (x := (I 83 (((10 : Int32) * (I 74 v3.toNatClampNeg)) + (I 74 x_9.toNatClampNeg)).toNatClampNeg)) rfl (if_neg hc_23) ?_
                  refine az_E.ret (v := some (.int (I 83 (((10 : Int32) * (I 74 v3.toNatClampNeg)) + (I 74 x_9.toNatClampNeg)).toNatClampNeg))) (σ' := (97, I, J, R)) rfl ?_
                  show az_E az_F ex 2 194 94 [.ref 73, .retAddr 0, .int v2, .int v3, .int v4, .int x_9, .retAddr 0] [.int (I 83 (((10 : Int32) * (I 74 v3.toNatClampNeg)) + (I 74 x_9.toNatClampNeg)).toNatClampNeg), .int (I 84 v3.toNatClampNeg)] (97, I, J, R) _
                  refine az_E.sn 1 (pc' := 104) (L' := [.ref 73, .retAddr 0, .int v2, .int v3, .int v4, .int x_9, .retAddr 0]) (S' := [.int (I 83 (((10 : Int32) * (I 74 v3.toNatClampNeg)) + (I 74 x_9.toNatClampNeg)).toNatClampNeg), .int (I 84 v3.toNatClampNeg)]) (σ' := (97, I, J, R)) rfl ?_
                  exact az_E.forget (L := [.ref 73, .retAddr 0, .int v2, .int v3, .int v4, .int x_9, .retAddr 0]) ⟨rfl, trivial, rfl, rfl, rfl, rfl, trivial, trivial⟩ (re_M_asksMinutes_104 (I := I) (J := J) (R := R)  h hQ)
set_option maxRecDepth 100000 in
set_option maxHeartbeats 4000000 in
theorem re_M_asksMinutes_58 {ex : az_X} {I : Nat → Nat → Int32} {J : Nat → Nat → Int64} {R : Nat → Nat → Option Nat} {v2 : Int32} {v3 : Int32} {v4 : Int32} {x : ((Int32 × (Nat → Nat → Int32)) ⊕ ((Nat → Nat → Int32)))} (h : rs_M_asksMinutes_58 I v2 v3 v4 = some x) {Q : Option Value → az_S → Prop} (hQ : Sum.elim (fun s => az_E az_F ex 2 194 44 [.ref 73, .retAddr 0, .int v2, .int s.1, .retAddr 0, .retAddr 0, .retAddr 0] [] (97, s.2, J, R) Q) (fun x => Q none (97, x, J, R)) x) : az_E az_F ex 2 194 58 [.ref 73, .retAddr 0, .int v2, .int v3, .int v4, .retAddr 0, .retAddr 0] [] (97, I, J, R) Q := by
  unfold rs_M_asksMinutes_58 at h
  refine az_lp_E (G := fun s => az_E az_F ex 2 194 58 [.ref 73, .retAddr 0, .int v2, .int v3, .int s.1, .retAddr 0, .retAddr 0] [] (97, s.2, J, R) Q) (H := fun x => Sum.elim (fun s => az_E az_F ex 2 194 44 [.ref 73, .retAddr 0, .int v2, .int s.1, .retAddr 0, .retAddr 0, .retAddr 0] [] (97, s.2, J, R) Q) (fun x => Q none (97, x, J, R)) x) (fun s o hb ho => ?_) _ _ _ h hQ
  exact re_M_asksMinutes_58_b  hb ho
set_option maxRecDepth 100000 in
set_option maxHeartbeats 4000000 in
theorem re_M_asksMinutes_44_b {ex : az_X} {I : Nat → Nat → Int32} {J : Nat → Nat → Int64} {R : Nat → Nat → Option Nat} {v2 : Int32} {v3 : Int32} {x : ((Int32 × (Nat → Nat → Int32)) ⊕ ((Nat → Nat → Int32)))} (h : rs_M_asksMinutes_44_b v2 v3 I = some x) {Q : Option Value → az_S → Prop} (hQ : Sum.elim (fun s => az_E az_F ex 2 194 44 [.ref 73, .retAddr 0, .int v2, .int s.1, .retAddr 0, .retAddr 0, .retAddr 0] [] (97, s.2, J, R) Q) (fun x => Q none (97, x, J, R)) x) : az_E az_F ex 2 194 44 [.ref 73, .retAddr 0, .int v2, .int v3, .retAddr 0, .retAddr 0, .retAddr 0] [] (97, I, J, R) Q := by
  unfold rs_M_asksMinutes_44_b at h
  refine az_E.sn 1 (pc' := 45) (L' := [.ref 73, .retAddr 0, .int v2, .int v3, .retAddr 0, .retAddr 0, .retAddr 0]) (S' := [.int v3]) (σ' := (97, I, J, R)) rfl ?_
  refine az_E.br (c := v3 < 0) (tt := 152) (ff := 48) (L' := [.ref 73, .retAddr 0, .int v2, .int v3, .retAddr 0, .retAddr 0, .retAddr 0]) (S' := []) (σ' := (97, I, J, R)) rfl (fun hc_4 => ?_) (fun hc_4 => ?_)
  · rw [if_pos hc_4] at h
    have h := Option.some.inj h
    subst h
    exact az_E.ret (v := none) (σ' := (97, I, J, R)) rfl hQ
  · rw [if_neg hc_4] at h
    refine az_E.sn 4 (pc' := 54) (L' := [.ref 73, .retAddr 0, .int v2, .int v3, .retAddr 0, .retAddr 0, .retAddr 0]) (S' := [.int (1 : Int32), .int v3, .ref 85]) (σ' := (97, I, J, R)) rfl ?_
    by_cases hc_5 : v3 < 0 ∨ 144 ≤ v3.toNatClampNeg
    · rw [if_pos hc_5] at h; cases h
    · rw [if_neg hc_5] at h
      refine az_E.o (o := az_sz az_F (97, I, J, R) 85 v3 (1 : Int32)) (pc' := 55) (L' := [.ref 73, .retAddr 0, .int v2, .int v3, .retAddr 0, .retAddr 0, .retAddr 0]) (S' := []) (x := (97, (az_u I 85 v3.toNatClampNeg (1 : Int32)), J, R)) rfl ((if_neg hc_5).trans rfl) ?_
      refine az_E.sn 2 (pc' := 58) (L' := [.ref 73, .retAddr 0, .int v2, .int v3, .int (0 : Int32), .retAddr 0, .retAddr 0]) (S' := []) (σ' := (97, (az_u I 85 v3.toNatClampNeg (1 : Int32)), J, R)) rfl ?_
      exact az_E.forget (L := [.ref 73, .retAddr 0, .int v2, .int v3, .int (0 : Int32), .retAddr 0, .retAddr 0]) ⟨rfl, trivial, rfl, rfl, rfl, trivial, trivial, trivial⟩ (re_M_asksMinutes_58 (I := (az_u I 85 v3.toNatClampNeg (1 : Int32))) (J := J) (R := R)  h hQ)
set_option maxRecDepth 100000 in
set_option maxHeartbeats 4000000 in
theorem re_M_asksMinutes_44 {ex : az_X} {I : Nat → Nat → Int32} {J : Nat → Nat → Int64} {R : Nat → Nat → Option Nat} {v2 : Int32} {v3 : Int32} {x : (Nat → Nat → Int32)} (h : rs_M_asksMinutes_44 I v2 v3 = some x) {Q : Option Value → az_S → Prop} (hQ : Q none (97, x, J, R)) : az_E az_F ex 2 194 44 [.ref 73, .retAddr 0, .int v2, .int v3, .retAddr 0, .retAddr 0, .retAddr 0] [] (97, I, J, R) Q := by
  unfold rs_M_asksMinutes_44 at h
  refine az_lp_E (G := fun s => az_E az_F ex 2 194 44 [.ref 73, .retAddr 0, .int v2, .int s.1, .retAddr 0, .retAddr 0, .retAddr 0] [] (97, s.2, J, R) Q) (H := fun x => Q none (97, x, J, R)) (fun s o hb ho => ?_) _ _ _ h hQ
  exact re_M_asksMinutes_44_b  hb ho
set_option maxRecDepth 100000 in
set_option maxHeartbeats 4000000 in
theorem re_M_asksMinutes_39 {ex : az_X} {I : Nat → Nat → Int32} {J : Nat → Nat → Int64} {R : Nat → Nat → Option Nat} {v2 : Int32} {x : (Nat → Nat → Int32)} (h : rs_M_asksMinutes_39 I v2 = some x) {Q : Option Value → az_S → Prop} (hQ : Q none (97, x, J, R)) : az_E az_F ex 2 194 39 [.ref 73, .retAddr 0, .int v2, .retAddr 0, .retAddr 0, .retAddr 0, .retAddr 0] [] (97, I, J, R) Q := by
  unfold rs_M_asksMinutes_39 at h
  refine az_E.sn 1 (pc' := 40) (L' := [.ref 73, .retAddr 0, .int v2, .retAddr 0, .retAddr 0, .retAddr 0, .retAddr 0]) (S' := [.ref 73]) (σ' := (97, I, J, R)) rfl ?_
  cases hx_3 : rs_M_nearestOpen I with
  | none => rw [hx_3] at h; cases h
  | some x_2 =>
    rw [hx_3] at h
    dsimp only at h
    refine az_E.call (d := 1) (k' := 193) (vs := [.ref 73]) (pc' := 43) (S' := []) (Q1 := fun v s => v = some (.int x_2) ∧ s = (97, I, J, R)) rfl (az_E.deep (by omega) (re_M_nearestOpen (J := J) (R := R)  hx_3 ⟨rfl, rfl⟩)) (fun v s hq => ?_)
    obtain ⟨rfl, rfl⟩ := hq
    show az_E az_F ex 2 194 43 [.ref 73, .retAddr 0, .int v2, .retAddr 0, .retAddr 0, .retAddr 0, .retAddr 0] [.int x_2] (97, I, J, R) _
    refine az_E.sn 1 (pc' := 44) (L' := [.ref 73, .retAddr 0, .int v2, .int x_2, .retAddr 0, .retAddr 0, .retAddr 0]) (S' := []) (σ' := (97, I, J, R)) rfl ?_
    exact az_E.forget (L := [.ref 73, .retAddr 0, .int v2, .int x_2, .retAddr 0, .retAddr 0, .retAddr 0]) ⟨rfl, trivial, rfl, rfl, trivial, trivial, trivial, trivial⟩ (re_M_asksMinutes_44 (I := I) (J := J) (R := R)  h hQ)
set_option maxRecDepth 100000 in
set_option maxHeartbeats 4000000 in
theorem re_M_asksMinutes_25 {ex : az_X} {I : Nat → Nat → Int32} {J : Nat → Nat → Int64} {R : Nat → Nat → Option Nat} {v1 : Int32} {v2 : Int32} {v3 : Int32} {s0 : Int32} {s1 : Int32} {x : ((Int32 × (Nat → Nat → Int32)) ⊕ ((Nat → Nat → Int32)))} (h : rs_M_asksMinutes_25 I v1 v2 v3 s0 s1 = some x) {Q : Option Value → az_S → Prop} (hQ : Sum.elim (fun s => az_E az_F ex 2 194 2 [.ref 73, .int v1, .int v2, .int s.1, .retAddr 0, .retAddr 0, .retAddr 0] [] (97, s.2, J, R) Q) (fun x => Q none (97, x, J, R)) x) : az_E az_F ex 2 194 25 [.ref 73, .int v1, .int v2, .int v3, .retAddr 0, .retAddr 0, .retAddr 0] [.int s0, .int s1, .ref 84] (97, I, J, R) Q := by
  unfold rs_M_asksMinutes_25 at h
  by_cases hc_25 : s1 < 0 ∨ 144 ≤ s1.toNatClampNeg
  · rw [if_pos hc_25] at h; cases h
  · rw [if_neg hc_25] at h
    refine az_E.o (o := az_si az_F (97, I, J, R) 84 s1 s0) (pc' := 26) (L' := [.ref 73, .int v1, .int v2, .int v3, .retAddr 0, .retAddr 0, .retAddr 0]) (S' := []) (x := (97, (az_u I 84 s1.toNatClampNeg s0), J, R)) rfl (if_neg hc_25) ?_
    refine az_E.sn 4 (pc' := 32) (L' := [.ref 73, .int v1, .int v2, .int v3, .retAddr 0, .retAddr 0, .retAddr 0]) (S' := [.int (0 : Int32), .int v3, .ref 85]) (σ' := (97, (az_u I 84 s1.toNatClampNeg s0), J, R)) rfl ?_
    by_cases hc_26 : v3 < 0 ∨ 144 ≤ v3.toNatClampNeg
    · rw [if_pos hc_26] at h; cases h
    · rw [if_neg hc_26] at h
      refine az_E.o (o := az_sz az_F (97, (az_u I 84 s1.toNatClampNeg s0), J, R) 85 v3 (0 : Int32)) (pc' := 33) (L' := [.ref 73, .int v1, .int v2, .int v3, .retAddr 0, .retAddr 0, .retAddr 0]) (S' := []) (x := (97, (az_u (az_u I 84 s1.toNatClampNeg s0) 85 v3.toNatClampNeg (0 : Int32)), J, R)) rfl ((if_neg hc_26).trans rfl) ?_
      refine az_E.sn 2 (pc' := 2) (L' := [.ref 73, .int v1, .int v2, .int (v3 + (1 : Int32)), .retAddr 0, .retAddr 0, .retAddr 0]) (S' := []) (σ' := (97, (az_u (az_u I 84 s1.toNatClampNeg s0) 85 v3.toNatClampNeg (0 : Int32)), J, R)) rfl ?_
      have h := Option.some.inj h
      subst h
      exact az_E.forget (L := [.ref 73, .int v1, .int v2, .int (v3 + (1 : Int32)), .retAddr 0, .retAddr 0, .retAddr 0]) ⟨rfl, rfl, rfl, rfl, trivial, trivial, trivial, trivial⟩ hQ
set_option maxRecDepth 100000 in
set_option maxHeartbeats 4000000 in
theorem re_M_asksMinutes_2_b {ex : az_X} {I : Nat → Nat → Int32} {J : Nat → Nat → Int64} {R : Nat → Nat → Option Nat} {v1 : Int32} {v2 : Int32} {v3 : Int32} {x : ((Int32 × (Nat → Nat → Int32)) ⊕ ((Nat → Nat → Int32)))} (h : rs_M_asksMinutes_2_b v1 v2 v3 I = some x) {Q : Option Value → az_S → Prop} (hQ : Sum.elim (fun s => az_E az_F ex 2 194 2 [.ref 73, .int v1, .int v2, .int s.1, .retAddr 0, .retAddr 0, .retAddr 0] [] (97, s.2, J, R) Q) (fun x => Q none (97, x, J, R)) x) : az_E az_F ex 2 194 2 [.ref 73, .int v1, .int v2, .int v3, .retAddr 0, .retAddr 0, .retAddr 0] [] (97, I, J, R) Q := by
  unfold rs_M_asksMinutes_2_b at h
  refine az_E.sn 2 (pc' := 6) (L' := [.ref 73, .int v1, .int v2, .int v3, .retAddr 0, .retAddr 0, .retAddr 0]) (S' := [.int (144 : Int32), .int v3]) (σ' := (97, I, J, R)) rfl ?_
  refine az_E.br (c := (144 : Int32) ≤ v3) (tt := 39) (ff := 9) (L' := [.ref 73, .int v1, .int v2, .int v3, .retAddr 0, .retAddr 0, .retAddr 0]) (S' := []) (σ' := (97, I, J, R)) rfl (fun hc_1 => ?_) (fun hc_1 => ?_)
  · rw [if_pos hc_1] at h
    obtain ⟨x, hx, rfl⟩ := Option.map_eq_some_iff.mp h
    exact az_E.forget (L := [.ref 73, .retAddr 0, .int v2, .retAddr 0, .retAddr 0, .retAddr 0, .retAddr 0]) ⟨rfl, trivial, rfl, trivial, trivial, trivial, trivial, trivial⟩ (re_M_asksMinutes_39 (I := I) (J := J) (R := R)  hx hQ)
  · rw [if_neg hc_1] at h
    refine az_E.sn 5 (pc' := 16) (L' := [.ref 73, .int v1, .int v2, .int v3, .retAddr 0, .retAddr 0, .retAddr 0]) (S' := [.int v1, .int v3, .int v3, .ref 84]) (σ' := (97, I, J, R)) rfl ?_
    refine az_E.br (c := v3 = v1) (tt := 19) (ff := 23) (L' := [.ref 73, .int v1, .int v2, .int v3, .retAddr 0, .retAddr 0, .retAddr 0]) (S' := [.int v3, .ref 84]) (σ' := (97, I, J, R)) rfl (fun hc_24 => ?_) (fun hc_24 => ?_)
    · rw [if_pos hc_24] at h
      refine az_E.sn 2 (pc' := 25) (L' := [.ref 73, .int v1, .int v2, .int v3, .retAddr 0, .retAddr 0, .retAddr 0]) (S' := [.int (0 : Int32), .int v3, .ref 84]) (σ' := (97, I, J, R)) rfl ?_
      exact az_E.forget (L := [.ref 73, .int v1, .int v2, .int v3, .retAddr 0, .retAddr 0, .retAddr 0]) ⟨rfl, rfl, rfl, rfl, trivial, trivial, trivial, trivial⟩ (re_M_asksMinutes_25 (I := I) (J := J) (R := R)  h hQ)
    · rw [if_neg hc_24] at h
      refine az_E.sn 1 (pc' := 25) (L' := [.ref 73, .int v1, .int v2, .int v3, .retAddr 0, .retAddr 0, .retAddr 0]) (S' := [.int (1000000 : Int32), .int v3, .ref 84]) (σ' := (97, I, J, R)) rfl ?_
      exact az_E.forget (L := [.ref 73, .int v1, .int v2, .int v3, .retAddr 0, .retAddr 0, .retAddr 0]) ⟨rfl, rfl, rfl, rfl, trivial, trivial, trivial, trivial⟩ (re_M_asksMinutes_25 (I := I) (J := J) (R := R)  h hQ)
set_option maxRecDepth 100000 in
set_option maxHeartbeats 4000000 in
theorem re_M_asksMinutes_2 {ex : az_X} {I : Nat → Nat → Int32} {J : Nat → Nat → Int64} {R : Nat → Nat → Option Nat} {v1 : Int32} {v2 : Int32} {v3 : Int32} {x : (Nat → Nat → Int32)} (h : rs_M_asksMinutes_2 I v1 v2 v3 = some x) {Q : Option Value → az_S → Prop} (hQ : Q none (97, x, J, R)) : az_E az_F ex 2 194 2 [.ref 73, .int v1, .int v2, .int v3, .retAddr 0, .retAddr 0, .retAddr 0] [] (97, I, J, R) Q := by
  unfold rs_M_asksMinutes_2 at h
  refine az_lp_E (G := fun s => az_E az_F ex 2 194 2 [.ref 73, .int v1, .int v2, .int s.1, .retAddr 0, .retAddr 0, .retAddr 0] [] (97, s.2, J, R) Q) (H := fun x => Q none (97, x, J, R)) (fun s o hb ho => ?_) _ _ _ h hQ
  exact re_M_asksMinutes_2_b  hb ho
set_option maxRecDepth 100000 in
set_option maxHeartbeats 4000000 in
theorem re_M_asksMinutes {ex : az_X} {I : Nat → Nat → Int32} {J : Nat → Nat → Int64} {R : Nat → Nat → Option Nat} {a1 : Int32} {a2 : Int32} {o : (Nat → Nat → Int32)} (h : rs_M_asksMinutes I a1 a2 = some o) {Q : Option Value → az_S → Prop} (hQ : Q none (97, o, J, R)) : az_E az_F ex 2 194 0 [.ref 73, .int a1, .int a2, .retAddr 0, .retAddr 0, .retAddr 0, .retAddr 0] [] (97, I, J, R) Q := by
  unfold rs_M_asksMinutes at h
  refine az_E.sn 2 (pc' := 2) (L' := [.ref 73, .int a1, .int a2, .int (0 : Int32), .retAddr 0, .retAddr 0, .retAddr 0]) (S' := []) (σ' := (97, I, J, R)) rfl ?_
  exact az_E.forget (L := [.ref 73, .int a1, .int a2, .int (0 : Int32), .retAddr 0, .retAddr 0, .retAddr 0]) ⟨rfl, rfl, rfl, rfl, trivial, trivial, trivial, trivial⟩ (re_M_asksMinutes_2 (I := I) (J := J) (R := R)  h hQ)
set_option maxRecDepth 100000 in
set_option maxHeartbeats 4000000 in
theorem re_M_between {ex : az_X} {I : Nat → Nat → Int32} {J : Nat → Nat → Int64} {R : Nat → Nat → Option Nat} {a1 : Int32} {a2 : Int32} {o : Int32 × (Nat → Nat → Int32)} (h : rs_M_between I a1 a2 = some o) {Q : Option Value → az_S → Prop} (hQ : Q (some (.int o.1)) (97, o.2, J, R)) : az_E az_F ex 3 195 0 [.ref 73, .int a1, .int a2] [] (97, I, J, R) Q := by
  unfold rs_M_between at h
  refine az_E.sn 3 (pc' := 3) (L' := [.ref 73, .int a1, .int a2]) (S' := [.int (0 : Int32), .int a2, .ref 73]) (σ' := (97, I, J, R)) rfl ?_
  cases hx_2 : rs_M_asksMinutes I a2 (0 : Int32) with
  | none => rw [hx_2] at h; cases h
  | some I_1 =>
    rw [hx_2] at h
    dsimp only at h
    refine az_E.call (d := 2) (k' := 194) (vs := [.ref 73, .int a2, .int (0 : Int32)]) (pc' := 6) (S' := []) (Q1 := fun v s => v = none ∧ s = (97, I_1, J, R)) rfl (az_E.deep (by omega) (re_M_asksMinutes (J := J) (R := R)  hx_2 ⟨rfl, rfl⟩)) (fun v s hq => ?_)
    obtain ⟨rfl, rfl⟩ := hq
    show az_E az_F ex 3 195 6 [.ref 73, .int a1, .int a2] [] (97, I_1, J, R) _
    refine az_E.sn 3 (pc' := 11) (L' := [.ref 73, .int a1, .int a2]) (S' := [.int a1, .ref 84]) (σ' := (97, I_1, J, R)) rfl ?_
    by_cases hc_3 : a1 < 0 ∨ 144 ≤ a1.toNatClampNeg
    · rw [if_pos hc_3] at h; cases h
    · rw [if_neg hc_3] at h
      refine az_E.oi (o := az_ai az_F ex (97, I_1, J, R) 84 a1) (pc' := 12) (L' := [.ref 73, .int a1, .int a2]) (S' := []) (σ' := (97, I_1, J, R)) (x := (I_1 84 a1.toNatClampNeg)) rfl (if_neg hc_3) ?_
      have h := Option.some.inj h
      subst h
      exact az_E.ret (v := some (.int (I_1 84 a1.toNatClampNeg))) (σ' := (97, I_1, J, R)) rfl hQ
set_option maxRecDepth 100000 in
set_option maxHeartbeats 4000000 in
theorem re_M_armFor {ex : az_X} {I : Nat → Nat → Int32} {J : Nat → Nat → Int64} {R : Nat → Nat → Option Nat} {a1 : Int32} {o : Int32 × (Nat → Nat → Int32)} (h : rs_M_armFor I a1 = some o) {Q : Option Value → az_S → Prop} (hQ : Q (some (.int o.1)) (97, o.2, J, R)) : az_E az_F ex 4 197 0 [.ref 73, .int a1] [] (97, I, J, R) Q := by
  unfold rs_M_armFor at h
  refine az_E.sn 6 (pc' := 10) (L' := [.ref 73, .int a1]) (S' := [.int ((144 : Int32) + a1), .ref 74, .ref 73]) (σ' := (97, I, J, R)) rfl ?_
  by_cases hc_1 : ((144 : Int32) + a1) < 0 ∨ 179 ≤ ((144 : Int32) + a1).toNatClampNeg
  · rw [if_pos hc_1] at h; cases h
  · rw [if_neg hc_1] at h
    refine az_E.oi (o := az_ai az_F ex (97, I, J, R) 74 ((144 : Int32) + a1)) (pc' := 11) (L' := [.ref 73, .int a1]) (S' := [.ref 73]) (σ' := (97, I, J, R)) (x := (I 74 ((144 : Int32) + a1).toNatClampNeg)) rfl (if_neg hc_1) ?_
    refine az_E.sn 5 (pc' := 20) (L' := [.ref 73, .int a1]) (S' := [.int ((152 : Int32) + a1), .ref 74, .int (I 74 ((144 : Int32) + a1).toNatClampNeg), .ref 73]) (σ' := (97, I, J, R)) rfl ?_
    by_cases hc_2 : ((152 : Int32) + a1) < 0 ∨ 179 ≤ ((152 : Int32) + a1).toNatClampNeg
    · rw [if_pos hc_2] at h; cases h
    · rw [if_neg hc_2] at h
      refine az_E.oi (o := az_ai az_F ex (97, I, J, R) 74 ((152 : Int32) + a1)) (pc' := 21) (L' := [.ref 73, .int a1]) (S' := [.int (I 74 ((144 : Int32) + a1).toNatClampNeg), .ref 73]) (σ' := (97, I, J, R)) (x := (I 74 ((152 : Int32) + a1).toNatClampNeg)) rfl (if_neg hc_2) ?_
      cases hx_5 : rs_M_between I (I 74 ((144 : Int32) + a1).toNatClampNeg) (I 74 ((152 : Int32) + a1).toNatClampNeg) with
      | none => rw [hx_5] at h; cases h
      | some o =>
        rw [hx_5] at h
        obtain ⟨x_3, I_4⟩ := o
        dsimp only at h
        refine az_E.call (d := 3) (k' := 195) (vs := [.ref 73, .int (I 74 ((144 : Int32) + a1).toNatClampNeg), .int (I 74 ((152 : Int32) + a1).toNatClampNeg)]) (pc' := 24) (S' := []) (Q1 := fun v s => v = some (.int x_3) ∧ s = (97, I_4, J, R)) rfl (az_E.deep (by omega) (re_M_between (J := J) (R := R)  hx_5 ⟨rfl, rfl⟩)) (fun v s hq => ?_)
        obtain ⟨rfl, rfl⟩ := hq
        show az_E az_F ex 4 197 24 [.ref 73, .int a1] [.int x_3] (97, I_4, J, R) _
        have h := Option.some.inj h
        subst h
        exact az_E.ret (v := some (.int x_3)) (σ' := (97, I_4, J, R)) rfl hQ
set_option maxRecDepth 100000 in
set_option maxHeartbeats 4000000 in
theorem re_M_arm {ex : az_X} {I : Nat → Nat → Int32} {J : Nat → Nat → Int64} {R : Nat → Nat → Option Nat} {a1 : Int32} {o : Int32 × (Nat → Nat → Int32)} (h : rs_M_arm I a1 = some o) {Q : Option Value → az_S → Prop} (hQ : Q (some (.int o.1)) (97, o.2, J, R)) : az_E az_F ex 125 198 0 [.ref 73, .int a1] [] (97, I, J, R) Q := by
  unfold rs_M_arm at h
  refine az_E.sn 2 (pc' := 2) (L' := [.ref 73, .int a1]) (S' := [.int a1, .ref 73]) (σ' := (97, I, J, R)) rfl ?_
  cases hx_2 : rs_M_isAw I a1 with
  | none => rw [hx_2] at h; cases h
  | some x_1 =>
    rw [hx_2] at h
    dsimp only at h
    refine az_E.call (d := 124) (k' := 164) (vs := [.ref 73, .int a1]) (pc' := 5) (S' := []) (Q1 := fun v s => v = some (.int x_1) ∧ s = (97, I, J, R)) rfl (az_E.deep (by omega) (re_M_isAw (J := J) (R := R)  hx_2 ⟨rfl, rfl⟩)) (fun v s hq => ?_)
    obtain ⟨rfl, rfl⟩ := hq
    show az_E az_F ex 125 198 5 [.ref 73, .int a1] [.int x_1] (97, I, J, R) _
    refine az_E.br (c := x_1 = 0) (tt := 8) (ff := 10) (L' := [.ref 73, .int a1]) (S' := []) (σ' := (97, I, J, R)) rfl (fun hc_3 => ?_) (fun hc_3 => ?_)
    · rw [if_pos hc_3] at h
      refine az_E.sn 1 (pc' := 9) (L' := [.ref 73, .int a1]) (S' := [.int (-1 : Int32)]) (σ' := (97, I, J, R)) rfl ?_
      have h := Option.some.inj h
      subst h
      exact az_E.ret (v := some (.int (-1 : Int32))) (σ' := (97, I, J, R)) rfl hQ
    · rw [if_neg hc_3] at h
      refine az_E.sn 3 (pc' := 14) (L' := [.ref 73, .int a1]) (S' := [.int (10 : Int32), .int a1, .ref 73]) (σ' := (97, I, J, R)) rfl ?_
      have hd_4 : ¬ ((10 : Int32) = 0) := by decide
      refine az_E.dv (c := (10 : Int32) = 0) (pc' := 15) (L' := [.ref 73, .int a1]) (S' := [.int (a1 - a1 / (10 : Int32) * (10 : Int32)), .ref 73]) (σ' := (97, I, J, R)) rfl hd_4 ?_
      cases hx_6 : rs_M_asksFor I (a1 - a1 / (10 : Int32) * (10 : Int32)) with
      | none => rw [hx_6] at h; cases h
      | some I_5 =>
        rw [hx_6] at h
        dsimp only at h
        refine az_E.call (d := 124) (k' := 190) (vs := [.ref 73, .int (a1 - a1 / (10 : Int32) * (10 : Int32))]) (pc' := 18) (S' := []) (Q1 := fun v s => v = none ∧ s = (97, I_5, J, R)) rfl (az_E.deep (by omega) (re_M_asksFor (J := J) (R := R)  hx_6 ⟨rfl, rfl⟩)) (fun v s hq => ?_)
        obtain ⟨rfl, rfl⟩ := hq
        show az_E az_F ex 125 198 18 [.ref 73, .int a1] [] (97, I_5, J, R) _
        refine az_E.sn 3 (pc' := 22) (L' := [.ref 73, .int a1]) (S' := [.int (10 : Int32), .int a1, .ref 73]) (σ' := (97, I_5, J, R)) rfl ?_
        have hd_7 : ¬ ((10 : Int32) = 0) := by decide
        refine az_E.dv (c := (10 : Int32) = 0) (pc' := 23) (L' := [.ref 73, .int a1]) (S' := [.int (a1 / (10 : Int32)), .ref 73]) (σ' := (97, I_5, J, R)) rfl hd_7 ?_
        cases hx_10 : rs_M_armFor I_5 (a1 / (10 : Int32)) with
        | none => rw [hx_10] at h; cases h
        | some o =>
          rw [hx_10] at h
          obtain ⟨x_8, I_9⟩ := o
          dsimp only at h
          refine az_E.call (d := 124) (k' := 197) (vs := [.ref 73, .int (a1 / (10 : Int32))]) (pc' := 26) (S' := []) (Q1 := fun v s => v = some (.int x_8) ∧ s = (97, I_9, J, R)) rfl (az_E.deep (by omega) (re_M_armFor (J := J) (R := R)  hx_10 ⟨rfl, rfl⟩)) (fun v s hq => ?_)
          obtain ⟨rfl, rfl⟩ := hq
          show az_E az_F ex 125 198 26 [.ref 73, .int a1] [.int x_8] (97, I_9, J, R) _
          have h := Option.some.inj h
          subst h
          exact az_E.ret (v := some (.int x_8)) (σ' := (97, I_9, J, R)) rfl hQ
set_option maxRecDepth 100000 in
set_option maxHeartbeats 4000000 in
theorem re_Fi_onward_79_26_5 {ex : az_X} {I : Nat → Nat → Int32} {J : Nat → Nat → Int64} {R : Nat → Nat → Option Nat} {v2 : Int32} {v3 : Int32} (hR_26_3 : R 26 3 = some 5) {x : Int32} (h : rs_Fi_onward_79 26 I v2 v3 = some x) {Q : Option Value → az_S → Prop} (hQ : Q (some (.int x)) (97, I, J, R)) : az_E az_F ex 1 21 79 [.retAddr 0, .retAddr 0, .int v2, .int v3, .retAddr 0, .retAddr 0, .retAddr 0] [] (97, I, J, R) Q := by
  unfold rs_Fi_onward_79 at h
  refine az_E.sn 1 (pc' := 80) (L' := [.retAddr 0, .retAddr 0, .int v2, .int v3, .retAddr 0, .retAddr 0, .retAddr 0]) (S' := [.int v3]) (σ' := (97, I, J, R)) rfl ?_
  refine az_E.br (c := 0 ≤ v3) (tt := 87) (ff := 83) (L' := [.retAddr 0, .retAddr 0, .int v2, .int v3, .retAddr 0, .retAddr 0, .retAddr 0]) (S' := []) (σ' := (97, I, J, R)) rfl (fun hc_2 => ?_) (fun hc_2 => ?_)
  · rw [if_pos hc_2] at h
    refine az_E.sn 1 (pc' := 88) (L' := [.retAddr 0, .retAddr 0, .int v2, .int v3, .retAddr 0, .retAddr 0, .retAddr 0]) (S' := [.int v3]) (σ' := (97, I, J, R)) rfl ?_
    have h := Option.some.inj h
    subst h
    exact az_E.ret (v := some (.int v3)) (σ' := (97, I, J, R)) rfl hQ
  · rw [if_neg hc_2] at h
    refine az_E.sn 2 (pc' := 88) (L' := [.retAddr 0, .retAddr 0, .int v2, .int v3, .retAddr 0, .retAddr 0, .retAddr 0]) (S' := [.int v2]) (σ' := (97, I, J, R)) rfl ?_
    have h := Option.some.inj h
    subst h
    exact az_E.ret (v := some (.int v2)) (σ' := (97, I, J, R)) rfl hQ
set_option maxRecDepth 100000 in
set_option maxHeartbeats 4000000 in
theorem re_Fi_onward_39_26_5 {ex : az_X} {I : Nat → Nat → Int32} {J : Nat → Nat → Int64} {R : Nat → Nat → Option Nat} {v2 : Int32} {v3 : Int32} {v4 : Int32} {v5 : Int32} {s0 : Int32} (hR_26_3 : R 26 3 = some 5) {x : ((Int32 × Int32) ⊕ (Int32))} (h : rs_Fi_onward_39 26 I v2 v3 v4 v5 s0 = some x) {Q : Option Value → az_S → Prop} (hQ : Sum.elim (fun s => az_E az_F ex 1 21 5 [.ref 32, .ref 26, .int v2, .int s.1, .int s.2, .retAddr 0, .retAddr 0] [] (97, I, J, R) Q) (fun x => Q (some (.int x)) (97, I, J, R)) x) : az_E az_F ex 1 21 39 [.ref 32, .ref 26, .int v2, .int v3, .int v4, .int v5, .retAddr 0] [.int s0] (97, I, J, R) Q := by
  unfold rs_Fi_onward_39 at h
  refine az_E.sn 2 (pc' := 43) (L' := [.ref 32, .ref 26, .int v2, .int v3, .int v4, .int v5, .int s0]) (S' := [.int s0]) (σ' := (97, I, J, R)) rfl ?_
  refine az_E.br (c := s0 = 0) (tt := 73) (ff := 46) (L' := [.ref 32, .ref 26, .int v2, .int v3, .int v4, .int v5, .int s0]) (S' := []) (σ' := (97, I, J, R)) rfl (fun hc_6 => ?_) (fun hc_6 => ?_)
  · rw [if_pos hc_6] at h
    refine az_E.sn 2 (pc' := 5) (L' := [.ref 32, .ref 26, .int v2, .int v3, .int (v4 + (1 : Int32)), .int v5, .int s0]) (S' := []) (σ' := (97, I, J, R)) rfl ?_
    have h := Option.some.inj h
    subst h
    exact az_E.forget (L := [.ref 32, .ref 26, .int v2, .int v3, .int (v4 + (1 : Int32)), .retAddr 0, .retAddr 0]) ⟨rfl, rfl, rfl, rfl, rfl, trivial, trivial, trivial⟩ hQ
  · rw [if_neg hc_6] at h
    refine az_E.sn 3 (pc' := 50) (L' := [.ref 32, .ref 26, .int v2, .int v3, .int v4, .int v5, .int s0]) (S' := [.int v5, .int v2, .ref 26]) (σ' := (97, I, J, R)) rfl ?_
    refine az_E.call (d := 0) (k' := 52) (vs := [.ref 26, .int v2, .int v5]) (pc' := 53) (S' := []) rfl ?_ (fun _ _ hq => hq)
    show az_E az_F ex 0 52 0 [.ref 26, .int v2, .int v5] [] (97, I, J, R) _
    refine az_E.sn 1 (pc' := 1) (L' := [.ref 26, .int v2, .int v5]) (S' := [.ref 26]) (σ' := (97, I, J, R)) rfl ?_
    refine az_E.ov (pc' := 4) (L' := [.ref 26, .int v2, .int v5]) (S' := []) (σ' := (97, I, J, R)) (x := .ref 5) rfl (congrArg (fun z => some (va_rf z)) hR_26_3) ?_
    refine az_E.sn 4 (pc' := 17) (L' := [.ref 26, .int v2, .int v5]) (S' := [.ref 26, .ref (26 + 1)]) (σ' := (97, I, J, R)) rfl ?_
    refine az_E.ov (pc' := 20) (L' := [.ref 26, .int v2, .int v5]) (S' := [.ref (26 + 1)]) (σ' := (97, I, J, R)) (x := .ref 5) rfl (congrArg (fun z => some (va_rf z)) hR_26_3) ?_
    refine az_E.sn 1 (pc' := 21) (L' := [.ref 26, .int v2, .int v5]) (S' := [.int v2, .ref 5, .ref (26 + 1)]) (σ' := (97, I, J, R)) rfl ?_
    by_cases hc_7 : v2 < 0 ∨ 144 ≤ v2.toNatClampNeg
    · rw [if_pos hc_7] at h; cases h
    · rw [if_neg hc_7] at h
      refine az_E.oi (o := az_ai az_F ex (97, I, J, R) 5 v2) (pc' := 22) (L' := [.ref 26, .int v2, .int v5]) (S' := [.ref (26 + 1)]) (σ' := (97, I, J, R)) (x := (I 5 v2.toNatClampNeg)) rfl (if_neg hc_7) ?_
      refine az_E.sn 3 (pc' := 26) (L' := [.ref 26, .int v2, .int v5]) (S' := [.ref 26, .int ((I 5 v2.toNatClampNeg) * (10 : Int32)), .ref (26 + 1)]) (σ' := (97, I, J, R)) rfl ?_
      refine az_E.ov (pc' := 29) (L' := [.ref 26, .int v2, .int v5]) (S' := [.int ((I 5 v2.toNatClampNeg) * (10 : Int32)), .ref (26 + 1)]) (σ' := (97, I, J, R)) (x := .ref 5) rfl (congrArg (fun z => some (va_rf z)) hR_26_3) ?_
      refine az_E.sn 1 (pc' := 30) (L' := [.ref 26, .int v2, .int v5]) (S' := [.int v5, .ref 5, .int ((I 5 v2.toNatClampNeg) * (10 : Int32)), .ref (26 + 1)]) (σ' := (97, I, J, R)) rfl ?_
      by_cases hc_8 : v5 < 0 ∨ 144 ≤ v5.toNatClampNeg
      · rw [if_pos hc_8] at h; cases h
      · rw [if_neg hc_8] at h
        refine az_E.oi (o := az_ai az_F ex (97, I, J, R) 5 v5) (pc' := 31) (L' := [.ref 26, .int v2, .int v5]) (S' := [.int ((I 5 v2.toNatClampNeg) * (10 : Int32)), .ref (26 + 1)]) (σ' := (97, I, J, R)) (x := (I 5 v5.toNatClampNeg)) rfl (if_neg hc_8) ?_
        refine az_E.sn 1 (pc' := 32) (L' := [.ref 26, .int v2, .int v5]) (S' := [.int (((I 5 v2.toNatClampNeg) * (10 : Int32)) + (I 5 v5.toNatClampNeg)), .ref (26 + 1)]) (σ' := (97, I, J, R)) rfl ?_
        by_cases hc_9 : (((I 5 v2.toNatClampNeg) * (10 : Int32)) + (I 5 v5.toNatClampNeg)) < 0 ∨ 100 ≤ (((I 5 v2.toNatClampNeg) * (10 : Int32)) + (I 5 v5.toNatClampNeg)).toNatClampNeg
        · rw [if_pos hc_9] at h; cases h
        · rw [if_neg hc_9] at h
          refine az_E.oi (o := az_ai az_F ex (97, I, J, R) (26 + 1) (((I 5 v2.toNatClampNeg) * (10 : Int32)) + (I 5 v5.toNatClampNeg))) (pc' := 33) (L' := [.ref 26, .int v2, .int v5]) (S' := []) (σ' := (97, I, J, R)) (x := (I (26 + 1) (((I 5 v2.toNatClampNeg) * (10 : Int32)) + (I 5 v5.toNatClampNeg)).toNatClampNeg)) rfl (if_neg hc_9) ?_
          refine az_E.ret (v := some (.int (I (26 + 1) (((I 5 v2.toNatClampNeg) * (10 : Int32)) + (I 5 v5.toNatClampNeg)).toNatClampNeg))) (σ' := (97, I, J, R)) rfl ?_
          show az_E az_F ex 1 21 53 [.ref 32, .ref 26, .int v2, .int v3, .int v4, .int v5, .int s0] [.int (I (26 + 1) (((I 5 v2.toNatClampNeg) * (10 : Int32)) + (I 5 v5.toNatClampNeg)).toNatClampNeg)] (97, I, J, R) _
          refine az_E.sn 3 (pc' := 59) (L' := [.ref 32, .ref 26, .int v2, .int v3, .int v4, .int v5, .int s0]) (S' := [.int v5, .ref 33, .int (I (26 + 1) (((I 5 v2.toNatClampNeg) * (10 : Int32)) + (I 5 v5.toNatClampNeg)).toNatClampNeg)]) (σ' := (97, I, J, R)) rfl ?_
          by_cases hc_10 : v5 < 0 ∨ 144 ≤ v5.toNatClampNeg
          · rw [if_pos hc_10] at h; cases h
          · rw [if_neg hc_10] at h
            refine az_E.oi (o := az_ai az_F ex (97, I, J, R) 33 v5) (pc' := 60) (L' := [.ref 32, .ref 26, .int v2, .int v3, .int v4, .int v5, .int s0]) (S' := [.int (I (26 + 1) (((I 5 v2.toNatClampNeg) * (10 : Int32)) + (I 5 v5.toNatClampNeg)).toNatClampNeg)]) (σ' := (97, I, J, R)) (x := (I 33 v5.toNatClampNeg)) rfl (if_neg hc_10) ?_
            refine az_E.sn 4 (pc' := 66) (L' := [.ref 32, .ref 26, .int v2, .int v3, .int v4, .int v5, .int s0]) (S' := [.int v2, .ref 33, .int ((I (26 + 1) (((I 5 v2.toNatClampNeg) * (10 : Int32)) + (I 5 v5.toNatClampNeg)).toNatClampNeg) + (I 33 v5.toNatClampNeg))]) (σ' := (97, I, J, R)) rfl ?_
            by_cases hc_11 : v2 < 0 ∨ 144 ≤ v2.toNatClampNeg
            · rw [if_pos hc_11] at h; cases h
            · rw [if_neg hc_11] at h
              refine az_E.oi (o := az_ai az_F ex (97, I, J, R) 33 v2) (pc' := 67) (L' := [.ref 32, .ref 26, .int v2, .int v3, .int v4, .int v5, .int s0]) (S' := [.int ((I (26 + 1) (((I 5 v2.toNatClampNeg) * (10 : Int32)) + (I 5 v5.toNatClampNeg)).toNatClampNeg) + (I 33 v5.toNatClampNeg))]) (σ' := (97, I, J, R)) (x := (I 33 v2.toNatClampNeg)) rfl (if_neg hc_11) ?_
              refine az_E.br (c := ((I (26 + 1) (((I 5 v2.toNatClampNeg) * (10 : Int32)) + (I 5 v5.toNatClampNeg)).toNatClampNeg) + (I 33 v5.toNatClampNeg)) = (I 33 v2.toNatClampNeg)) (tt := 70) (ff := 73) (L' := [.ref 32, .ref 26, .int v2, .int v3, .int v4, .int v5, .int s0]) (S' := []) (σ' := (97, I, J, R)) rfl (fun hc_12 => ?_) (fun hc_12 => ?_)
              · rw [if_pos hc_12] at h
                refine az_E.sn 4 (pc' := 5) (L' := [.ref 32, .ref 26, .int v2, .int v5, .int (v4 + (1 : Int32)), .int v5, .int s0]) (S' := []) (σ' := (97, I, J, R)) rfl ?_
                have h := Option.some.inj h
                subst h
                exact az_E.forget (L := [.ref 32, .ref 26, .int v2, .int v5, .int (v4 + (1 : Int32)), .retAddr 0, .retAddr 0]) ⟨rfl, rfl, rfl, rfl, rfl, trivial, trivial, trivial⟩ hQ
              · rw [if_neg hc_12] at h
                refine az_E.sn 2 (pc' := 5) (L' := [.ref 32, .ref 26, .int v2, .int v3, .int (v4 + (1 : Int32)), .int v5, .int s0]) (S' := []) (σ' := (97, I, J, R)) rfl ?_
                have h := Option.some.inj h
                subst h
                exact az_E.forget (L := [.ref 32, .ref 26, .int v2, .int v3, .int (v4 + (1 : Int32)), .retAddr 0, .retAddr 0]) ⟨rfl, rfl, rfl, rfl, rfl, trivial, trivial, trivial⟩ hQ
set_option maxRecDepth 100000 in
set_option maxHeartbeats 4000000 in
theorem re_Fi_onward_38_26_5 {ex : az_X} {I : Nat → Nat → Int32} {J : Nat → Nat → Int64} {R : Nat → Nat → Option Nat} {v2 : Int32} {v3 : Int32} {v4 : Int32} {v5 : Int32} (hR_26_3 : R 26 3 = some 5) {x : ((Int32 × Int32) ⊕ (Int32))} (h : rs_Fi_onward_38 26 I v2 v3 v4 v5 = some x) {Q : Option Value → az_S → Prop} (hQ : Sum.elim (fun s => az_E az_F ex 1 21 5 [.ref 32, .ref 26, .int v2, .int s.1, .int s.2, .retAddr 0, .retAddr 0] [] (97, I, J, R) Q) (fun x => Q (some (.int x)) (97, I, J, R)) x) : az_E az_F ex 1 21 38 [.ref 32, .ref 26, .int v2, .int v3, .int v4, .int v5, .retAddr 0] [] (97, I, J, R) Q := by
  unfold rs_Fi_onward_38 at h
  refine az_E.sn 1 (pc' := 39) (L' := [.ref 32, .ref 26, .int v2, .int v3, .int v4, .int v5, .retAddr 0]) (S' := [.int (0 : Int32)]) (σ' := (97, I, J, R)) rfl ?_
  exact az_E.forget (L := [.ref 32, .ref 26, .int v2, .int v3, .int v4, .int v5, .retAddr 0]) ⟨rfl, rfl, rfl, rfl, rfl, rfl, trivial, trivial⟩ (re_Fi_onward_39_26_5 (I := I) (J := J) (R := R) hR_26_3 h hQ)
set_option maxRecDepth 100000 in
set_option maxHeartbeats 4000000 in
theorem re_Fi_onward_34_26_5 {ex : az_X} {I : Nat → Nat → Int32} {J : Nat → Nat → Int64} {R : Nat → Nat → Option Nat} {v2 : Int32} {v3 : Int32} {v4 : Int32} {v5 : Int32} (hR_26_3 : R 26 3 = some 5) {x : ((Int32 × Int32) ⊕ (Int32))} (h : rs_Fi_onward_34 26 I v2 v3 v4 v5 = some x) {Q : Option Value → az_S → Prop} (hQ : Sum.elim (fun s => az_E az_F ex 1 21 5 [.ref 32, .ref 26, .int v2, .int s.1, .int s.2, .retAddr 0, .retAddr 0] [] (97, I, J, R) Q) (fun x => Q (some (.int x)) (97, I, J, R)) x) : az_E az_F ex 1 21 34 [.ref 32, .ref 26, .int v2, .int v3, .int v4, .int v5, .retAddr 0] [] (97, I, J, R) Q := by
  unfold rs_Fi_onward_34 at h
  refine az_E.sn 2 (pc' := 39) (L' := [.ref 32, .ref 26, .int v2, .int v3, .int v4, .int v5, .retAddr 0]) (S' := [.int (1 : Int32)]) (σ' := (97, I, J, R)) rfl ?_
  exact az_E.forget (L := [.ref 32, .ref 26, .int v2, .int v3, .int v4, .int v5, .retAddr 0]) ⟨rfl, rfl, rfl, rfl, rfl, rfl, trivial, trivial⟩ (re_Fi_onward_39_26_5 (I := I) (J := J) (R := R) hR_26_3 h hQ)
set_option maxRecDepth 100000 in
set_option maxHeartbeats 4000000 in
theorem re_Fi_onward_5_b_26_5 {ex : az_X} {I : Nat → Nat → Int32} {J : Nat → Nat → Int64} {R : Nat → Nat → Option Nat} {v2 : Int32} {v3 : Int32} {v4 : Int32} (hR_26_3 : R 26 3 = some 5) {x : ((Int32 × Int32) ⊕ (Int32))} (h : rs_Fi_onward_5_b 26 I v2 v3 v4 = some x) {Q : Option Value → az_S → Prop} (hQ : Sum.elim (fun s => az_E az_F ex 1 21 5 [.ref 32, .ref 26, .int v2, .int s.1, .int s.2, .retAddr 0, .retAddr 0] [] (97, I, J, R) Q) (fun x => Q (some (.int x)) (97, I, J, R)) x) : az_E az_F ex 1 21 5 [.ref 32, .ref 26, .int v2, .int v3, .int v4, .retAddr 0, .retAddr 0] [] (97, I, J, R) Q := by
  unfold rs_Fi_onward_5_b at h
  refine az_E.sn 2 (pc' := 8) (L' := [.ref 32, .ref 26, .int v2, .int v3, .int v4, .retAddr 0, .retAddr 0]) (S' := [.int (4 : Int32), .int v4]) (σ' := (97, I, J, R)) rfl ?_
  refine az_E.br (c := (4 : Int32) ≤ v4) (tt := 79) (ff := 11) (L' := [.ref 32, .ref 26, .int v2, .int v3, .int v4, .retAddr 0, .retAddr 0]) (S' := []) (σ' := (97, I, J, R)) rfl (fun hc_1 => ?_) (fun hc_1 => ?_)
  · rw [if_pos hc_1] at h
    obtain ⟨x, hx, rfl⟩ := Option.map_eq_some_iff.mp h
    exact az_E.forget (L := [.retAddr 0, .retAddr 0, .int v2, .int v3, .retAddr 0, .retAddr 0, .retAddr 0]) ⟨trivial, trivial, rfl, rfl, trivial, trivial, trivial, trivial⟩ (re_Fi_onward_79_26_5 (I := I) (J := J) (R := R) hR_26_3 hx hQ)
  · rw [if_neg hc_1] at h
    refine az_E.sn 2 (pc' := 14) (L' := [.ref 32, .ref 26, .int v2, .int v3, .int v4, .retAddr 0, .retAddr 0]) (S' := [.int v4, .int v2]) (σ' := (97, I, J, R)) rfl ?_
    cases hx_4 : rs_X_sideCell v2 v4 with
    | none => rw [hx_4] at h; cases h
    | some x_3 =>
      rw [hx_4] at h
      dsimp only at h
      refine az_E.call (d := 0) (k' := 141) (vs := [.int v2, .int v4]) (pc' := 17) (S' := []) (Q1 := fun v s => v = some (.int x_3) ∧ s = (97, I, J, R)) rfl (az_E.deep (by omega) (re_X_sideCell (J := J) (R := R)  hx_4 ⟨rfl, rfl⟩)) (fun v s hq => ?_)
      obtain ⟨rfl, rfl⟩ := hq
      show az_E az_F ex 1 21 17 [.ref 32, .ref 26, .int v2, .int v3, .int v4, .retAddr 0, .retAddr 0] [.int x_3] (97, I, J, R) _
      refine az_E.sn 2 (pc' := 21) (L' := [.ref 32, .ref 26, .int v2, .int v3, .int v4, .int x_3, .retAddr 0]) (S' := [.int x_3]) (σ' := (97, I, J, R)) rfl ?_
      refine az_E.br (c := x_3 < 0) (tt := 38) (ff := 24) (L' := [.ref 32, .ref 26, .int v2, .int v3, .int v4, .int x_3, .retAddr 0]) (S' := []) (σ' := (97, I, J, R)) rfl (fun hc_5 => ?_) (fun hc_5 => ?_)
      · rw [if_pos hc_5] at h
        exact az_E.forget (L := [.ref 32, .ref 26, .int v2, .int v3, .int v4, .int x_3, .retAddr 0]) ⟨rfl, rfl, rfl, rfl, rfl, rfl, trivial, trivial⟩ (re_Fi_onward_38_26_5 (I := I) (J := J) (R := R) hR_26_3 h hQ)
      · rw [if_neg hc_5] at h
        refine az_E.sn 1 (pc' := 25) (L' := [.ref 32, .ref 26, .int v2, .int v3, .int v4, .int x_3, .retAddr 0]) (S' := [.int v3]) (σ' := (97, I, J, R)) rfl ?_
        refine az_E.br (c := v3 < 0) (tt := 34) (ff := 28) (L' := [.ref 32, .ref 26, .int v2, .int v3, .int v4, .int x_3, .retAddr 0]) (S' := []) (σ' := (97, I, J, R)) rfl (fun hc_13 => ?_) (fun hc_13 => ?_)
        · rw [if_pos hc_13] at h
          exact az_E.forget (L := [.ref 32, .ref 26, .int v2, .int v3, .int v4, .int x_3, .retAddr 0]) ⟨rfl, rfl, rfl, rfl, rfl, rfl, trivial, trivial⟩ (re_Fi_onward_34_26_5 (I := I) (J := J) (R := R) hR_26_3 h hQ)
        · rw [if_neg hc_13] at h
          refine az_E.sn 2 (pc' := 31) (L' := [.ref 32, .ref 26, .int v2, .int v3, .int v4, .int x_3, .retAddr 0]) (S' := [.int v3, .int x_3]) (σ' := (97, I, J, R)) rfl ?_
          refine az_E.br (c := v3 ≤ x_3) (tt := 38) (ff := 34) (L' := [.ref 32, .ref 26, .int v2, .int v3, .int v4, .int x_3, .retAddr 0]) (S' := []) (σ' := (97, I, J, R)) rfl (fun hc_14 => ?_) (fun hc_14 => ?_)
          · rw [if_pos hc_14] at h
            exact az_E.forget (L := [.ref 32, .ref 26, .int v2, .int v3, .int v4, .int x_3, .retAddr 0]) ⟨rfl, rfl, rfl, rfl, rfl, rfl, trivial, trivial⟩ (re_Fi_onward_38_26_5 (I := I) (J := J) (R := R) hR_26_3 h hQ)
          · rw [if_neg hc_14] at h
            exact az_E.forget (L := [.ref 32, .ref 26, .int v2, .int v3, .int v4, .int x_3, .retAddr 0]) ⟨rfl, rfl, rfl, rfl, rfl, rfl, trivial, trivial⟩ (re_Fi_onward_34_26_5 (I := I) (J := J) (R := R) hR_26_3 h hQ)
set_option maxRecDepth 100000 in
set_option maxHeartbeats 4000000 in
theorem re_Fi_onward_5_26_5 {ex : az_X} {I : Nat → Nat → Int32} {J : Nat → Nat → Int64} {R : Nat → Nat → Option Nat} {v2 : Int32} {v3 : Int32} {v4 : Int32} (hR_26_3 : R 26 3 = some 5) {x : Int32} (h : rs_Fi_onward_5 26 I v2 v3 v4 = some x) {Q : Option Value → az_S → Prop} (hQ : Q (some (.int x)) (97, I, J, R)) : az_E az_F ex 1 21 5 [.ref 32, .ref 26, .int v2, .int v3, .int v4, .retAddr 0, .retAddr 0] [] (97, I, J, R) Q := by
  unfold rs_Fi_onward_5 at h
  refine az_lp_E (G := fun s => az_E az_F ex 1 21 5 [.ref 32, .ref 26, .int v2, .int s.1, .int s.2, .retAddr 0, .retAddr 0] [] (97, I, J, R) Q) (H := fun x => Q (some (.int x)) (97, I, J, R)) (fun s o hb ho => ?_) _ _ _ h hQ
  exact re_Fi_onward_5_b_26_5 hR_26_3 hb ho
set_option maxRecDepth 100000 in
set_option maxHeartbeats 4000000 in
theorem re_Fi_onward_26_5 {ex : az_X} {I : Nat → Nat → Int32} {J : Nat → Nat → Int64} {R : Nat → Nat → Option Nat} {a2 : Int32} (hR_26_3 : R 26 3 = some 5) {o : Int32} (h : rs_Fi_onward 26 I a2 = some o) {Q : Option Value → az_S → Prop} (hQ : Q (some (.int o)) (97, I, J, R)) : az_E az_F ex 1 21 0 [.ref 32, .ref 26, .int a2, .retAddr 0, .retAddr 0, .retAddr 0, .retAddr 0] [] (97, I, J, R) Q := by
  unfold rs_Fi_onward at h
  refine az_E.sn 4 (pc' := 5) (L' := [.ref 32, .ref 26, .int a2, .int (-1 : Int32), .int (0 : Int32), .retAddr 0, .retAddr 0]) (S' := []) (σ' := (97, I, J, R)) rfl ?_
  exact az_E.forget (L := [.ref 32, .ref 26, .int a2, .int (-1 : Int32), .int (0 : Int32), .retAddr 0, .retAddr 0]) ⟨rfl, rfl, rfl, rfl, rfl, trivial, trivial, trivial⟩ (re_Fi_onward_5_26_5 (I := I) (J := J) (R := R) hR_26_3 h hQ)
set_option maxRecDepth 100000 in
set_option maxHeartbeats 4000000 in
theorem re_Fi_findWay_27_b_26_5 {ex : az_X} {I : Nat → Nat → Int32} {J : Nat → Nat → Int64} {R : Nat → Nat → Option Nat} {v3 : Int32} {v4 : Int32} (hR_26_3 : R 26 3 = some 5) {x : ((Int32 × (Nat → Nat → Int32)) ⊕ ((Nat → Nat → Int32)))} (h : rs_Fi_findWay_27_b 26 v3 v4 I = some x) {Q : Option Value → az_S → Prop} (hQ : Sum.elim (fun s => az_E az_F ex 3 20 27 [.ref 32, .ref 26, .retAddr 0, .int v3, .int s.1] [] (97, s.2, J, R) Q) (fun x => Q none (97, x, J, R)) x) : az_E az_F ex 3 20 27 [.ref 32, .ref 26, .retAddr 0, .int v3, .int v4] [] (97, I, J, R) Q := by
  unfold rs_Fi_findWay_27_b at h
  refine az_E.sn 3 (pc' := 34) (L' := [.ref 32, .ref 26, .retAddr 0, .int v3, .int v4]) (S' := [.int (143 : Int32), .int (I 32 3)]) (σ' := (97, I, J, R)) rfl ?_
  refine az_E.br (c := (143 : Int32) ≤ (I 32 3)) (tt := 76) (ff := 37) (L' := [.ref 32, .ref 26, .retAddr 0, .int v3, .int v4]) (S' := []) (σ' := (97, I, J, R)) rfl (fun hc_4 => ?_) (fun hc_4 => ?_)
  · rw [if_pos hc_4] at h
    have h := Option.some.inj h
    subst h
    exact az_E.ret (v := none) (σ' := (97, I, J, R)) rfl hQ
  · rw [if_neg hc_4] at h
    refine az_E.sn 2 (pc' := 40) (L' := [.ref 32, .ref 26, .retAddr 0, .int v3, .int v4]) (S' := [.int v3, .int v4]) (σ' := (97, I, J, R)) rfl ?_
    refine az_E.br (c := v4 = v3) (tt := 76) (ff := 43) (L' := [.ref 32, .ref 26, .retAddr 0, .int v3, .int v4]) (S' := []) (σ' := (97, I, J, R)) rfl (fun hc_5 => ?_) (fun hc_5 => ?_)
    · rw [if_pos hc_5] at h
      have h := Option.some.inj h
      subst h
      exact az_E.ret (v := none) (σ' := (97, I, J, R)) rfl hQ
    · rw [if_neg hc_5] at h
      refine az_E.sn 3 (pc' := 47) (L' := [.ref 32, .ref 26, .retAddr 0, .int v3, .int v4]) (S' := [.int v4, .ref 26, .ref 32]) (σ' := (97, I, J, R)) rfl ?_
      cases hx_7 : rs_Fi_onward 26 I v4 with
      | none => rw [hx_7] at h; cases h
      | some x_6 =>
        rw [hx_7] at h
        dsimp only at h
        refine az_E.call (d := 2) (k' := 21) (vs := [.ref 32, .ref 26, .int v4]) (pc' := 50) (S' := []) (Q1 := fun v s => v = some (.int x_6) ∧ s = (97, I, J, R)) rfl (az_E.deep (by omega) (re_Fi_onward_26_5 (J := J) (R := R) hR_26_3 hx_7 ⟨rfl, rfl⟩)) (fun v s hq => ?_)
        obtain ⟨rfl, rfl⟩ := hq
        show az_E az_F ex 3 20 50 [.ref 32, .ref 26, .retAddr 0, .int v3, .int v4] [.int x_6] (97, I, J, R) _
        refine az_E.sn 12 (pc' := 72) (L' := [.ref 32, .ref 26, .retAddr 0, .int v3, .int x_6]) (S' := [.int x_6, .int ((I 32 3) + (1 : Int32)), .ref 35]) (σ' := (97, (az_u I 32 3 ((I 32 3) + (1 : Int32))), J, R)) rfl ?_
        by_cases hc_8 : ((I 32 3) + (1 : Int32)) < 0 ∨ 144 ≤ ((I 32 3) + (1 : Int32)).toNatClampNeg
        · rw [if_pos hc_8] at h; cases h
        · rw [if_neg hc_8] at h
          refine az_E.o (o := az_si az_F (97, (az_u I 32 3 ((I 32 3) + (1 : Int32))), J, R) 35 ((I 32 3) + (1 : Int32)) x_6) (pc' := 73) (L' := [.ref 32, .ref 26, .retAddr 0, .int v3, .int x_6]) (S' := []) (x := (97, (az_u (az_u I 32 3 ((I 32 3) + (1 : Int32))) 35 ((I 32 3) + (1 : Int32)).toNatClampNeg x_6), J, R)) rfl (if_neg hc_8) ?_
          refine az_E.sn 1 (pc' := 27) (L' := [.ref 32, .ref 26, .retAddr 0, .int v3, .int x_6]) (S' := []) (σ' := (97, (az_u (az_u I 32 3 ((I 32 3) + (1 : Int32))) 35 ((I 32 3) + (1 : Int32)).toNatClampNeg x_6), J, R)) rfl ?_
          have h := Option.some.inj h
          subst h
          exact az_E.forget (L := [.ref 32, .ref 26, .retAddr 0, .int v3, .int x_6]) ⟨rfl, rfl, trivial, rfl, rfl, trivial⟩ hQ
set_option maxRecDepth 100000 in
set_option maxHeartbeats 4000000 in
theorem re_Fi_findWay_27_26_5 {ex : az_X} {I : Nat → Nat → Int32} {J : Nat → Nat → Int64} {R : Nat → Nat → Option Nat} {v3 : Int32} {v4 : Int32} (hR_26_3 : R 26 3 = some 5) {x : (Nat → Nat → Int32)} (h : rs_Fi_findWay_27 26 I v3 v4 = some x) {Q : Option Value → az_S → Prop} (hQ : Q none (97, x, J, R)) : az_E az_F ex 3 20 27 [.ref 32, .ref 26, .retAddr 0, .int v3, .int v4] [] (97, I, J, R) Q := by
  unfold rs_Fi_findWay_27 at h
  refine az_lp_E (G := fun s => az_E az_F ex 3 20 27 [.ref 32, .ref 26, .retAddr 0, .int v3, .int s.1] [] (97, s.2, J, R) Q) (H := fun x => Q none (97, x, J, R)) (fun s o hb ho => ?_) _ _ _ h hQ
  exact re_Fi_findWay_27_b_26_5 hR_26_3 hb ho
set_option maxRecDepth 100000 in
set_option maxHeartbeats 4000000 in
theorem re_Fi_findWay_26_5 {ex : az_X} {I : Nat → Nat → Int32} {J : Nat → Nat → Int64} {R : Nat → Nat → Option Nat} {a2 : Int32} {a3 : Int32} (hR_26_3 : R 26 3 = some 5) {o : (Nat → Nat → Int32)} (h : rs_Fi_findWay 26 I a2 a3 = some o) {Q : Option Value → az_S → Prop} (hQ : Q none (97, o, J, R)) : az_E az_F ex 3 20 0 [.ref 32, .ref 26, .int a2, .int a3, .retAddr 0] [] (97, I, J, R) Q := by
  unfold rs_Fi_findWay at h
  refine az_E.sn 7 (pc' := 9) (L' := [.ref 32, .ref 26, .int a2, .int a3, .retAddr 0]) (S' := [.ref 33, .int (-1 : Int32), .int (1 : Int32), .int a3, .ref 26, .ref 32]) (σ' := (97, I, J, R)) rfl ?_
  cases hx_2 : rs_Fi_spread 26 33 I a3 (1 : Int32) (-1 : Int32) with
  | none => rw [hx_2] at h; cases h
  | some I_1 =>
    rw [hx_2] at h
    dsimp only at h
    refine az_E.call (d := 2) (k' := 17) (vs := [.ref 32, .ref 26, .int a3, .int (1 : Int32), .int (-1 : Int32), .ref 33]) (pc' := 12) (S' := []) (Q1 := fun v s => v = none ∧ s = (97, I_1, J, R)) rfl (az_E.deep (by omega) (re_Fi_spread_26_33_5 (J := J) (R := R) hR_26_3 hx_2 ⟨rfl, rfl⟩)) (fun v s hq => ?_)
    obtain ⟨rfl, rfl⟩ := hq
    show az_E az_F ex 3 20 12 [.ref 32, .ref 26, .int a2, .int a3, .retAddr 0] [] (97, I_1, J, R) _
    refine az_E.sn 7 (pc' := 23) (L' := [.ref 32, .ref 26, .int a2, .int a3, .retAddr 0]) (S' := [.int a2, .int (0 : Int32), .ref 35]) (σ' := (97, (az_u I_1 32 3 (0 : Int32)), J, R)) rfl ?_
    refine az_E.o (o := az_si az_F (97, (az_u I_1 32 3 (0 : Int32)), J, R) 35 (0 : Int32) a2) (pc' := 24) (L' := [.ref 32, .ref 26, .int a2, .int a3, .retAddr 0]) (S' := []) (x := (97, (az_u (az_u I_1 32 3 (0 : Int32)) 35 0 a2), J, R)) rfl rfl ?_
    refine az_E.sn 2 (pc' := 27) (L' := [.ref 32, .ref 26, .int a2, .int a3, .int a2]) (S' := []) (σ' := (97, (az_u (az_u I_1 32 3 (0 : Int32)) 35 0 a2), J, R)) rfl ?_
    exact az_E.forget (L := [.ref 32, .ref 26, .retAddr 0, .int a3, .int a2]) ⟨rfl, rfl, trivial, rfl, rfl, trivial⟩ (re_Fi_findWay_27_26_5 (I := (az_u (az_u I_1 32 3 (0 : Int32)) 35 0 a2)) (J := J) (R := R) hR_26_3 h hQ)
set_option maxRecDepth 100000 in
set_option maxHeartbeats 4000000 in
theorem re_Fi_climb_4_b {ex : az_X} {I : Nat → Nat → Int32} {J : Nat → Nat → Int64} {R : Nat → Nat → Option Nat} {v2 : Int32} {v3 : Int32} {x : ((Int32 × Int32) ⊕ (Int32))} (h : rs_Fi_climb_4_b I v2 v3 = some x) {Q : Option Value → az_S → Prop} (hQ : Sum.elim (fun s => az_E az_F ex 1 22 4 [.ref 32, .ref 5, .int s.1, .int s.2] [] (97, I, J, R) Q) (fun x => Q (some (.int x)) (97, I, J, R)) x) : az_E az_F ex 1 22 4 [.ref 32, .ref 5, .int v2, .int v3] [] (97, I, J, R) Q := by
  unfold rs_Fi_climb_4_b at h
  refine az_E.sn 3 (pc' := 9) (L' := [.ref 32, .ref 5, .int v2, .int v3]) (S' := [.int (I 32 3), .int v3]) (σ' := (97, I, J, R)) rfl ?_
  refine az_E.br (c := (I 32 3) < v3) (tt := 44) (ff := 12) (L' := [.ref 32, .ref 5, .int v2, .int v3]) (S' := []) (σ' := (97, I, J, R)) rfl (fun hc_1 => ?_) (fun hc_1 => ?_)
  · rw [if_pos hc_1] at h
    refine az_E.sn 1 (pc' := 45) (L' := [.ref 32, .ref 5, .int v2, .int v3]) (S' := [.int v2]) (σ' := (97, I, J, R)) rfl ?_
    have h := Option.some.inj h
    subst h
    exact az_E.ret (v := some (.int v2)) (σ' := (97, I, J, R)) rfl hQ
  · rw [if_neg hc_1] at h
    refine az_E.sn 6 (pc' := 20) (L' := [.ref 32, .ref 5, .int v2, .int v3]) (S' := [.int v3, .ref 35, .ref 5, .int (0 : Int32), .int v2]) (σ' := (97, I, J, R)) rfl ?_
    by_cases hc_2 : v3 < 0 ∨ 144 ≤ v3.toNatClampNeg
    · rw [if_pos hc_2] at h; cases h
    · rw [if_neg hc_2] at h
      refine az_E.oi (o := az_ai az_F ex (97, I, J, R) 35 v3) (pc' := 21) (L' := [.ref 32, .ref 5, .int v2, .int v3]) (S' := [.ref 5, .int (0 : Int32), .int v2]) (σ' := (97, I, J, R)) (x := (I 35 v3.toNatClampNeg)) rfl (if_neg hc_2) ?_
      by_cases hc_3 : (I 35 v3.toNatClampNeg) < 0 ∨ 144 ≤ (I 35 v3.toNatClampNeg).toNatClampNeg
      · rw [if_pos hc_3] at h; cases h
      · rw [if_neg hc_3] at h
        refine az_E.oi (o := az_ai az_F ex (97, I, J, R) 5 (I 35 v3.toNatClampNeg)) (pc' := 22) (L' := [.ref 32, .ref 5, .int v2, .int v3]) (S' := [.int (0 : Int32), .int v2]) (σ' := (97, I, J, R)) (x := (I 5 (I 35 v3.toNatClampNeg).toNatClampNeg)) rfl (if_neg hc_3) ?_
        refine az_E.sn 6 (pc' := 30) (L' := [.ref 32, .ref 5, .int v2, .int v3]) (S' := [.int (v3 - (1 : Int32)), .ref 35, .ref 5, .int (I 5 (I 35 v3.toNatClampNeg).toNatClampNeg), .int (0 : Int32), .int v2]) (σ' := (97, I, J, R)) rfl ?_
        by_cases hc_4 : (v3 - (1 : Int32)) < 0 ∨ 144 ≤ (v3 - (1 : Int32)).toNatClampNeg
        · rw [if_pos hc_4] at h; cases h
        · rw [if_neg hc_4] at h
          refine az_E.oi (o := az_ai az_F ex (97, I, J, R) 35 (v3 - (1 : Int32))) (pc' := 31) (L' := [.ref 32, .ref 5, .int v2, .int v3]) (S' := [.ref 5, .int (I 5 (I 35 v3.toNatClampNeg).toNatClampNeg), .int (0 : Int32), .int v2]) (σ' := (97, I, J, R)) (x := (I 35 (v3 - (1 : Int32)).toNatClampNeg)) rfl (if_neg hc_4) ?_
          by_cases hc_5 : (I 35 (v3 - (1 : Int32)).toNatClampNeg) < 0 ∨ 144 ≤ (I 35 (v3 - (1 : Int32)).toNatClampNeg).toNatClampNeg
          · rw [if_pos hc_5] at h; cases h
          · rw [if_neg hc_5] at h
            refine az_E.oi (o := az_ai az_F ex (97, I, J, R) 5 (I 35 (v3 - (1 : Int32)).toNatClampNeg)) (pc' := 32) (L' := [.ref 32, .ref 5, .int v2, .int v3]) (S' := [.int (I 5 (I 35 v3.toNatClampNeg).toNatClampNeg), .int (0 : Int32), .int v2]) (σ' := (97, I, J, R)) (x := (I 5 (I 35 (v3 - (1 : Int32)).toNatClampNeg).toNatClampNeg)) rfl (if_neg hc_5) ?_
            refine az_E.sn 6 (pc' := 4) (L' := [.ref 32, .ref 5, .int (v2 + (if (0 : Int32) < ((I 5 (I 35 v3.toNatClampNeg).toNatClampNeg) - (I 5 (I 35 (v3 - (1 : Int32)).toNatClampNeg).toNatClampNeg)) then ((I 5 (I 35 v3.toNatClampNeg).toNatClampNeg) - (I 5 (I 35 (v3 - (1 : Int32)).toNatClampNeg).toNatClampNeg)) else (0 : Int32))), .int (v3 + (1 : Int32))]) (S' := []) (σ' := (97, I, J, R)) rfl ?_
            have h := Option.some.inj h
            subst h
            exact az_E.forget (L := [.ref 32, .ref 5, .int (v2 + (if (0 : Int32) < ((I 5 (I 35 v3.toNatClampNeg).toNatClampNeg) - (I 5 (I 35 (v3 - (1 : Int32)).toNatClampNeg).toNatClampNeg)) then ((I 5 (I 35 v3.toNatClampNeg).toNatClampNeg) - (I 5 (I 35 (v3 - (1 : Int32)).toNatClampNeg).toNatClampNeg)) else (0 : Int32))), .int (v3 + (1 : Int32))]) ⟨rfl, rfl, rfl, rfl, trivial⟩ hQ
set_option maxRecDepth 100000 in
set_option maxHeartbeats 4000000 in
theorem re_Fi_climb_4 {ex : az_X} {I : Nat → Nat → Int32} {J : Nat → Nat → Int64} {R : Nat → Nat → Option Nat} {v2 : Int32} {v3 : Int32} {x : Int32} (h : rs_Fi_climb_4 I v2 v3 = some x) {Q : Option Value → az_S → Prop} (hQ : Q (some (.int x)) (97, I, J, R)) : az_E az_F ex 1 22 4 [.ref 32, .ref 5, .int v2, .int v3] [] (97, I, J, R) Q := by
  unfold rs_Fi_climb_4 at h
  refine az_lp_E (G := fun s => az_E az_F ex 1 22 4 [.ref 32, .ref 5, .int s.1, .int s.2] [] (97, I, J, R) Q) (H := fun x => Q (some (.int x)) (97, I, J, R)) (fun s o hb ho => ?_) _ _ _ h hQ
  exact re_Fi_climb_4_b  hb ho
set_option maxRecDepth 100000 in
set_option maxHeartbeats 4000000 in
theorem re_Fi_climb {ex : az_X} {I : Nat → Nat → Int32} {J : Nat → Nat → Int64} {R : Nat → Nat → Option Nat} {o : Int32} (h : rs_Fi_climb I = some o) {Q : Option Value → az_S → Prop} (hQ : Q (some (.int o)) (97, I, J, R)) : az_E az_F ex 1 22 0 [.ref 32, .ref 5, .retAddr 0, .retAddr 0] [] (97, I, J, R) Q := by
  unfold rs_Fi_climb at h
  refine az_E.sn 4 (pc' := 4) (L' := [.ref 32, .ref 5, .int (0 : Int32), .int (1 : Int32)]) (S' := []) (σ' := (97, I, J, R)) rfl ?_
  exact az_E.forget (L := [.ref 32, .ref 5, .int (0 : Int32), .int (1 : Int32)]) ⟨rfl, rfl, rfl, rfl, trivial⟩ (re_Fi_climb_4 (I := I) (J := J) (R := R)  h hQ)
set_option maxRecDepth 100000 in
set_option maxHeartbeats 4000000 in
theorem re_X_way_16_21 {ex : az_X} {I : Nat → Nat → Int32} {J : Nat → Nat → Int64} {R : Nat → Nat → Option Nat} {a1 : Int32} {a2 : Int32} {a3 : Int32} (hR_3_2 : R 3 2 = some 16) (hR_3_3 : R 3 3 = some 21) {o : Int32 × (Nat → Nat → Int32)} (h : rs_X_way 21 16 I a1 a2 a3 = some o) {Q : Option Value → az_S → Prop} (hQ : ∀ R' : Nat → Nat → Option Nat, R' 3 2 = some 16 → R' 3 3 = some 21 → Q (some (.int o.1)) (97, o.2, J, R')) : az_E az_F ex 6 93 0 [.ref 3, .int a1, .int a2, .int a3] [] (97, I, J, R) Q := by
  unfold rs_X_way at h
  refine az_E.sn 1 (pc' := 1) (L' := [.ref 3, .int a1, .int a2, .int a3]) (S' := [.int a1]) (σ' := (97, I, J, R)) rfl ?_
  cases hx_2 : rs_X_isFromTo a1 with
  | none => rw [hx_2] at h; cases h
  | some x_1 =>
    rw [hx_2] at h
    dsimp only at h
    refine az_E.call (d := 5) (k' := 134) (vs := [.int a1]) (pc' := 4) (S' := []) (Q1 := fun v s => v = some (.int x_1) ∧ s = (97, I, J, R)) rfl (az_E.deep (by omega) (re_X_isFromTo (J := J) (R := R)  hx_2 ⟨rfl, rfl⟩)) (fun v s hq => ?_)
    obtain ⟨rfl, rfl⟩ := hq
    show az_E az_F ex 6 93 4 [.ref 3, .int a1, .int a2, .int a3] [.int x_1] (97, I, J, R) _
    refine az_E.br (c := x_1 = 0) (tt := 21) (ff := 7) (L' := [.ref 3, .int a1, .int a2, .int a3]) (S' := []) (σ' := (97, I, J, R)) rfl (fun hc_3 => ?_) (fun hc_3 => ?_)
    · rw [if_pos hc_3] at h
      refine az_E.sn 1 (pc' := 22) (L' := [.ref 3, .int a1, .int a2, .int a3]) (S' := [.int (-1 : Int32)]) (σ' := (97, I, J, R)) rfl ?_
      have h := Option.some.inj h
      subst h
      exact az_E.ret (v := some (.int (-1 : Int32))) (σ' := (97, I, J, R)) rfl (hQ _ hR_3_2 hR_3_3)
    · rw [if_neg hc_3] at h
      refine az_E.sn 2 (pc' := 9) (L' := [.ref 3, .int a1, .int a2, .int a3]) (S' := [.int a2, .ref 3]) (σ' := (97, I, J, R)) rfl ?_
      refine az_E.call (d := 5) (k' := 138) (vs := [.ref 3, .int a2]) (pc' := 12) (S' := []) rfl ?_ (fun _ _ hq => hq)
      show az_E az_F ex 5 138 0 [.ref 3, .int a2] [] (97, I, J, R) _
      refine az_E.sn 7 (pc' := 11) (L' := [.ref 3, .int a2]) (S' := [.int ((I 4 9) - (1 : Int32)), .int (0 : Int32), .int a2]) (σ' := (97, I, J, R)) rfl ?_
      refine az_E.call (d := 4) (k' := 131) (vs := [.int a2, .int (0 : Int32), .int ((I 4 9) - (1 : Int32))]) (pc' := 14) (S' := []) rfl ?_ (fun _ _ hq => hq)
      show az_E az_F ex 4 131 0 [.int a2, .int (0 : Int32), .int ((I 4 9) - (1 : Int32))] [] (97, I, J, R) _
      refine az_E.sn 2 (pc' := 2) (L' := [.int a2, .int (0 : Int32), .int ((I 4 9) - (1 : Int32))]) (S' := [.int (0 : Int32), .int a2]) (σ' := (97, I, J, R)) rfl ?_
      refine az_E.br (c := a2 < (0 : Int32)) (tt := 14) (ff := 5) (L' := [.int a2, .int (0 : Int32), .int ((I 4 9) - (1 : Int32))]) (S' := []) (σ' := (97, I, J, R)) rfl (fun hc_4 => ?_) (fun hc_4 => ?_)
      · rw [if_pos hc_4] at h
        refine az_E.sn 1 (pc' := 15) (L' := [.int a2, .int (0 : Int32), .int ((I 4 9) - (1 : Int32))]) (S' := [.int (0 : Int32)]) (σ' := (97, I, J, R)) rfl ?_
        refine az_E.ret (v := some (.int (0 : Int32))) (σ' := (97, I, J, R)) rfl ?_
        show az_E az_F ex 5 138 14 [.ref 3, .int a2] [.int (0 : Int32)] (97, I, J, R) _
        refine az_E.ret (v := some (.int (0 : Int32))) (σ' := (97, I, J, R)) rfl ?_
        show az_E az_F ex 6 93 12 [.ref 3, .int a1, .int a2, .int a3] [.int (0 : Int32)] (97, I, J, R) _
        refine az_E.br (c := (0 : Int32) = 0) (tt := 21) (ff := 15) (L' := [.ref 3, .int a1, .int a2, .int a3]) (S' := []) (σ' := (97, I, J, R)) rfl (fun _ => ?_) (fun hn => absurd (by decide) hn)
        refine az_E.sn 1 (pc' := 22) (L' := [.ref 3, .int a1, .int a2, .int a3]) (S' := [.int (-1 : Int32)]) (σ' := (97, I, J, R)) rfl ?_
        have h := Option.some.inj h
        subst h
        exact az_E.ret (v := some (.int (-1 : Int32))) (σ' := (97, I, J, R)) rfl (hQ _ hR_3_2 hR_3_3)
      · rw [if_neg hc_4] at h
        refine az_E.sn 2 (pc' := 7) (L' := [.int a2, .int (0 : Int32), .int ((I 4 9) - (1 : Int32))]) (S' := [.int ((I 4 9) - (1 : Int32)), .int a2]) (σ' := (97, I, J, R)) rfl ?_
        refine az_E.br (c := ((I 4 9) - (1 : Int32)) < a2) (tt := 14) (ff := 10) (L' := [.int a2, .int (0 : Int32), .int ((I 4 9) - (1 : Int32))]) (S' := []) (σ' := (97, I, J, R)) rfl (fun hc_5 => ?_) (fun hc_5 => ?_)
        · rw [if_pos hc_5] at h
          refine az_E.sn 1 (pc' := 15) (L' := [.int a2, .int (0 : Int32), .int ((I 4 9) - (1 : Int32))]) (S' := [.int (0 : Int32)]) (σ' := (97, I, J, R)) rfl ?_
          refine az_E.ret (v := some (.int (0 : Int32))) (σ' := (97, I, J, R)) rfl ?_
          show az_E az_F ex 5 138 14 [.ref 3, .int a2] [.int (0 : Int32)] (97, I, J, R) _
          refine az_E.ret (v := some (.int (0 : Int32))) (σ' := (97, I, J, R)) rfl ?_
          show az_E az_F ex 6 93 12 [.ref 3, .int a1, .int a2, .int a3] [.int (0 : Int32)] (97, I, J, R) _
          refine az_E.br (c := (0 : Int32) = 0) (tt := 21) (ff := 15) (L' := [.ref 3, .int a1, .int a2, .int a3]) (S' := []) (σ' := (97, I, J, R)) rfl (fun _ => ?_) (fun hn => absurd (by decide) hn)
          refine az_E.sn 1 (pc' := 22) (L' := [.ref 3, .int a1, .int a2, .int a3]) (S' := [.int (-1 : Int32)]) (σ' := (97, I, J, R)) rfl ?_
          have h := Option.some.inj h
          subst h
          exact az_E.ret (v := some (.int (-1 : Int32))) (σ' := (97, I, J, R)) rfl (hQ _ hR_3_2 hR_3_3)
        · rw [if_neg hc_5] at h
          refine az_E.sn 2 (pc' := 15) (L' := [.int a2, .int (0 : Int32), .int ((I 4 9) - (1 : Int32))]) (S' := [.int (1 : Int32)]) (σ' := (97, I, J, R)) rfl ?_
          refine az_E.ret (v := some (.int (1 : Int32))) (σ' := (97, I, J, R)) rfl ?_
          show az_E az_F ex 5 138 14 [.ref 3, .int a2] [.int (1 : Int32)] (97, I, J, R) _
          refine az_E.ret (v := some (.int (1 : Int32))) (σ' := (97, I, J, R)) rfl ?_
          show az_E az_F ex 6 93 12 [.ref 3, .int a1, .int a2, .int a3] [.int (1 : Int32)] (97, I, J, R) _
          refine az_E.br (c := (1 : Int32) = 0) (tt := 21) (ff := 15) (L' := [.ref 3, .int a1, .int a2, .int a3]) (S' := []) (σ' := (97, I, J, R)) rfl (fun hn => absurd hn (by decide)) (fun _ => ?_)
          refine az_E.sn 2 (pc' := 18) (L' := [.ref 3, .int a1, .int a2, .int a3]) (S' := [.int (-3 : Int32), .int a3]) (σ' := (97, I, J, R)) rfl ?_
          refine az_E.br (c := (-3 : Int32) ≤ a3) (tt := 23) (ff := 21) (L' := [.ref 3, .int a1, .int a2, .int a3]) (S' := []) (σ' := (97, I, J, R)) rfl (fun hc_6 => ?_) (fun hc_6 => ?_)
          · rw [if_pos hc_6] at h
            refine az_E.sn 2 (pc' := 25) (L' := [.ref 3, .int a1, .int a2, .int a3]) (S' := [.int a2, .ref 3]) (σ' := (97, I, J, R)) rfl ?_
            cases hx_8 : rs_X_setPace 16 I a2 with
            | none => rw [hx_8] at h; cases h
            | some I_7 =>
              rw [hx_8] at h
              dsimp only at h
              refine az_E.call (d := 5) (k' := 144) (vs := [.ref 3, .int a2]) (pc' := 28) (S' := []) (Q1 := fun v s => v = none ∧ s = (97, I_7, J, (az_u (az_u R 26 2 (some 16)) 26 3 (some 5)))) rfl (az_E.deep (by omega) (re_X_setPace_16 (J := J) (R := R) hR_3_2 hx_8 ⟨rfl, rfl⟩)) (fun v s hq => ?_)
              obtain ⟨rfl, rfl⟩ := hq
              show az_E az_F ex 6 93 28 [.ref 3, .int a1, .int a2, .int a3] [] (97, I_7, J, (az_u (az_u R 26 2 (some 16)) 26 3 (some 5))) _
              refine az_E.sn 5 (pc' := 37) (L' := [.ref 3, .int a1, .int a2, .int a3]) (S' := [.int a1, .ref 26, .ref 32]) (σ' := (97, I_7, J, (az_u (az_u R 26 2 (some 16)) 26 3 (some 5)))) rfl ?_
              refine az_E.call (d := 5) (k' := 135) (vs := [.int a1]) (pc' := 40) (S' := [.ref 26, .ref 32]) rfl ?_ (fun _ _ hq => hq)
              show az_E az_F ex 5 135 0 [.int a1] [] (97, I_7, J, (az_u (az_u R 26 2 (some 16)) 26 3 (some 5))) _
              refine az_E.sn 2 (pc' := 4) (L' := [.int a1]) (S' := [.int (1000 : Int32), .int a1]) (σ' := (97, I_7, J, (az_u (az_u R 26 2 (some 16)) 26 3 (some 5)))) rfl ?_
              have hd_9 : ¬ ((1000 : Int32) = 0) := by decide
              refine az_E.dv (c := (1000 : Int32) = 0) (pc' := 5) (L' := [.int a1]) (S' := [.int (a1 / (1000 : Int32))]) (σ' := (97, I_7, J, (az_u (az_u R 26 2 (some 16)) 26 3 (some 5)))) rfl hd_9 ?_
              refine az_E.ret (v := some (.int (a1 / (1000 : Int32)))) (σ' := (97, I_7, J, (az_u (az_u R 26 2 (some 16)) 26 3 (some 5)))) rfl ?_
              show az_E az_F ex 6 93 40 [.ref 3, .int a1, .int a2, .int a3] [.int (a1 / (1000 : Int32)), .ref 26, .ref 32] (97, I_7, J, (az_u (az_u R 26 2 (some 16)) 26 3 (some 5))) _
              refine az_E.sn 1 (pc' := 41) (L' := [.ref 3, .int a1, .int a2, .int a3]) (S' := [.int a1, .int (a1 / (1000 : Int32)), .ref 26, .ref 32]) (σ' := (97, I_7, J, (az_u (az_u R 26 2 (some 16)) 26 3 (some 5)))) rfl ?_
              refine az_E.call (d := 5) (k' := 136) (vs := [.int a1]) (pc' := 44) (S' := [.int (a1 / (1000 : Int32)), .ref 26, .ref 32]) rfl ?_ (fun _ _ hq => hq)
              show az_E az_F ex 5 136 0 [.int a1] [] (97, I_7, J, (az_u (az_u R 26 2 (some 16)) 26 3 (some 5))) _
              refine az_E.sn 2 (pc' := 4) (L' := [.int a1]) (S' := [.int (1000 : Int32), .int a1]) (σ' := (97, I_7, J, (az_u (az_u R 26 2 (some 16)) 26 3 (some 5)))) rfl ?_
              have hd_10 : ¬ ((1000 : Int32) = 0) := by decide
              refine az_E.dv (c := (1000 : Int32) = 0) (pc' := 5) (L' := [.int a1]) (S' := [.int (a1 - a1 / (1000 : Int32) * (1000 : Int32))]) (σ' := (97, I_7, J, (az_u (az_u R 26 2 (some 16)) 26 3 (some 5)))) rfl hd_10 ?_
              refine az_E.ret (v := some (.int (a1 - a1 / (1000 : Int32) * (1000 : Int32)))) (σ' := (97, I_7, J, (az_u (az_u R 26 2 (some 16)) 26 3 (some 5)))) rfl ?_
              show az_E az_F ex 6 93 44 [.ref 3, .int a1, .int a2, .int a3] [.int (a1 - a1 / (1000 : Int32) * (1000 : Int32)), .int (a1 / (1000 : Int32)), .ref 26, .ref 32] (97, I_7, J, (az_u (az_u R 26 2 (some 16)) 26 3 (some 5))) _
              cases hx_12 : rs_Fi_findWay 26 I_7 (a1 / (1000 : Int32)) (a1 - a1 / (1000 : Int32) * (1000 : Int32)) with
              | none => rw [hx_12] at h; cases h
              | some I_11 =>
                rw [hx_12] at h
                dsimp only at h
                refine az_E.call (d := 5) (k' := 20) (vs := [.ref 32, .ref 26, .int (a1 / (1000 : Int32)), .int (a1 - a1 / (1000 : Int32) * (1000 : Int32))]) (pc' := 47) (S' := []) (Q1 := fun v s => v = none ∧ s = (97, I_11, J, (az_u (az_u R 26 2 (some 16)) 26 3 (some 5)))) rfl (az_E.deep (by omega) (re_Fi_findWay_26_5 (J := J) (R := (az_u (az_u R 26 2 (some 16)) 26 3 (some 5))) rfl hx_12 ⟨rfl, rfl⟩)) (fun v s hq => ?_)
                obtain ⟨rfl, rfl⟩ := hq
                show az_E az_F ex 6 93 47 [.ref 3, .int a1, .int a2, .int a3] [] (97, I_11, J, (az_u (az_u R 26 2 (some 16)) 26 3 (some 5))) _
                refine az_E.sn 2 (pc' := 49) (L' := [.ref 3, .int a1, .int a2, .int a3]) (S' := [.int (-1 : Int32), .int a3]) (σ' := (97, I_11, J, (az_u (az_u R 26 2 (some 16)) 26 3 (some 5)))) rfl ?_
                refine az_E.br (c := a3 = (-1 : Int32)) (tt := 52) (ff := 65) (L' := [.ref 3, .int a1, .int a2, .int a3]) (S' := []) (σ' := (97, I_11, J, (az_u (az_u R 26 2 (some 16)) 26 3 (some 5)))) rfl (fun hc_13 => ?_) (fun hc_13 => ?_)
                · rw [if_pos hc_13] at h
                  refine az_E.sn 4 (pc' := 60) (L' := [.ref 3, .int a1, .int a2, .int a3]) (S' := [.int a1, .ref 33]) (σ' := (97, I_11, J, (az_u (az_u R 26 2 (some 16)) 26 3 (some 5)))) rfl ?_
                  refine az_E.call (d := 5) (k' := 135) (vs := [.int a1]) (pc' := 63) (S' := [.ref 33]) rfl ?_ (fun _ _ hq => hq)
                  show az_E az_F ex 5 135 0 [.int a1] [] (97, I_11, J, (az_u (az_u R 26 2 (some 16)) 26 3 (some 5))) _
                  refine az_E.sn 2 (pc' := 4) (L' := [.int a1]) (S' := [.int (1000 : Int32), .int a1]) (σ' := (97, I_11, J, (az_u (az_u R 26 2 (some 16)) 26 3 (some 5)))) rfl ?_
                  have hd_14 : ¬ ((1000 : Int32) = 0) := by decide
                  refine az_E.dv (c := (1000 : Int32) = 0) (pc' := 5) (L' := [.int a1]) (S' := [.int (a1 / (1000 : Int32))]) (σ' := (97, I_11, J, (az_u (az_u R 26 2 (some 16)) 26 3 (some 5)))) rfl hd_14 ?_
                  refine az_E.ret (v := some (.int (a1 / (1000 : Int32)))) (σ' := (97, I_11, J, (az_u (az_u R 26 2 (some 16)) 26 3 (some 5)))) rfl ?_
                  show az_E az_F ex 6 93 63 [.ref 3, .int a1, .int a2, .int a3] [.int (a1 / (1000 : Int32)), .ref 33] (97, I_11, J, (az_u (az_u R 26 2 (some 16)) 26 3 (some 5))) _
                  by_cases hc_15 : (a1 / (1000 : Int32)) < 0 ∨ 144 ≤ (a1 / (1000 : Int32)).toNatClampNeg
                  · rw [if_pos hc_15] at h; cases h
                  · rw [if_neg hc_15] at h
                    refine az_E.oi (o := az_ai az_F ex (97, I_11, J, (az_u (az_u R 26 2 (some 16)) 26 3 (some 5))) 33 (a1 / (1000 : Int32))) (pc' := 64) (L' := [.ref 3, .int a1, .int a2, .int a3]) (S' := []) (σ' := (97, I_11, J, (az_u (az_u R 26 2 (some 16)) 26 3 (some 5)))) (x := (I_11 33 (a1 / (1000 : Int32)).toNatClampNeg)) rfl (if_neg hc_15) ?_
                    have h := Option.some.inj h
                    subst h
                    exact az_E.ret (v := some (.int (I_11 33 (a1 / (1000 : Int32)).toNatClampNeg))) (σ' := (97, I_11, J, (az_u (az_u R 26 2 (some 16)) 26 3 (some 5)))) rfl (hQ _ hR_3_2 hR_3_3)
                · rw [if_neg hc_13] at h
                  refine az_E.sn 2 (pc' := 68) (L' := [.ref 3, .int a1, .int a2, .int a3]) (S' := [.int (-2 : Int32), .int a3]) (σ' := (97, I_11, J, (az_u (az_u R 26 2 (some 16)) 26 3 (some 5)))) rfl ?_
                  refine az_E.br (c := a3 = (-2 : Int32)) (tt := 71) (ff := 79) (L' := [.ref 3, .int a1, .int a2, .int a3]) (S' := []) (σ' := (97, I_11, J, (az_u (az_u R 26 2 (some 16)) 26 3 (some 5)))) rfl (fun hc_16 => ?_) (fun hc_16 => ?_)
                  · rw [if_pos hc_16] at h
                    refine az_E.sn 3 (pc' := 78) (L' := [.ref 3, .int a1, .int a2, .int a3]) (S' := [.int (I_11 32 3)]) (σ' := (97, I_11, J, (az_u (az_u R 26 2 (some 16)) 26 3 (some 5)))) rfl ?_
                    have h := Option.some.inj h
                    subst h
                    exact az_E.ret (v := some (.int (I_11 32 3))) (σ' := (97, I_11, J, (az_u (az_u R 26 2 (some 16)) 26 3 (some 5)))) rfl (hQ _ hR_3_2 hR_3_3)
                  · rw [if_neg hc_16] at h
                    refine az_E.sn 2 (pc' := 82) (L' := [.ref 3, .int a1, .int a2, .int a3]) (S' := [.int (-3 : Int32), .int a3]) (σ' := (97, I_11, J, (az_u (az_u R 26 2 (some 16)) 26 3 (some 5)))) rfl ?_
                    refine az_E.br (c := a3 = (-3 : Int32)) (tt := 85) (ff := 100) (L' := [.ref 3, .int a1, .int a2, .int a3]) (S' := []) (σ' := (97, I_11, J, (az_u (az_u R 26 2 (some 16)) 26 3 (some 5)))) rfl (fun hc_17 => ?_) (fun hc_17 => ?_)
                    · rw [if_pos hc_17] at h
                      refine az_E.sn 5 (pc' := 96) (L' := [.ref 3, .int a1, .int a2, .int a3]) (S' := [.ref 5, .ref 32]) (σ' := (97, I_11, J, (az_u (az_u R 26 2 (some 16)) 26 3 (some 5)))) rfl ?_
                      cases hx_19 : rs_Fi_climb I_11 with
                      | none => rw [hx_19] at h; cases h
                      | some x_18 =>
                        rw [hx_19] at h
                        dsimp only at h
                        refine az_E.call (d := 5) (k' := 22) (vs := [.ref 32, .ref 5]) (pc' := 99) (S' := []) (Q1 := fun v s => v = some (.int x_18) ∧ s = (97, I_11, J, (az_u (az_u R 26 2 (some 16)) 26 3 (some 5)))) rfl (az_E.deep (by omega) (re_Fi_climb (J := J) (R := (az_u (az_u R 26 2 (some 16)) 26 3 (some 5)))  hx_19 ⟨rfl, rfl⟩)) (fun v s hq => ?_)
                        obtain ⟨rfl, rfl⟩ := hq
                        show az_E az_F ex 6 93 99 [.ref 3, .int a1, .int a2, .int a3] [.int x_18] (97, I_11, J, (az_u (az_u R 26 2 (some 16)) 26 3 (some 5))) _
                        have h := Option.some.inj h
                        subst h
                        exact az_E.ret (v := some (.int x_18)) (σ' := (97, I_11, J, (az_u (az_u R 26 2 (some 16)) 26 3 (some 5)))) rfl (hQ _ hR_3_2 hR_3_3)
                    · rw [if_neg hc_17] at h
                      refine az_E.sn 4 (pc' := 108) (L' := [.ref 3, .int a1, .int a2, .int a3]) (S' := [.int (I_11 32 3), .int a3]) (σ' := (97, I_11, J, (az_u (az_u R 26 2 (some 16)) 26 3 (some 5)))) rfl ?_
                      refine az_E.br (c := (I_11 32 3) < a3) (tt := 123) (ff := 111) (L' := [.ref 3, .int a1, .int a2, .int a3]) (S' := []) (σ' := (97, I_11, J, (az_u (az_u R 26 2 (some 16)) 26 3 (some 5)))) rfl (fun hc_20 => ?_) (fun hc_20 => ?_)
                      · rw [if_pos hc_20] at h
                        refine az_E.sn 1 (pc' := 125) (L' := [.ref 3, .int a1, .int a2, .int a3]) (S' := [.int (-2 : Int32)]) (σ' := (97, I_11, J, (az_u (az_u R 26 2 (some 16)) 26 3 (some 5)))) rfl ?_
                        have h := Option.some.inj h
                        subst h
                        exact az_E.ret (v := some (.int (-2 : Int32))) (σ' := (97, I_11, J, (az_u (az_u R 26 2 (some 16)) 26 3 (some 5)))) rfl (hQ _ hR_3_2 hR_3_3)
                      · rw [if_neg hc_20] at h
                        refine az_E.sn 4 (pc' := 119) (L' := [.ref 3, .int a1, .int a2, .int a3]) (S' := [.int a3, .ref 35]) (σ' := (97, I_11, J, (az_u (az_u R 26 2 (some 16)) 26 3 (some 5)))) rfl ?_
                        by_cases hc_21 : a3 < 0 ∨ 144 ≤ a3.toNatClampNeg
                        · rw [if_pos hc_21] at h; cases h
                        · rw [if_neg hc_21] at h
                          refine az_E.oi (o := az_ai az_F ex (97, I_11, J, (az_u (az_u R 26 2 (some 16)) 26 3 (some 5))) 35 a3) (pc' := 120) (L' := [.ref 3, .int a1, .int a2, .int a3]) (S' := []) (σ' := (97, I_11, J, (az_u (az_u R 26 2 (some 16)) 26 3 (some 5)))) (x := (I_11 35 a3.toNatClampNeg)) rfl (if_neg hc_21) ?_
                          refine az_E.sn 1 (pc' := 125) (L' := [.ref 3, .int a1, .int a2, .int a3]) (S' := [.int (I_11 35 a3.toNatClampNeg)]) (σ' := (97, I_11, J, (az_u (az_u R 26 2 (some 16)) 26 3 (some 5)))) rfl ?_
                          have h := Option.some.inj h
                          subst h
                          exact az_E.ret (v := some (.int (I_11 35 a3.toNatClampNeg))) (σ' := (97, I_11, J, (az_u (az_u R 26 2 (some 16)) 26 3 (some 5)))) rfl (hQ _ hR_3_2 hR_3_3)
          · rw [if_neg hc_6] at h
            refine az_E.sn 1 (pc' := 22) (L' := [.ref 3, .int a1, .int a2, .int a3]) (S' := [.int (-1 : Int32)]) (σ' := (97, I, J, R)) rfl ?_
            have h := Option.some.inj h
            subst h
            exact az_E.ret (v := some (.int (-1 : Int32))) (σ' := (97, I, J, R)) rfl (hQ _ hR_3_2 hR_3_3)
set_option maxRecDepth 100000 in
set_option maxHeartbeats 4000000 in
theorem re_M_nextOf_4_b {ex : az_X} {I : Nat → Nat → Int32} {J : Nat → Nat → Int64} {R : Nat → Nat → Option Nat} {v1 : Int32} {v2 : Int32} {v3 : Int32} {x : ((Int32 × Int32) ⊕ (Int32))} (h : rs_M_nextOf_4_b I v1 v2 v3 = some x) {Q : Option Value → az_S → Prop} (hQ : Sum.elim (fun s => az_E az_F ex 2 199 4 [.ref 73, .int v1, .int s.1, .int s.2, .retAddr 0] [] (97, I, J, R) Q) (fun x => Q (some (.int x)) (97, I, J, R)) x) : az_E az_F ex 2 199 4 [.ref 73, .int v1, .int v2, .int v3, .retAddr 0] [] (97, I, J, R) Q := by
  unfold rs_M_nextOf_4_b at h
  refine az_E.sn 2 (pc' := 6) (L' := [.ref 73, .int v1, .int v2, .int v3, .retAddr 0]) (S' := [.int (4 : Int32), .int v3]) (σ' := (97, I, J, R)) rfl ?_
  refine az_E.br (c := (4 : Int32) ≤ v3) (tt := 64) (ff := 9) (L' := [.ref 73, .int v1, .int v2, .int v3, .retAddr 0]) (S' := []) (σ' := (97, I, J, R)) rfl (fun hc_1 => ?_) (fun hc_1 => ?_)
  · rw [if_pos hc_1] at h
    refine az_E.sn 1 (pc' := 65) (L' := [.ref 73, .int v1, .int v2, .int v3, .retAddr 0]) (S' := [.int v2]) (σ' := (97, I, J, R)) rfl ?_
    have h := Option.some.inj h
    subst h
    exact az_E.ret (v := some (.int v2)) (σ' := (97, I, J, R)) rfl hQ
  · rw [if_neg hc_1] at h
    refine az_E.sn 2 (pc' := 11) (L' := [.ref 73, .int v1, .int v2, .int v3, .retAddr 0]) (S' := [.int v3, .int v1]) (σ' := (97, I, J, R)) rfl ?_
    cases hx_3 : rs_M_beside v1 v3 with
    | none => rw [hx_3] at h; cases h
    | some x_2 =>
      rw [hx_3] at h
      dsimp only at h
      refine az_E.call (d := 1) (k' := 191) (vs := [.int v1, .int v3]) (pc' := 14) (S' := []) (Q1 := fun v s => v = some (.int x_2) ∧ s = (97, I, J, R)) rfl (az_E.deep (by omega) (re_M_beside (J := J) (R := R)  hx_3 ⟨rfl, rfl⟩)) (fun v s hq => ?_)
      obtain ⟨rfl, rfl⟩ := hq
      show az_E az_F ex 2 199 14 [.ref 73, .int v1, .int v2, .int v3, .retAddr 0] [.int x_2] (97, I, J, R) _
      refine az_E.sn 2 (pc' := 18) (L' := [.ref 73, .int v1, .int v2, .int v3, .int x_2]) (S' := [.int x_2]) (σ' := (97, I, J, R)) rfl ?_
      refine az_E.br (c := x_2 < 0) (tt := 58) (ff := 21) (L' := [.ref 73, .int v1, .int v2, .int v3, .int x_2]) (S' := []) (σ' := (97, I, J, R)) rfl (fun hc_4 => ?_) (fun hc_4 => ?_)
      · rw [if_pos hc_4] at h
        refine az_E.sn 2 (pc' := 4) (L' := [.ref 73, .int v1, .int v2, .int (v3 + (1 : Int32)), .int x_2]) (S' := []) (σ' := (97, I, J, R)) rfl ?_
        have h := Option.some.inj h
        subst h
        exact az_E.forget (L := [.ref 73, .int v1, .int v2, .int (v3 + (1 : Int32)), .retAddr 0]) ⟨rfl, rfl, rfl, rfl, trivial, trivial⟩ hQ
      · rw [if_neg hc_4] at h
        refine az_E.sn 3 (pc' := 27) (L' := [.ref 73, .int v1, .int v2, .int v3, .int x_2]) (S' := [.int x_2, .ref 84]) (σ' := (97, I, J, R)) rfl ?_
        by_cases hc_5 : x_2 < 0 ∨ 144 ≤ x_2.toNatClampNeg
        · rw [if_pos hc_5] at h; cases h
        · rw [if_neg hc_5] at h
          refine az_E.oi (o := az_ai az_F ex (97, I, J, R) 84 x_2) (pc' := 28) (L' := [.ref 73, .int v1, .int v2, .int v3, .int x_2]) (S' := []) (σ' := (97, I, J, R)) (x := (I 84 x_2.toNatClampNeg)) rfl (if_neg hc_5) ?_
          refine az_E.sn 3 (pc' := 32) (L' := [.ref 73, .int v1, .int v2, .int v3, .int x_2]) (S' := [.int x_2, .int v1, .ref 73, .int (I 84 x_2.toNatClampNeg)]) (σ' := (97, I, J, R)) rfl ?_
          refine az_E.call (d := 1) (k' := 192) (vs := [.ref 73, .int v1, .int x_2]) (pc' := 35) (S' := [.int (I 84 x_2.toNatClampNeg)]) rfl ?_ (fun _ _ hq => hq)
          show az_E az_F ex 1 192 0 [.ref 73, .int v1, .int x_2] [] (97, I, J, R) _
          refine az_E.sn 6 (pc' := 11) (L' := [.ref 73, .int v1, .int x_2]) (S' := [.int v1, .ref 74, .int (10 : Int32), .ref 83]) (σ' := (97, I, J, R)) rfl ?_
          by_cases hc_6 : v1 < 0 ∨ 179 ≤ v1.toNatClampNeg
          · rw [if_pos hc_6] at h; cases h
          · rw [if_neg hc_6] at h
            refine az_E.oi (o := az_ai az_F ex (97, I, J, R) 74 v1) (pc' := 12) (L' := [.ref 73, .int v1, .int x_2]) (S' := [.int (10 : Int32), .ref 83]) (σ' := (97, I, J, R)) (x := (I 74 v1.toNatClampNeg)) rfl (if_neg hc_6) ?_
            refine az_E.sn 4 (pc' := 18) (L' := [.ref 73, .int v1, .int x_2]) (S' := [.int x_2, .ref 74, .int ((10 : Int32) * (I 74 v1.toNatClampNeg)), .ref 83]) (σ' := (97, I, J, R)) rfl ?_
            by_cases hc_7 : x_2 < 0 ∨ 179 ≤ x_2.toNatClampNeg
            · rw [if_pos hc_7] at h; cases h
            · rw [if_neg hc_7] at h
              refine az_E.oi (o := az_ai az_F ex (97, I, J, R) 74 x_2) (pc' := 19) (L' := [.ref 73, .int v1, .int x_2]) (S' := [.int ((10 : Int32) * (I 74 v1.toNatClampNeg)), .ref 83]) (σ' := (97, I, J, R)) (x := (I 74 x_2.toNatClampNeg)) rfl (if_neg hc_7) ?_
              refine az_E.sn 1 (pc' := 20) (L' := [.ref 73, .int v1, .int x_2]) (S' := [.int (((10 : Int32) * (I 74 v1.toNatClampNeg)) + (I 74 x_2.toNatClampNeg)), .ref 83]) (σ' := (97, I, J, R)) rfl ?_
              by_cases hc_8 : (((10 : Int32) * (I 74 v1.toNatClampNeg)) + (I 74 x_2.toNatClampNeg)) < 0 ∨ 100 ≤ (((10 : Int32) * (I 74 v1.toNatClampNeg)) + (I 74 x_2.toNatClampNeg)).toNatClampNeg
              · rw [if_pos hc_8] at h; cases h
              · rw [if_neg hc_8] at h
                refine az_E.oi (o := az_ai az_F ex (97, I, J, R) 83 (((10 : Int32) * (I 74 v1.toNatClampNeg)) + (I 74 x_2.toNatClampNeg))) (pc' := 21) (L' := [.ref 73, .int v1, .int x_2]) (S' := []) (σ' := (97, I, J, R)) (x := (I 83 (((10 : Int32) * (I 74 v1.toNatClampNeg)) + (I 74 x_2.toNatClampNeg)).toNatClampNeg)) rfl (if_neg hc_8) ?_
                refine az_E.ret (v := some (.int (I 83 (((10 : Int32) * (I 74 v1.toNatClampNeg)) + (I 74 x_2.toNatClampNeg)).toNatClampNeg))) (σ' := (97, I, J, R)) rfl ?_
                show az_E az_F ex 2 199 35 [.ref 73, .int v1, .int v2, .int v3, .int x_2] [.int (I 83 (((10 : Int32) * (I 74 v1.toNatClampNeg)) + (I 74 x_2.toNatClampNeg)).toNatClampNeg), .int (I 84 x_2.toNatClampNeg)] (97, I, J, R) _
                refine az_E.sn 4 (pc' := 41) (L' := [.ref 73, .int v1, .int v2, .int v3, .int x_2]) (S' := [.int v1, .ref 84, .int ((I 84 x_2.toNatClampNeg) + (I 83 (((10 : Int32) * (I 74 v1.toNatClampNeg)) + (I 74 x_2.toNatClampNeg)).toNatClampNeg))]) (σ' := (97, I, J, R)) rfl ?_
                by_cases hc_9 : v1 < 0 ∨ 144 ≤ v1.toNatClampNeg
                · rw [if_pos hc_9] at h; cases h
                · rw [if_neg hc_9] at h
                  refine az_E.oi (o := az_ai az_F ex (97, I, J, R) 84 v1) (pc' := 42) (L' := [.ref 73, .int v1, .int v2, .int v3, .int x_2]) (S' := [.int ((I 84 x_2.toNatClampNeg) + (I 83 (((10 : Int32) * (I 74 v1.toNatClampNeg)) + (I 74 x_2.toNatClampNeg)).toNatClampNeg))]) (σ' := (97, I, J, R)) (x := (I 84 v1.toNatClampNeg)) rfl (if_neg hc_9) ?_
                  refine az_E.br (c := ((I 84 x_2.toNatClampNeg) + (I 83 (((10 : Int32) * (I 74 v1.toNatClampNeg)) + (I 74 x_2.toNatClampNeg)).toNatClampNeg)) = (I 84 v1.toNatClampNeg)) (tt := 45) (ff := 58) (L' := [.ref 73, .int v1, .int v2, .int v3, .int x_2]) (S' := []) (σ' := (97, I, J, R)) rfl (fun hc_10 => ?_) (fun hc_10 => ?_)
                  · rw [if_pos hc_10] at h
                    refine az_E.sn 1 (pc' := 46) (L' := [.ref 73, .int v1, .int v2, .int v3, .int x_2]) (S' := [.int v2]) (σ' := (97, I, J, R)) rfl ?_
                    refine az_E.br (c := v2 < 0) (tt := 55) (ff := 49) (L' := [.ref 73, .int v1, .int v2, .int v3, .int x_2]) (S' := []) (σ' := (97, I, J, R)) rfl (fun hc_11 => ?_) (fun hc_11 => ?_)
                    · rw [if_pos hc_11] at h
                      refine az_E.sn 4 (pc' := 4) (L' := [.ref 73, .int v1, .int x_2, .int (v3 + (1 : Int32)), .int x_2]) (S' := []) (σ' := (97, I, J, R)) rfl ?_
                      have h := Option.some.inj h
                      subst h
                      exact az_E.forget (L := [.ref 73, .int v1, .int x_2, .int (v3 + (1 : Int32)), .retAddr 0]) ⟨rfl, rfl, rfl, rfl, trivial, trivial⟩ hQ
                    · rw [if_neg hc_11] at h
                      refine az_E.sn 2 (pc' := 52) (L' := [.ref 73, .int v1, .int v2, .int v3, .int x_2]) (S' := [.int v2, .int x_2]) (σ' := (97, I, J, R)) rfl ?_
                      refine az_E.br (c := v2 ≤ x_2) (tt := 58) (ff := 55) (L' := [.ref 73, .int v1, .int v2, .int v3, .int x_2]) (S' := []) (σ' := (97, I, J, R)) rfl (fun hc_12 => ?_) (fun hc_12 => ?_)
                      · rw [if_pos hc_12] at h
                        refine az_E.sn 2 (pc' := 4) (L' := [.ref 73, .int v1, .int v2, .int (v3 + (1 : Int32)), .int x_2]) (S' := []) (σ' := (97, I, J, R)) rfl ?_
                        have h := Option.some.inj h
                        subst h
                        exact az_E.forget (L := [.ref 73, .int v1, .int v2, .int (v3 + (1 : Int32)), .retAddr 0]) ⟨rfl, rfl, rfl, rfl, trivial, trivial⟩ hQ
                      · rw [if_neg hc_12] at h
                        refine az_E.sn 4 (pc' := 4) (L' := [.ref 73, .int v1, .int x_2, .int (v3 + (1 : Int32)), .int x_2]) (S' := []) (σ' := (97, I, J, R)) rfl ?_
                        have h := Option.some.inj h
                        subst h
                        exact az_E.forget (L := [.ref 73, .int v1, .int x_2, .int (v3 + (1 : Int32)), .retAddr 0]) ⟨rfl, rfl, rfl, rfl, trivial, trivial⟩ hQ
                  · rw [if_neg hc_10] at h
                    refine az_E.sn 2 (pc' := 4) (L' := [.ref 73, .int v1, .int v2, .int (v3 + (1 : Int32)), .int x_2]) (S' := []) (σ' := (97, I, J, R)) rfl ?_
                    have h := Option.some.inj h
                    subst h
                    exact az_E.forget (L := [.ref 73, .int v1, .int v2, .int (v3 + (1 : Int32)), .retAddr 0]) ⟨rfl, rfl, rfl, rfl, trivial, trivial⟩ hQ
set_option maxRecDepth 100000 in
set_option maxHeartbeats 4000000 in
theorem re_M_nextOf_4 {ex : az_X} {I : Nat → Nat → Int32} {J : Nat → Nat → Int64} {R : Nat → Nat → Option Nat} {v1 : Int32} {v2 : Int32} {v3 : Int32} {x : Int32} (h : rs_M_nextOf_4 I v1 v2 v3 = some x) {Q : Option Value → az_S → Prop} (hQ : Q (some (.int x)) (97, I, J, R)) : az_E az_F ex 2 199 4 [.ref 73, .int v1, .int v2, .int v3, .retAddr 0] [] (97, I, J, R) Q := by
  unfold rs_M_nextOf_4 at h
  refine az_lp_E (G := fun s => az_E az_F ex 2 199 4 [.ref 73, .int v1, .int s.1, .int s.2, .retAddr 0] [] (97, I, J, R) Q) (H := fun x => Q (some (.int x)) (97, I, J, R)) (fun s o hb ho => ?_) _ _ _ h hQ
  exact re_M_nextOf_4_b  hb ho
set_option maxRecDepth 100000 in
set_option maxHeartbeats 4000000 in
theorem re_M_nextOf {ex : az_X} {I : Nat → Nat → Int32} {J : Nat → Nat → Int64} {R : Nat → Nat → Option Nat} {a1 : Int32} {o : Int32} (h : rs_M_nextOf I a1 = some o) {Q : Option Value → az_S → Prop} (hQ : Q (some (.int o)) (97, I, J, R)) : az_E az_F ex 2 199 0 [.ref 73, .int a1, .retAddr 0, .retAddr 0, .retAddr 0] [] (97, I, J, R) Q := by
  unfold rs_M_nextOf at h
  refine az_E.sn 4 (pc' := 4) (L' := [.ref 73, .int a1, .int (-1 : Int32), .int (0 : Int32), .retAddr 0]) (S' := []) (σ' := (97, I, J, R)) rfl ?_
  exact az_E.forget (L := [.ref 73, .int a1, .int (-1 : Int32), .int (0 : Int32), .retAddr 0]) ⟨rfl, rfl, rfl, rfl, trivial, trivial⟩ (re_M_nextOf_4 (I := I) (J := J) (R := R)  h hQ)
set_option maxRecDepth 100000 in
set_option maxHeartbeats 4000000 in
theorem re_M_way_143 {ex : az_X} {I : Nat → Nat → Int32} {J : Nat → Nat → Int64} {R : Nat → Nat → Option Nat} {v3 : Int32} {v4 : Int32} {v5 : Int32} {v6 : Int32} {x : Int32 × (Nat → Nat → Int32)} (h : rs_M_way_143 I v3 v4 v5 v6 = some x) {Q : Option Value → az_S → Prop} (hQ : Q (some (.int x.1)) (97, x.2, J, R)) : az_E az_F ex 125 200 143 [.retAddr 0, .retAddr 0, .retAddr 0, .int v3, .int v4, .int v5, .int v6, .retAddr 0] [] (97, I, J, R) Q := by
  unfold rs_M_way_143 at h
  refine az_E.sn 2 (pc' := 146) (L' := [.retAddr 0, .retAddr 0, .retAddr 0, .int v3, .int v4, .int v5, .int v6, .retAddr 0]) (S' := [.int (-2 : Int32), .int v3]) (σ' := (97, I, J, R)) rfl ?_
  refine az_E.br (c := v3 = (-2 : Int32)) (tt := 149) (ff := 154) (L' := [.retAddr 0, .retAddr 0, .retAddr 0, .int v3, .int v4, .int v5, .int v6, .retAddr 0]) (S' := []) (σ' := (97, I, J, R)) rfl (fun hc_18 => ?_) (fun hc_18 => ?_)
  · rw [if_pos hc_18] at h
    refine az_E.sn 2 (pc' := 178) (L' := [.retAddr 0, .retAddr 0, .retAddr 0, .int v3, .int v4, .int v5, .int v6, .retAddr 0]) (S' := [.int v5]) (σ' := (97, I, J, R)) rfl ?_
    have h := Option.some.inj h
    subst h
    exact az_E.ret (v := some (.int v5)) (σ' := (97, I, J, R)) rfl hQ
  · rw [if_neg hc_18] at h
    refine az_E.sn 2 (pc' := 157) (L' := [.retAddr 0, .retAddr 0, .retAddr 0, .int v3, .int v4, .int v5, .int v6, .retAddr 0]) (S' := [.int (-3 : Int32), .int v3]) (σ' := (97, I, J, R)) rfl ?_
    refine az_E.br (c := v3 = (-3 : Int32)) (tt := 160) (ff := 165) (L' := [.retAddr 0, .retAddr 0, .retAddr 0, .int v3, .int v4, .int v5, .int v6, .retAddr 0]) (S' := []) (σ' := (97, I, J, R)) rfl (fun hc_19 => ?_) (fun hc_19 => ?_)
    · rw [if_pos hc_19] at h
      refine az_E.sn 2 (pc' := 178) (L' := [.retAddr 0, .retAddr 0, .retAddr 0, .int v3, .int v4, .int v5, .int v6, .retAddr 0]) (S' := [.int v6]) (σ' := (97, I, J, R)) rfl ?_
      have h := Option.some.inj h
      subst h
      exact az_E.ret (v := some (.int v6)) (σ' := (97, I, J, R)) rfl hQ
    · rw [if_neg hc_19] at h
      refine az_E.sn 2 (pc' := 168) (L' := [.retAddr 0, .retAddr 0, .retAddr 0, .int v3, .int v4, .int v5, .int v6, .retAddr 0]) (S' := [.int v3, .int v5]) (σ' := (97, I, J, R)) rfl ?_
      refine az_E.br (c := v5 = v3) (tt := 171) (ff := 176) (L' := [.retAddr 0, .retAddr 0, .retAddr 0, .int v3, .int v4, .int v5, .int v6, .retAddr 0]) (S' := []) (σ' := (97, I, J, R)) rfl (fun hc_20 => ?_) (fun hc_20 => ?_)
      · rw [if_pos hc_20] at h
        refine az_E.sn 2 (pc' := 178) (L' := [.retAddr 0, .retAddr 0, .retAddr 0, .int v3, .int v4, .int v5, .int v6, .retAddr 0]) (S' := [.int v4]) (σ' := (97, I, J, R)) rfl ?_
        have h := Option.some.inj h
        subst h
        exact az_E.ret (v := some (.int v4)) (σ' := (97, I, J, R)) rfl hQ
      · rw [if_neg hc_20] at h
        refine az_E.sn 1 (pc' := 178) (L' := [.retAddr 0, .retAddr 0, .retAddr 0, .int v3, .int v4, .int v5, .int v6, .retAddr 0]) (S' := [.int (-2 : Int32)]) (σ' := (97, I, J, R)) rfl ?_
        have h := Option.some.inj h
        subst h
        exact az_E.ret (v := some (.int (-2 : Int32))) (σ' := (97, I, J, R)) rfl hQ
set_option maxRecDepth 100000 in
set_option maxHeartbeats 4000000 in
theorem re_M_way_68_b {ex : az_X} {I : Nat → Nat → Int32} {J : Nat → Nat → Int64} {R : Nat → Nat → Option Nat} {v1 : Int32} {v3 : Int32} {v4 : Int32} {v5 : Int32} {v6 : Int32} {x : ((Int32 × Int32 × Int32) ⊕ (Int32 × (Nat → Nat → Int32)))} (h : rs_M_way_68_b I v1 v3 v4 v5 v6 = some x) {Q : Option Value → az_S → Prop} (hQ : Sum.elim (fun s => az_E az_F ex 125 200 68 [.ref 73, .int v1, .retAddr 0, .int v3, .int s.1, .int s.2.1, .int s.2.2, .retAddr 0] [] (97, I, J, R) Q) (fun x => Q (some (.int x.1)) (97, x.2, J, R)) x) : az_E az_F ex 125 200 68 [.ref 73, .int v1, .retAddr 0, .int v3, .int v4, .int v5, .int v6, .retAddr 0] [] (97, I, J, R) Q := by
  unfold rs_M_way_68_b at h
  refine az_E.sn 3 (pc' := 74) (L' := [.ref 73, .int v1, .retAddr 0, .int v3, .int v4, .int v5, .int v6, .retAddr 0]) (S' := [.int (1000 : Int32), .int v1, .int v4]) (σ' := (97, I, J, R)) rfl ?_
  have hd_16 : ¬ ((1000 : Int32) = 0) := by decide
  refine az_E.dv (c := (1000 : Int32) = 0) (pc' := 75) (L' := [.ref 73, .int v1, .retAddr 0, .int v3, .int v4, .int v5, .int v6, .retAddr 0]) (S' := [.int (v1 - v1 / (1000 : Int32) * (1000 : Int32)), .int v4]) (σ' := (97, I, J, R)) rfl hd_16 ?_
  refine az_E.br (c := v4 = (v1 - v1 / (1000 : Int32) * (1000 : Int32))) (tt := 143) (ff := 78) (L' := [.ref 73, .int v1, .retAddr 0, .int v3, .int v4, .int v5, .int v6, .retAddr 0]) (S' := []) (σ' := (97, I, J, R)) rfl (fun hc_17 => ?_) (fun hc_17 => ?_)
  · rw [if_pos hc_17] at h
    obtain ⟨x, hx, rfl⟩ := Option.map_eq_some_iff.mp h
    exact az_E.forget (L := [.retAddr 0, .retAddr 0, .retAddr 0, .int v3, .int v4, .int v5, .int v6, .retAddr 0]) ⟨trivial, trivial, trivial, rfl, rfl, rfl, rfl, trivial, trivial⟩ (re_M_way_143 (I := I) (J := J) (R := R)  hx hQ)
  · rw [if_neg hc_17] at h
    refine az_E.sn 2 (pc' := 81) (L' := [.ref 73, .int v1, .retAddr 0, .int v3, .int v4, .int v5, .int v6, .retAddr 0]) (S' := [.int v3, .int v5]) (σ' := (97, I, J, R)) rfl ?_
    refine az_E.br (c := v5 = v3) (tt := 143) (ff := 84) (L' := [.ref 73, .int v1, .retAddr 0, .int v3, .int v4, .int v5, .int v6, .retAddr 0]) (S' := []) (σ' := (97, I, J, R)) rfl (fun hc_21 => ?_) (fun hc_21 => ?_)
    · rw [if_pos hc_21] at h
      obtain ⟨x, hx, rfl⟩ := Option.map_eq_some_iff.mp h
      exact az_E.forget (L := [.retAddr 0, .retAddr 0, .retAddr 0, .int v3, .int v4, .int v5, .int v6, .retAddr 0]) ⟨trivial, trivial, trivial, rfl, rfl, rfl, rfl, trivial, trivial⟩ (re_M_way_143 (I := I) (J := J) (R := R)  hx hQ)
    · rw [if_neg hc_21] at h
      refine az_E.sn 2 (pc' := 87) (L' := [.ref 73, .int v1, .retAddr 0, .int v3, .int v4, .int v5, .int v6, .retAddr 0]) (S' := [.int v4, .ref 73]) (σ' := (97, I, J, R)) rfl ?_
      cases hx_23 : rs_M_nextOf I v4 with
      | none => rw [hx_23] at h; cases h
      | some x_22 =>
        rw [hx_23] at h
        dsimp only at h
        refine az_E.call (d := 124) (k' := 199) (vs := [.ref 73, .int v4]) (pc' := 90) (S' := []) (Q1 := fun v s => v = some (.int x_22) ∧ s = (97, I, J, R)) rfl (az_E.deep (by omega) (re_M_nextOf (J := J) (R := R)  hx_23 ⟨rfl, rfl⟩)) (fun v s hq => ?_)
        obtain ⟨rfl, rfl⟩ := hq
        show az_E az_F ex 125 200 90 [.ref 73, .int v1, .retAddr 0, .int v3, .int v4, .int v5, .int v6, .retAddr 0] [.int x_22] (97, I, J, R) _
        refine az_E.sn 5 (pc' := 100) (L' := [.ref 73, .int v1, .retAddr 0, .int v3, .int v4, .int v5, .int v6, .int x_22]) (S' := [.int x_22, .ref 74, .int v6]) (σ' := (97, I, J, R)) rfl ?_
        by_cases hc_24 : x_22 < 0 ∨ 179 ≤ x_22.toNatClampNeg
        · rw [if_pos hc_24] at h; cases h
        · rw [if_neg hc_24] at h
          refine az_E.oi (o := az_ai az_F ex (97, I, J, R) 74 x_22) (pc' := 101) (L' := [.ref 73, .int v1, .retAddr 0, .int v3, .int v4, .int v5, .int v6, .int x_22]) (S' := [.int v6]) (σ' := (97, I, J, R)) (x := (I 74 x_22.toNatClampNeg)) rfl (if_neg hc_24) ?_
          refine az_E.sn 3 (pc' := 107) (L' := [.ref 73, .int v1, .retAddr 0, .int v3, .int v4, .int v5, .int v6, .int x_22]) (S' := [.int v4, .ref 74, .int (I 74 x_22.toNatClampNeg), .int v6]) (σ' := (97, I, J, R)) rfl ?_
          by_cases hc_25 : v4 < 0 ∨ 179 ≤ v4.toNatClampNeg
          · rw [if_pos hc_25] at h; cases h
          · rw [if_neg hc_25] at h
            refine az_E.oi (o := az_ai az_F ex (97, I, J, R) 74 v4) (pc' := 108) (L' := [.ref 73, .int v1, .retAddr 0, .int v3, .int v4, .int v5, .int v6, .int x_22]) (S' := [.int (I 74 x_22.toNatClampNeg), .int v6]) (σ' := (97, I, J, R)) (x := (I 74 v4.toNatClampNeg)) rfl (if_neg hc_25) ?_
            refine az_E.br (c := (I 74 x_22.toNatClampNeg) ≤ (I 74 v4.toNatClampNeg)) (tt := 129) (ff := 111) (L' := [.ref 73, .int v1, .retAddr 0, .int v3, .int v4, .int v5, .int v6, .int x_22]) (S' := [.int v6]) (σ' := (97, I, J, R)) rfl (fun hc_26 => ?_) (fun hc_26 => ?_)
            · rw [if_pos hc_26] at h
              refine az_E.sn 7 (pc' := 68) (L' := [.ref 73, .int v1, .retAddr 0, .int v3, .int x_22, .int (v5 + (1 : Int32)), .int (v6 + (0 : Int32)), .int x_22]) (S' := []) (σ' := (97, I, J, R)) rfl ?_
              have h := Option.some.inj h
              subst h
              exact az_E.forget (L := [.ref 73, .int v1, .retAddr 0, .int v3, .int x_22, .int (v5 + (1 : Int32)), .int (v6 + (0 : Int32)), .retAddr 0]) ⟨rfl, rfl, trivial, rfl, rfl, rfl, rfl, trivial, trivial⟩ hQ
            · rw [if_neg hc_26] at h
              refine az_E.sn 3 (pc' := 117) (L' := [.ref 73, .int v1, .retAddr 0, .int v3, .int v4, .int v5, .int v6, .int x_22]) (S' := [.int x_22, .ref 74, .int v6]) (σ' := (97, I, J, R)) rfl ?_
              by_cases hc_27 : x_22 < 0 ∨ 179 ≤ x_22.toNatClampNeg
              · rw [if_pos hc_27] at h; cases h
              · rw [if_neg hc_27] at h
                refine az_E.oi (o := az_ai az_F ex (97, I, J, R) 74 x_22) (pc' := 118) (L' := [.ref 73, .int v1, .retAddr 0, .int v3, .int v4, .int v5, .int v6, .int x_22]) (S' := [.int v6]) (σ' := (97, I, J, R)) (x := (I 74 x_22.toNatClampNeg)) rfl (if_neg hc_27) ?_
                refine az_E.sn 3 (pc' := 124) (L' := [.ref 73, .int v1, .retAddr 0, .int v3, .int v4, .int v5, .int v6, .int x_22]) (S' := [.int v4, .ref 74, .int (I 74 x_22.toNatClampNeg), .int v6]) (σ' := (97, I, J, R)) rfl ?_
                by_cases hc_28 : v4 < 0 ∨ 179 ≤ v4.toNatClampNeg
                · rw [if_pos hc_28] at h; cases h
                · rw [if_neg hc_28] at h
                  refine az_E.oi (o := az_ai az_F ex (97, I, J, R) 74 v4) (pc' := 125) (L' := [.ref 73, .int v1, .retAddr 0, .int v3, .int v4, .int v5, .int v6, .int x_22]) (S' := [.int (I 74 x_22.toNatClampNeg), .int v6]) (σ' := (97, I, J, R)) (x := (I 74 v4.toNatClampNeg)) rfl (if_neg hc_28) ?_
                  refine az_E.sn 8 (pc' := 68) (L' := [.ref 73, .int v1, .retAddr 0, .int v3, .int x_22, .int (v5 + (1 : Int32)), .int (v6 + ((I 74 x_22.toNatClampNeg) - (I 74 v4.toNatClampNeg))), .int x_22]) (S' := []) (σ' := (97, I, J, R)) rfl ?_
                  have h := Option.some.inj h
                  subst h
                  exact az_E.forget (L := [.ref 73, .int v1, .retAddr 0, .int v3, .int x_22, .int (v5 + (1 : Int32)), .int (v6 + ((I 74 x_22.toNatClampNeg) - (I 74 v4.toNatClampNeg))), .retAddr 0]) ⟨rfl, rfl, trivial, rfl, rfl, rfl, rfl, trivial, trivial⟩ hQ
set_option maxRecDepth 100000 in
set_option maxHeartbeats 4000000 in
theorem re_M_way_68 {ex : az_X} {I : Nat → Nat → Int32} {J : Nat → Nat → Int64} {R : Nat → Nat → Option Nat} {v1 : Int32} {v3 : Int32} {v4 : Int32} {v5 : Int32} {v6 : Int32} {x : Int32 × (Nat → Nat → Int32)} (h : rs_M_way_68 I v1 v3 v4 v5 v6 = some x) {Q : Option Value → az_S → Prop} (hQ : Q (some (.int x.1)) (97, x.2, J, R)) : az_E az_F ex 125 200 68 [.ref 73, .int v1, .retAddr 0, .int v3, .int v4, .int v5, .int v6, .retAddr 0] [] (97, I, J, R) Q := by
  unfold rs_M_way_68 at h
  refine az_lp_E (G := fun s => az_E az_F ex 125 200 68 [.ref 73, .int v1, .retAddr 0, .int v3, .int s.1, .int s.2.1, .int s.2.2, .retAddr 0] [] (97, I, J, R) Q) (H := fun x => Q (some (.int x.1)) (97, x.2, J, R)) (fun s o hb ho => ?_) _ _ _ h hQ
  exact re_M_way_68_b  hb ho
set_option maxRecDepth 100000 in
set_option maxHeartbeats 4000000 in
theorem re_M_way {ex : az_X} {I : Nat → Nat → Int32} {J : Nat → Nat → Int64} {R : Nat → Nat → Option Nat} {a1 : Int32} {a2 : Int32} {a3 : Int32} {o : Int32 × (Nat → Nat → Int32)} (h : rs_M_way I a1 a2 a3 = some o) {Q : Option Value → az_S → Prop} (hQ : Q (some (.int o.1)) (97, o.2, J, R)) : az_E az_F ex 125 200 0 [.ref 73, .int a1, .int a2, .int a3, .retAddr 0, .retAddr 0, .retAddr 0, .retAddr 0] [] (97, I, J, R) Q := by
  unfold rs_M_way at h
  refine az_E.sn 1 (pc' := 1) (L' := [.ref 73, .int a1, .int a2, .int a3, .retAddr 0, .retAddr 0, .retAddr 0, .retAddr 0]) (S' := [.int a1]) (σ' := (97, I, J, R)) rfl ?_
  cases hx_2 : rs_M_isFt a1 with
  | none => rw [hx_2] at h; cases h
  | some x_1 =>
    rw [hx_2] at h
    dsimp only at h
    refine az_E.call (d := 124) (k' := 163) (vs := [.int a1]) (pc' := 4) (S' := []) (Q1 := fun v s => v = some (.int x_1) ∧ s = (97, I, J, R)) rfl (az_E.deep (by omega) (re_M_isFt (J := J) (R := R)  hx_2 ⟨rfl, rfl⟩)) (fun v s hq => ?_)
    obtain ⟨rfl, rfl⟩ := hq
    show az_E az_F ex 125 200 4 [.ref 73, .int a1, .int a2, .int a3, .retAddr 0, .retAddr 0, .retAddr 0, .retAddr 0] [.int x_1] (97, I, J, R) _
    refine az_E.br (c := x_1 = 0) (tt := 22) (ff := 7) (L' := [.ref 73, .int a1, .int a2, .int a3, .retAddr 0, .retAddr 0, .retAddr 0, .retAddr 0]) (S' := []) (σ' := (97, I, J, R)) rfl (fun hc_3 => ?_) (fun hc_3 => ?_)
    · rw [if_pos hc_3] at h
      refine az_E.sn 1 (pc' := 23) (L' := [.ref 73, .int a1, .int a2, .int a3, .retAddr 0, .retAddr 0, .retAddr 0, .retAddr 0]) (S' := [.int (-1 : Int32)]) (σ' := (97, I, J, R)) rfl ?_
      have h := Option.some.inj h
      subst h
      exact az_E.ret (v := some (.int (-1 : Int32))) (σ' := (97, I, J, R)) rfl hQ
    · rw [if_neg hc_3] at h
      refine az_E.sn 3 (pc' := 10) (L' := [.ref 73, .int a1, .int a2, .int a3, .retAddr 0, .retAddr 0, .retAddr 0, .retAddr 0]) (S' := [.long a2.toInt64, .ref 73]) (σ' := (97, I, J, R)) rfl ?_
      refine az_E.call (d := 124) (k' := 162) (vs := [.ref 73, .long a2.toInt64]) (pc' := 13) (S' := []) rfl ?_ (fun _ _ hq => hq)
      show az_E az_F ex 124 162 0 [.ref 73, .long a2.toInt64, .retAddr 0] [] (97, I, J, R) _
      refine az_E.sn 7 (pc' := 9) (L' := [.ref 73, .long a2.toInt64, .retAddr 0]) (S' := [.long ((I 73 7) - (1 : Int32)).toInt64, .long (0 : Int64), .long a2.toInt64]) (σ' := (97, I, J, R)) rfl ?_
      refine az_E.call (d := 123) (k' := 154) (vs := [.long a2.toInt64, .long (0 : Int64), .long ((I 73 7) - (1 : Int32)).toInt64]) (pc' := 12) (S' := []) rfl ?_ (fun _ _ hq => hq)
      show az_E az_F ex 123 154 0 [.long a2.toInt64, .retAddr 0, .long (0 : Int64), .retAddr 0, .long ((I 73 7) - (1 : Int32)).toInt64, .retAddr 0] [] (97, I, J, R) _
      refine az_E.sn 3 (pc' := 3) (L' := [.long a2.toInt64, .retAddr 0, .long (0 : Int64), .retAddr 0, .long ((I 73 7) - (1 : Int32)).toInt64, .retAddr 0]) (S' := [.int (lg_cmp a2.toInt64 (0 : Int64))]) (σ' := (97, I, J, R)) rfl ?_
      refine az_E.br (c := (lg_cmp a2.toInt64 (0 : Int64)) < 0) (tt := 17) (ff := 6) (L' := [.long a2.toInt64, .retAddr 0, .long (0 : Int64), .retAddr 0, .long ((I 73 7) - (1 : Int32)).toInt64, .retAddr 0]) (S' := []) (σ' := (97, I, J, R)) rfl (fun hc_4 => ?_) (fun hc_4 => ?_)
      · rw [if_pos hc_4] at h
        refine az_E.sn 1 (pc' := 18) (L' := [.long a2.toInt64, .retAddr 0, .long (0 : Int64), .retAddr 0, .long ((I 73 7) - (1 : Int32)).toInt64, .retAddr 0]) (S' := [.int (0 : Int32)]) (σ' := (97, I, J, R)) rfl ?_
        refine az_E.ret (v := some (.int (0 : Int32))) (σ' := (97, I, J, R)) rfl ?_
        show az_E az_F ex 124 162 12 [.ref 73, .long a2.toInt64, .retAddr 0] [.int (0 : Int32)] (97, I, J, R) _
        refine az_E.ret (v := some (.int (0 : Int32))) (σ' := (97, I, J, R)) rfl ?_
        show az_E az_F ex 125 200 13 [.ref 73, .int a1, .int a2, .int a3, .retAddr 0, .retAddr 0, .retAddr 0, .retAddr 0] [.int (0 : Int32)] (97, I, J, R) _
        refine az_E.br (c := (0 : Int32) = 0) (tt := 22) (ff := 16) (L' := [.ref 73, .int a1, .int a2, .int a3, .retAddr 0, .retAddr 0, .retAddr 0, .retAddr 0]) (S' := []) (σ' := (97, I, J, R)) rfl (fun _ => ?_) (fun hn => absurd (by decide) hn)
        refine az_E.sn 1 (pc' := 23) (L' := [.ref 73, .int a1, .int a2, .int a3, .retAddr 0, .retAddr 0, .retAddr 0, .retAddr 0]) (S' := [.int (-1 : Int32)]) (σ' := (97, I, J, R)) rfl ?_
        have h := Option.some.inj h
        subst h
        exact az_E.ret (v := some (.int (-1 : Int32))) (σ' := (97, I, J, R)) rfl hQ
      · rw [if_neg hc_4] at h
        refine az_E.sn 3 (pc' := 10) (L' := [.long a2.toInt64, .retAddr 0, .long (0 : Int64), .retAddr 0, .long ((I 73 7) - (1 : Int32)).toInt64, .retAddr 0]) (S' := [.int (lg_cmp a2.toInt64 ((I 73 7) - (1 : Int32)).toInt64)]) (σ' := (97, I, J, R)) rfl ?_
        refine az_E.br (c := 0 < (lg_cmp a2.toInt64 ((I 73 7) - (1 : Int32)).toInt64)) (tt := 17) (ff := 13) (L' := [.long a2.toInt64, .retAddr 0, .long (0 : Int64), .retAddr 0, .long ((I 73 7) - (1 : Int32)).toInt64, .retAddr 0]) (S' := []) (σ' := (97, I, J, R)) rfl (fun hc_5 => ?_) (fun hc_5 => ?_)
        · rw [if_pos hc_5] at h
          refine az_E.sn 1 (pc' := 18) (L' := [.long a2.toInt64, .retAddr 0, .long (0 : Int64), .retAddr 0, .long ((I 73 7) - (1 : Int32)).toInt64, .retAddr 0]) (S' := [.int (0 : Int32)]) (σ' := (97, I, J, R)) rfl ?_
          refine az_E.ret (v := some (.int (0 : Int32))) (σ' := (97, I, J, R)) rfl ?_
          show az_E az_F ex 124 162 12 [.ref 73, .long a2.toInt64, .retAddr 0] [.int (0 : Int32)] (97, I, J, R) _
          refine az_E.ret (v := some (.int (0 : Int32))) (σ' := (97, I, J, R)) rfl ?_
          show az_E az_F ex 125 200 13 [.ref 73, .int a1, .int a2, .int a3, .retAddr 0, .retAddr 0, .retAddr 0, .retAddr 0] [.int (0 : Int32)] (97, I, J, R) _
          refine az_E.br (c := (0 : Int32) = 0) (tt := 22) (ff := 16) (L' := [.ref 73, .int a1, .int a2, .int a3, .retAddr 0, .retAddr 0, .retAddr 0, .retAddr 0]) (S' := []) (σ' := (97, I, J, R)) rfl (fun _ => ?_) (fun hn => absurd (by decide) hn)
          refine az_E.sn 1 (pc' := 23) (L' := [.ref 73, .int a1, .int a2, .int a3, .retAddr 0, .retAddr 0, .retAddr 0, .retAddr 0]) (S' := [.int (-1 : Int32)]) (σ' := (97, I, J, R)) rfl ?_
          have h := Option.some.inj h
          subst h
          exact az_E.ret (v := some (.int (-1 : Int32))) (σ' := (97, I, J, R)) rfl hQ
        · rw [if_neg hc_5] at h
          refine az_E.sn 2 (pc' := 18) (L' := [.long a2.toInt64, .retAddr 0, .long (0 : Int64), .retAddr 0, .long ((I 73 7) - (1 : Int32)).toInt64, .retAddr 0]) (S' := [.int (1 : Int32)]) (σ' := (97, I, J, R)) rfl ?_
          refine az_E.ret (v := some (.int (1 : Int32))) (σ' := (97, I, J, R)) rfl ?_
          show az_E az_F ex 124 162 12 [.ref 73, .long a2.toInt64, .retAddr 0] [.int (1 : Int32)] (97, I, J, R) _
          refine az_E.ret (v := some (.int (1 : Int32))) (σ' := (97, I, J, R)) rfl ?_
          show az_E az_F ex 125 200 13 [.ref 73, .int a1, .int a2, .int a3, .retAddr 0, .retAddr 0, .retAddr 0, .retAddr 0] [.int (1 : Int32)] (97, I, J, R) _
          refine az_E.br (c := (1 : Int32) = 0) (tt := 22) (ff := 16) (L' := [.ref 73, .int a1, .int a2, .int a3, .retAddr 0, .retAddr 0, .retAddr 0, .retAddr 0]) (S' := []) (σ' := (97, I, J, R)) rfl (fun hn => absurd hn (by decide)) (fun _ => ?_)
          refine az_E.sn 2 (pc' := 19) (L' := [.ref 73, .int a1, .int a2, .int a3, .retAddr 0, .retAddr 0, .retAddr 0, .retAddr 0]) (S' := [.int (-3 : Int32), .int a3]) (σ' := (97, I, J, R)) rfl ?_
          refine az_E.br (c := (-3 : Int32) ≤ a3) (tt := 24) (ff := 22) (L' := [.ref 73, .int a1, .int a2, .int a3, .retAddr 0, .retAddr 0, .retAddr 0, .retAddr 0]) (S' := []) (σ' := (97, I, J, R)) rfl (fun hc_6 => ?_) (fun hc_6 => ?_)
          · rw [if_pos hc_6] at h
            refine az_E.sn 2 (pc' := 26) (L' := [.ref 73, .int a1, .int a2, .int a3, .retAddr 0, .retAddr 0, .retAddr 0, .retAddr 0]) (S' := [.int a2, .ref 73]) (σ' := (97, I, J, R)) rfl ?_
            cases hx_8 : rs_M_asksFor I a2 with
            | none => rw [hx_8] at h; cases h
            | some I_7 =>
              rw [hx_8] at h
              dsimp only at h
              refine az_E.call (d := 124) (k' := 190) (vs := [.ref 73, .int a2]) (pc' := 29) (S' := []) (Q1 := fun v s => v = none ∧ s = (97, I_7, J, R)) rfl (az_E.deep (by omega) (re_M_asksFor (J := J) (R := R)  hx_8 ⟨rfl, rfl⟩)) (fun v s hq => ?_)
              obtain ⟨rfl, rfl⟩ := hq
              show az_E az_F ex 125 200 29 [.ref 73, .int a1, .int a2, .int a3, .retAddr 0, .retAddr 0, .retAddr 0, .retAddr 0] [] (97, I_7, J, R) _
              refine az_E.sn 3 (pc' := 34) (L' := [.ref 73, .int a1, .int a2, .int a3, .retAddr 0, .retAddr 0, .retAddr 0, .retAddr 0]) (S' := [.int (1000 : Int32), .int a1, .ref 73]) (σ' := (97, I_7, J, R)) rfl ?_
              have hd_9 : ¬ ((1000 : Int32) = 0) := by decide
              refine az_E.dv (c := (1000 : Int32) = 0) (pc' := 35) (L' := [.ref 73, .int a1, .int a2, .int a3, .retAddr 0, .retAddr 0, .retAddr 0, .retAddr 0]) (S' := [.int (a1 - a1 / (1000 : Int32) * (1000 : Int32)), .ref 73]) (σ' := (97, I_7, J, R)) rfl hd_9 ?_
              refine az_E.sn 1 (pc' := 36) (L' := [.ref 73, .int a1, .int a2, .int a3, .retAddr 0, .retAddr 0, .retAddr 0, .retAddr 0]) (S' := [.int (0 : Int32), .int (a1 - a1 / (1000 : Int32) * (1000 : Int32)), .ref 73]) (σ' := (97, I_7, J, R)) rfl ?_
              cases hx_11 : rs_M_asksMinutes I_7 (a1 - a1 / (1000 : Int32) * (1000 : Int32)) (0 : Int32) with
              | none => rw [hx_11] at h; cases h
              | some I_10 =>
                rw [hx_11] at h
                dsimp only at h
                refine az_E.call (d := 124) (k' := 194) (vs := [.ref 73, .int (a1 - a1 / (1000 : Int32) * (1000 : Int32)), .int (0 : Int32)]) (pc' := 39) (S' := []) (Q1 := fun v s => v = none ∧ s = (97, I_10, J, R)) rfl (az_E.deep (by omega) (re_M_asksMinutes (J := J) (R := R)  hx_11 ⟨rfl, rfl⟩)) (fun v s hq => ?_)
                obtain ⟨rfl, rfl⟩ := hq
                show az_E az_F ex 125 200 39 [.ref 73, .int a1, .int a2, .int a3, .retAddr 0, .retAddr 0, .retAddr 0, .retAddr 0] [] (97, I_10, J, R) _
                refine az_E.sn 2 (pc' := 41) (L' := [.ref 73, .int a1, .int a2, .int a3, .retAddr 0, .retAddr 0, .retAddr 0, .retAddr 0]) (S' := [.int (-1 : Int32), .int a3]) (σ' := (97, I_10, J, R)) rfl ?_
                refine az_E.br (c := a3 = (-1 : Int32)) (tt := 44) (ff := 55) (L' := [.ref 73, .int a1, .int a2, .int a3, .retAddr 0, .retAddr 0, .retAddr 0, .retAddr 0]) (S' := []) (σ' := (97, I_10, J, R)) rfl (fun hc_12 => ?_) (fun hc_12 => ?_)
                · rw [if_pos hc_12] at h
                  refine az_E.sn 4 (pc' := 52) (L' := [.ref 73, .int a1, .int a2, .int a3, .retAddr 0, .retAddr 0, .retAddr 0, .retAddr 0]) (S' := [.int (1000 : Int32), .int a1, .ref 84]) (σ' := (97, I_10, J, R)) rfl ?_
                  have hd_13 : ¬ ((1000 : Int32) = 0) := by decide
                  refine az_E.dv (c := (1000 : Int32) = 0) (pc' := 53) (L' := [.ref 73, .int a1, .int a2, .int a3, .retAddr 0, .retAddr 0, .retAddr 0, .retAddr 0]) (S' := [.int (a1 / (1000 : Int32)), .ref 84]) (σ' := (97, I_10, J, R)) rfl hd_13 ?_
                  by_cases hc_14 : (a1 / (1000 : Int32)) < 0 ∨ 144 ≤ (a1 / (1000 : Int32)).toNatClampNeg
                  · rw [if_pos hc_14] at h; cases h
                  · rw [if_neg hc_14] at h
                    refine az_E.oi (o := az_ai az_F ex (97, I_10, J, R) 84 (a1 / (1000 : Int32))) (pc' := 54) (L' := [.ref 73, .int a1, .int a2, .int a3, .retAddr 0, .retAddr 0, .retAddr 0, .retAddr 0]) (S' := []) (σ' := (97, I_10, J, R)) (x := (I_10 84 (a1 / (1000 : Int32)).toNatClampNeg)) rfl (if_neg hc_14) ?_
                    have h := Option.some.inj h
                    subst h
                    exact az_E.ret (v := some (.int (I_10 84 (a1 / (1000 : Int32)).toNatClampNeg))) (σ' := (97, I_10, J, R)) rfl hQ
                · rw [if_neg hc_12] at h
                  refine az_E.sn 2 (pc' := 59) (L' := [.ref 73, .int a1, .int a2, .int a3, .retAddr 0, .retAddr 0, .retAddr 0, .retAddr 0]) (S' := [.int (1000 : Int32), .int a1]) (σ' := (97, I_10, J, R)) rfl ?_
                  have hd_15 : ¬ ((1000 : Int32) = 0) := by decide
                  refine az_E.dv (c := (1000 : Int32) = 0) (pc' := 60) (L' := [.ref 73, .int a1, .int a2, .int a3, .retAddr 0, .retAddr 0, .retAddr 0, .retAddr 0]) (S' := [.int (a1 / (1000 : Int32))]) (σ' := (97, I_10, J, R)) rfl hd_15 ?_
                  refine az_E.sn 5 (pc' := 68) (L' := [.ref 73, .int a1, .int a2, .int a3, .int (a1 / (1000 : Int32)), .int (0 : Int32), .int (0 : Int32), .retAddr 0]) (S' := []) (σ' := (97, I_10, J, R)) rfl ?_
                  exact az_E.forget (L := [.ref 73, .int a1, .retAddr 0, .int a3, .int (a1 / (1000 : Int32)), .int (0 : Int32), .int (0 : Int32), .retAddr 0]) ⟨rfl, rfl, trivial, rfl, rfl, rfl, rfl, trivial, trivial⟩ (re_M_way_68 (I := I_10) (J := J) (R := R)  h hQ)
          · rw [if_neg hc_6] at h
            refine az_E.sn 1 (pc' := 23) (L' := [.ref 73, .int a1, .int a2, .int a3, .retAddr 0, .retAddr 0, .retAddr 0, .retAddr 0]) (S' := [.int (-1 : Int32)]) (σ' := (97, I, J, R)) rfl ?_
            have h := Option.some.inj h
            subst h
            exact az_E.ret (v := some (.int (-1 : Int32))) (σ' := (97, I, J, R)) rfl hQ
set_option maxRecDepth 100000 in
set_option maxHeartbeats 4000000 in
theorem re_X_reach_134_16_21 {ex : az_X} {I : Nat → Nat → Int32} {J : Nat → Nat → Int64} {R : Nat → Nat → Option Nat} {v4 : Int32} {v5 : Int32} {v6 : Int32} (hR_3_2 : R 3 2 = some 16) (hR_3_3 : R 3 3 = some 21) {x : Int32 × (Nat → Nat → Int32)} (h : rs_X_reach_134 21 16 I v4 v5 v6 = some x) {Q : Option Value → az_S → Prop} (hQ : ∀ R' : Nat → Nat → Option Nat, R' 3 2 = some 16 → R' 3 3 = some 21 → Q (some (.int x.1)) (97, x.2, J, R')) : az_E az_F ex 6 94 134 [.retAddr 0, .retAddr 0, .retAddr 0, .retAddr 0, .int v4, .int v5, .int v6, .retAddr 0] [] (97, I, J, (az_u (az_u R 26 2 (some 16)) 26 3 (some 5))) Q := by
  unfold rs_X_reach_134 at h
  refine az_E.sn 1 (pc' := 136) (L' := [.retAddr 0, .retAddr 0, .retAddr 0, .retAddr 0, .int v4, .int v5, .int v6, .retAddr 0]) (S' := [.int v4]) (σ' := (97, I, J, (az_u (az_u R 26 2 (some 16)) 26 3 (some 5)))) rfl ?_
  refine az_E.br (c := v4 = 0) (tt := 139) (ff := 144) (L' := [.retAddr 0, .retAddr 0, .retAddr 0, .retAddr 0, .int v4, .int v5, .int v6, .retAddr 0]) (S' := []) (σ' := (97, I, J, (az_u (az_u R 26 2 (some 16)) 26 3 (some 5)))) rfl (fun hc_13 => ?_) (fun hc_13 => ?_)
  · rw [if_pos hc_13] at h
    refine az_E.sn 2 (pc' := 146) (L' := [.retAddr 0, .retAddr 0, .retAddr 0, .retAddr 0, .int v4, .int v5, .int v6, .retAddr 0]) (S' := [.int v5]) (σ' := (97, I, J, (az_u (az_u R 26 2 (some 16)) 26 3 (some 5)))) rfl ?_
    have h := Option.some.inj h
    subst h
    exact az_E.ret (v := some (.int v5)) (σ' := (97, I, J, (az_u (az_u R 26 2 (some 16)) 26 3 (some 5)))) rfl (hQ _ hR_3_2 hR_3_3)
  · rw [if_neg hc_13] at h
    refine az_E.sn 1 (pc' := 146) (L' := [.retAddr 0, .retAddr 0, .retAddr 0, .retAddr 0, .int v4, .int v5, .int v6, .retAddr 0]) (S' := [.int v6]) (σ' := (97, I, J, (az_u (az_u R 26 2 (some 16)) 26 3 (some 5)))) rfl ?_
    have h := Option.some.inj h
    subst h
    exact az_E.ret (v := some (.int v6)) (σ' := (97, I, J, (az_u (az_u R 26 2 (some 16)) 26 3 (some 5)))) rfl (hQ _ hR_3_2 hR_3_3)
set_option maxRecDepth 100000 in
set_option maxHeartbeats 4000000 in
theorem re_X_reach_71_b_16_21 {ex : az_X} {I : Nat → Nat → Int32} {J : Nat → Nat → Int64} {R : Nat → Nat → Option Nat} {v3 : Int32} {v4 : Int32} {v5 : Int32} {v6 : Int32} {v7 : Int32} (hR_3_2 : R 3 2 = some 16) (hR_3_3 : R 3 3 = some 21) {x : ((Int32 × Int32 × Int32) ⊕ (Int32 × (Nat → Nat → Int32)))} (h : rs_X_reach_71_b 21 16 I v3 v4 v5 v6 v7 = some x) {Q : Option Value → az_S → Prop} (hQ : Sum.elim (fun s => az_E az_F ex 6 94 71 [.ref 3, .retAddr 0, .retAddr 0, .int v3, .int v4, .int s.1, .int s.2.1, .int s.2.2] [] (97, I, J, (az_u (az_u R 26 2 (some 16)) 26 3 (some 5))) Q) (fun x => ∀ R' : Nat → Nat → Option Nat, R' 3 2 = some 16 → R' 3 3 = some 21 → Q (some (.int x.1)) (97, x.2, J, R')) x) : az_E az_F ex 6 94 71 [.ref 3, .retAddr 0, .retAddr 0, .int v3, .int v4, .int v5, .int v6, .int v7] [] (97, I, J, (az_u (az_u R 26 2 (some 16)) 26 3 (some 5))) Q := by
  unfold rs_X_reach_71_b at h
  refine az_E.sn 2 (pc' := 76) (L' := [.ref 3, .retAddr 0, .retAddr 0, .int v3, .int v4, .int v5, .int v6, .int v7]) (S' := [.int (144 : Int32), .int v7]) (σ' := (97, I, J, (az_u (az_u R 26 2 (some 16)) 26 3 (some 5)))) rfl ?_
  refine az_E.br (c := (144 : Int32) ≤ v7) (tt := 134) (ff := 79) (L' := [.ref 3, .retAddr 0, .retAddr 0, .int v3, .int v4, .int v5, .int v6, .int v7]) (S' := []) (σ' := (97, I, J, (az_u (az_u R 26 2 (some 16)) 26 3 (some 5)))) rfl (fun hc_12 => ?_) (fun hc_12 => ?_)
  · rw [if_pos hc_12] at h
    obtain ⟨x, hx, rfl⟩ := Option.map_eq_some_iff.mp h
    exact az_E.forget (L := [.retAddr 0, .retAddr 0, .retAddr 0, .retAddr 0, .int v4, .int v5, .int v6, .retAddr 0]) ⟨trivial, trivial, trivial, trivial, rfl, rfl, rfl, trivial, trivial⟩ (re_X_reach_134_16_21 (I := I) (J := J) (R := R) hR_3_2 hR_3_3 hx hQ)
  · rw [if_neg hc_12] at h
    refine az_E.sn 4 (pc' := 88) (L' := [.ref 3, .retAddr 0, .retAddr 0, .int v3, .int v4, .int v5, .int v6, .int v7]) (S' := [.int v7, .ref 33]) (σ' := (97, I, J, (az_u (az_u R 26 2 (some 16)) 26 3 (some 5)))) rfl ?_
    by_cases hc_14 : v7 < 0 ∨ 144 ≤ v7.toNatClampNeg
    · rw [if_pos hc_14] at h; cases h
    · rw [if_neg hc_14] at h
      refine az_E.oi (o := az_ai az_F ex (97, I, J, (az_u (az_u R 26 2 (some 16)) 26 3 (some 5))) 33 v7) (pc' := 89) (L' := [.ref 3, .retAddr 0, .retAddr 0, .int v3, .int v4, .int v5, .int v6, .int v7]) (S' := []) (σ' := (97, I, J, (az_u (az_u R 26 2 (some 16)) 26 3 (some 5)))) (x := (I 33 v7.toNatClampNeg)) rfl (if_neg hc_14) ?_
      refine az_E.sn 1 (pc' := 90) (L' := [.ref 3, .retAddr 0, .retAddr 0, .int v3, .int v4, .int v5, .int v6, .int v7]) (S' := [.int v3, .int (I 33 v7.toNatClampNeg)]) (σ' := (97, I, J, (az_u (az_u R 26 2 (some 16)) 26 3 (some 5)))) rfl ?_
      refine az_E.br (c := v3 < (I 33 v7.toNatClampNeg)) (tt := 128) (ff := 93) (L' := [.ref 3, .retAddr 0, .retAddr 0, .int v3, .int v4, .int v5, .int v6, .int v7]) (S' := []) (σ' := (97, I, J, (az_u (az_u R 26 2 (some 16)) 26 3 (some 5)))) rfl (fun hc_15 => ?_) (fun hc_15 => ?_)
      · rw [if_pos hc_15] at h
        refine az_E.sn 2 (pc' := 71) (L' := [.ref 3, .retAddr 0, .retAddr 0, .int v3, .int v4, .int v5, .int v6, .int (v7 + (1 : Int32))]) (S' := []) (σ' := (97, I, J, (az_u (az_u R 26 2 (some 16)) 26 3 (some 5)))) rfl ?_
        have h := Option.some.inj h
        subst h
        exact az_E.forget (L := [.ref 3, .retAddr 0, .retAddr 0, .int v3, .int v4, .int v5, .int v6, .int (v7 + (1 : Int32))]) ⟨rfl, trivial, trivial, rfl, rfl, rfl, rfl, rfl, trivial⟩ hQ
      · rw [if_neg hc_15] at h
        refine az_E.sn 5 (pc' := 105) (L' := [.ref 3, .retAddr 0, .retAddr 0, .int v3, .int v4, .int (v5 + (1 : Int32)), .int v6, .int v7]) (S' := [.int v7, .ref 33]) (σ' := (97, I, J, (az_u (az_u R 26 2 (some 16)) 26 3 (some 5)))) rfl ?_
        by_cases hc_16 : v7 < 0 ∨ 144 ≤ v7.toNatClampNeg
        · rw [if_pos hc_16] at h; cases h
        · rw [if_neg hc_16] at h
          refine az_E.oi (o := az_ai az_F ex (97, I, J, (az_u (az_u R 26 2 (some 16)) 26 3 (some 5))) 33 v7) (pc' := 106) (L' := [.ref 3, .retAddr 0, .retAddr 0, .int v3, .int v4, .int (v5 + (1 : Int32)), .int v6, .int v7]) (S' := []) (σ' := (97, I, J, (az_u (az_u R 26 2 (some 16)) 26 3 (some 5)))) (x := (I 33 v7.toNatClampNeg)) rfl (if_neg hc_16) ?_
          refine az_E.sn 4 (pc' := 115) (L' := [.ref 3, .retAddr 0, .retAddr 0, .int v3, .int v4, .int (v5 + (1 : Int32)), .int v6, .int v7]) (S' := [.int v6, .ref 33, .int (I 33 v7.toNatClampNeg)]) (σ' := (97, I, J, (az_u (az_u R 26 2 (some 16)) 26 3 (some 5)))) rfl ?_
          by_cases hc_17 : v6 < 0 ∨ 144 ≤ v6.toNatClampNeg
          · rw [if_pos hc_17] at h; cases h
          · rw [if_neg hc_17] at h
            refine az_E.oi (o := az_ai az_F ex (97, I, J, (az_u (az_u R 26 2 (some 16)) 26 3 (some 5))) 33 v6) (pc' := 116) (L' := [.ref 3, .retAddr 0, .retAddr 0, .int v3, .int v4, .int (v5 + (1 : Int32)), .int v6, .int v7]) (S' := [.int (I 33 v7.toNatClampNeg)]) (σ' := (97, I, J, (az_u (az_u R 26 2 (some 16)) 26 3 (some 5)))) (x := (I 33 v6.toNatClampNeg)) rfl (if_neg hc_17) ?_
            refine az_E.br (c := (I 33 v7.toNatClampNeg) ≤ (I 33 v6.toNatClampNeg)) (tt := 124) (ff := 119) (L' := [.ref 3, .retAddr 0, .retAddr 0, .int v3, .int v4, .int (v5 + (1 : Int32)), .int v6, .int v7]) (S' := []) (σ' := (97, I, J, (az_u (az_u R 26 2 (some 16)) 26 3 (some 5)))) rfl (fun hc_18 => ?_) (fun hc_18 => ?_)
            · rw [if_pos hc_18] at h
              refine az_E.sn 4 (pc' := 71) (L' := [.ref 3, .retAddr 0, .retAddr 0, .int v3, .int v4, .int (v5 + (1 : Int32)), .int v6, .int (v7 + (1 : Int32))]) (S' := []) (σ' := (97, I, J, (az_u (az_u R 26 2 (some 16)) 26 3 (some 5)))) rfl ?_
              have h := Option.some.inj h
              subst h
              exact az_E.forget (L := [.ref 3, .retAddr 0, .retAddr 0, .int v3, .int v4, .int (v5 + (1 : Int32)), .int v6, .int (v7 + (1 : Int32))]) ⟨rfl, trivial, trivial, rfl, rfl, rfl, rfl, rfl, trivial⟩ hQ
            · rw [if_neg hc_18] at h
              refine az_E.sn 5 (pc' := 71) (L' := [.ref 3, .retAddr 0, .retAddr 0, .int v3, .int v4, .int (v5 + (1 : Int32)), .int v7, .int (v7 + (1 : Int32))]) (S' := []) (σ' := (97, I, J, (az_u (az_u R 26 2 (some 16)) 26 3 (some 5)))) rfl ?_
              have h := Option.some.inj h
              subst h
              exact az_E.forget (L := [.ref 3, .retAddr 0, .retAddr 0, .int v3, .int v4, .int (v5 + (1 : Int32)), .int v7, .int (v7 + (1 : Int32))]) ⟨rfl, trivial, trivial, rfl, rfl, rfl, rfl, rfl, trivial⟩ hQ
set_option maxRecDepth 100000 in
set_option maxHeartbeats 4000000 in
theorem re_X_reach_71_16_21 {ex : az_X} {I : Nat → Nat → Int32} {J : Nat → Nat → Int64} {R : Nat → Nat → Option Nat} {v3 : Int32} {v4 : Int32} {v5 : Int32} {v6 : Int32} {v7 : Int32} (hR_3_2 : R 3 2 = some 16) (hR_3_3 : R 3 3 = some 21) {x : Int32 × (Nat → Nat → Int32)} (h : rs_X_reach_71 21 16 I v3 v4 v5 v6 v7 = some x) {Q : Option Value → az_S → Prop} (hQ : ∀ R' : Nat → Nat → Option Nat, R' 3 2 = some 16 → R' 3 3 = some 21 → Q (some (.int x.1)) (97, x.2, J, R')) : az_E az_F ex 6 94 71 [.ref 3, .retAddr 0, .retAddr 0, .int v3, .int v4, .int v5, .int v6, .int v7] [] (97, I, J, (az_u (az_u R 26 2 (some 16)) 26 3 (some 5))) Q := by
  unfold rs_X_reach_71 at h
  refine az_lp_E (G := fun s => az_E az_F ex 6 94 71 [.ref 3, .retAddr 0, .retAddr 0, .int v3, .int v4, .int s.1, .int s.2.1, .int s.2.2] [] (97, I, J, (az_u (az_u R 26 2 (some 16)) 26 3 (some 5))) Q) (H := fun x => ∀ R' : Nat → Nat → Option Nat, R' 3 2 = some 16 → R' 3 3 = some 21 → Q (some (.int x.1)) (97, x.2, J, R')) (fun s o hb ho => ?_) _ _ _ h hQ
  exact re_X_reach_71_b_16_21 hR_3_2 hR_3_3 hb ho
set_option maxRecDepth 100000 in
set_option maxHeartbeats 4000000 in
theorem re_X_reach_16_21 {ex : az_X} {I : Nat → Nat → Int32} {J : Nat → Nat → Int64} {R : Nat → Nat → Option Nat} {a1 : Int32} {a2 : Int32} {a3 : Int32} {a4 : Int32} (hR_3_2 : R 3 2 = some 16) (hR_3_3 : R 3 3 = some 21) {o : Int32 × (Nat → Nat → Int32)} (h : rs_X_reach 21 16 I a1 a2 a3 a4 = some o) {Q : Option Value → az_S → Prop} (hQ : ∀ R' : Nat → Nat → Option Nat, R' 3 2 = some 16 → R' 3 3 = some 21 → Q (some (.int o.1)) (97, o.2, J, R')) : az_E az_F ex 6 94 0 [.ref 3, .int a1, .int a2, .int a3, .int a4, .retAddr 0, .retAddr 0, .retAddr 0] [] (97, I, J, R) Q := by
  unfold rs_X_reach at h
  refine az_E.sn 1 (pc' := 1) (L' := [.ref 3, .int a1, .int a2, .int a3, .int a4, .retAddr 0, .retAddr 0, .retAddr 0]) (S' := [.int a1]) (σ' := (97, I, J, R)) rfl ?_
  refine az_E.call (d := 5) (k' := 133) (vs := [.int a1]) (pc' := 4) (S' := []) rfl ?_ (fun _ _ hq => hq)
  show az_E az_F ex 5 133 0 [.int a1] [] (97, I, J, R) _
  refine az_E.sn 3 (pc' := 5) (L' := [.int a1]) (S' := [.int (143 : Int32), .int (0 : Int32), .int a1]) (σ' := (97, I, J, R)) rfl ?_
  refine az_E.call (d := 4) (k' := 131) (vs := [.int a1, .int (0 : Int32), .int (143 : Int32)]) (pc' := 8) (S' := []) rfl ?_ (fun _ _ hq => hq)
  show az_E az_F ex 4 131 0 [.int a1, .int (0 : Int32), .int (143 : Int32)] [] (97, I, J, R) _
  refine az_E.sn 2 (pc' := 2) (L' := [.int a1, .int (0 : Int32), .int (143 : Int32)]) (S' := [.int (0 : Int32), .int a1]) (σ' := (97, I, J, R)) rfl ?_
  refine az_E.br (c := a1 < (0 : Int32)) (tt := 14) (ff := 5) (L' := [.int a1, .int (0 : Int32), .int (143 : Int32)]) (S' := []) (σ' := (97, I, J, R)) rfl (fun hc_1 => ?_) (fun hc_1 => ?_)
  · rw [if_pos hc_1] at h
    refine az_E.sn 1 (pc' := 15) (L' := [.int a1, .int (0 : Int32), .int (143 : Int32)]) (S' := [.int (0 : Int32)]) (σ' := (97, I, J, R)) rfl ?_
    refine az_E.ret (v := some (.int (0 : Int32))) (σ' := (97, I, J, R)) rfl ?_
    show az_E az_F ex 5 133 8 [.int a1] [.int (0 : Int32)] (97, I, J, R) _
    refine az_E.ret (v := some (.int (0 : Int32))) (σ' := (97, I, J, R)) rfl ?_
    show az_E az_F ex 6 94 4 [.ref 3, .int a1, .int a2, .int a3, .int a4, .retAddr 0, .retAddr 0, .retAddr 0] [.int (0 : Int32)] (97, I, J, R) _
    refine az_E.br (c := (0 : Int32) = 0) (tt := 34) (ff := 7) (L' := [.ref 3, .int a1, .int a2, .int a3, .int a4, .retAddr 0, .retAddr 0, .retAddr 0]) (S' := []) (σ' := (97, I, J, R)) rfl (fun _ => ?_) (fun hn => absurd (by decide) hn)
    refine az_E.sn 1 (pc' := 35) (L' := [.ref 3, .int a1, .int a2, .int a3, .int a4, .retAddr 0, .retAddr 0, .retAddr 0]) (S' := [.int (-1 : Int32)]) (σ' := (97, I, J, R)) rfl ?_
    have h := Option.some.inj h
    subst h
    exact az_E.ret (v := some (.int (-1 : Int32))) (σ' := (97, I, J, R)) rfl (hQ _ hR_3_2 hR_3_3)
  · rw [if_neg hc_1] at h
    refine az_E.sn 2 (pc' := 7) (L' := [.int a1, .int (0 : Int32), .int (143 : Int32)]) (S' := [.int (143 : Int32), .int a1]) (σ' := (97, I, J, R)) rfl ?_
    refine az_E.br (c := (143 : Int32) < a1) (tt := 14) (ff := 10) (L' := [.int a1, .int (0 : Int32), .int (143 : Int32)]) (S' := []) (σ' := (97, I, J, R)) rfl (fun hc_2 => ?_) (fun hc_2 => ?_)
    · rw [if_pos hc_2] at h
      refine az_E.sn 1 (pc' := 15) (L' := [.int a1, .int (0 : Int32), .int (143 : Int32)]) (S' := [.int (0 : Int32)]) (σ' := (97, I, J, R)) rfl ?_
      refine az_E.ret (v := some (.int (0 : Int32))) (σ' := (97, I, J, R)) rfl ?_
      show az_E az_F ex 5 133 8 [.int a1] [.int (0 : Int32)] (97, I, J, R) _
      refine az_E.ret (v := some (.int (0 : Int32))) (σ' := (97, I, J, R)) rfl ?_
      show az_E az_F ex 6 94 4 [.ref 3, .int a1, .int a2, .int a3, .int a4, .retAddr 0, .retAddr 0, .retAddr 0] [.int (0 : Int32)] (97, I, J, R) _
      refine az_E.br (c := (0 : Int32) = 0) (tt := 34) (ff := 7) (L' := [.ref 3, .int a1, .int a2, .int a3, .int a4, .retAddr 0, .retAddr 0, .retAddr 0]) (S' := []) (σ' := (97, I, J, R)) rfl (fun _ => ?_) (fun hn => absurd (by decide) hn)
      refine az_E.sn 1 (pc' := 35) (L' := [.ref 3, .int a1, .int a2, .int a3, .int a4, .retAddr 0, .retAddr 0, .retAddr 0]) (S' := [.int (-1 : Int32)]) (σ' := (97, I, J, R)) rfl ?_
      have h := Option.some.inj h
      subst h
      exact az_E.ret (v := some (.int (-1 : Int32))) (σ' := (97, I, J, R)) rfl (hQ _ hR_3_2 hR_3_3)
    · rw [if_neg hc_2] at h
      refine az_E.sn 2 (pc' := 15) (L' := [.int a1, .int (0 : Int32), .int (143 : Int32)]) (S' := [.int (1 : Int32)]) (σ' := (97, I, J, R)) rfl ?_
      refine az_E.ret (v := some (.int (1 : Int32))) (σ' := (97, I, J, R)) rfl ?_
      show az_E az_F ex 5 133 8 [.int a1] [.int (1 : Int32)] (97, I, J, R) _
      refine az_E.ret (v := some (.int (1 : Int32))) (σ' := (97, I, J, R)) rfl ?_
      show az_E az_F ex 6 94 4 [.ref 3, .int a1, .int a2, .int a3, .int a4, .retAddr 0, .retAddr 0, .retAddr 0] [.int (1 : Int32)] (97, I, J, R) _
      refine az_E.br (c := (1 : Int32) = 0) (tt := 34) (ff := 7) (L' := [.ref 3, .int a1, .int a2, .int a3, .int a4, .retAddr 0, .retAddr 0, .retAddr 0]) (S' := []) (σ' := (97, I, J, R)) rfl (fun hn => absurd hn (by decide)) (fun _ => ?_)
      refine az_E.sn 2 (pc' := 9) (L' := [.ref 3, .int a1, .int a2, .int a3, .int a4, .retAddr 0, .retAddr 0, .retAddr 0]) (S' := [.int a2, .ref 3]) (σ' := (97, I, J, R)) rfl ?_
      refine az_E.call (d := 5) (k' := 138) (vs := [.ref 3, .int a2]) (pc' := 12) (S' := []) rfl ?_ (fun _ _ hq => hq)
      show az_E az_F ex 5 138 0 [.ref 3, .int a2] [] (97, I, J, R) _
      refine az_E.sn 7 (pc' := 11) (L' := [.ref 3, .int a2]) (S' := [.int ((I 4 9) - (1 : Int32)), .int (0 : Int32), .int a2]) (σ' := (97, I, J, R)) rfl ?_
      refine az_E.call (d := 4) (k' := 131) (vs := [.int a2, .int (0 : Int32), .int ((I 4 9) - (1 : Int32))]) (pc' := 14) (S' := []) rfl ?_ (fun _ _ hq => hq)
      show az_E az_F ex 4 131 0 [.int a2, .int (0 : Int32), .int ((I 4 9) - (1 : Int32))] [] (97, I, J, R) _
      refine az_E.sn 2 (pc' := 2) (L' := [.int a2, .int (0 : Int32), .int ((I 4 9) - (1 : Int32))]) (S' := [.int (0 : Int32), .int a2]) (σ' := (97, I, J, R)) rfl ?_
      refine az_E.br (c := a2 < (0 : Int32)) (tt := 14) (ff := 5) (L' := [.int a2, .int (0 : Int32), .int ((I 4 9) - (1 : Int32))]) (S' := []) (σ' := (97, I, J, R)) rfl (fun hc_3 => ?_) (fun hc_3 => ?_)
      · rw [if_pos hc_3] at h
        refine az_E.sn 1 (pc' := 15) (L' := [.int a2, .int (0 : Int32), .int ((I 4 9) - (1 : Int32))]) (S' := [.int (0 : Int32)]) (σ' := (97, I, J, R)) rfl ?_
        refine az_E.ret (v := some (.int (0 : Int32))) (σ' := (97, I, J, R)) rfl ?_
        show az_E az_F ex 5 138 14 [.ref 3, .int a2] [.int (0 : Int32)] (97, I, J, R) _
        refine az_E.ret (v := some (.int (0 : Int32))) (σ' := (97, I, J, R)) rfl ?_
        show az_E az_F ex 6 94 12 [.ref 3, .int a1, .int a2, .int a3, .int a4, .retAddr 0, .retAddr 0, .retAddr 0] [.int (0 : Int32)] (97, I, J, R) _
        refine az_E.br (c := (0 : Int32) = 0) (tt := 34) (ff := 15) (L' := [.ref 3, .int a1, .int a2, .int a3, .int a4, .retAddr 0, .retAddr 0, .retAddr 0]) (S' := []) (σ' := (97, I, J, R)) rfl (fun _ => ?_) (fun hn => absurd (by decide) hn)
        refine az_E.sn 1 (pc' := 35) (L' := [.ref 3, .int a1, .int a2, .int a3, .int a4, .retAddr 0, .retAddr 0, .retAddr 0]) (S' := [.int (-1 : Int32)]) (σ' := (97, I, J, R)) rfl ?_
        have h := Option.some.inj h
        subst h
        exact az_E.ret (v := some (.int (-1 : Int32))) (σ' := (97, I, J, R)) rfl (hQ _ hR_3_2 hR_3_3)
      · rw [if_neg hc_3] at h
        refine az_E.sn 2 (pc' := 7) (L' := [.int a2, .int (0 : Int32), .int ((I 4 9) - (1 : Int32))]) (S' := [.int ((I 4 9) - (1 : Int32)), .int a2]) (σ' := (97, I, J, R)) rfl ?_
        refine az_E.br (c := ((I 4 9) - (1 : Int32)) < a2) (tt := 14) (ff := 10) (L' := [.int a2, .int (0 : Int32), .int ((I 4 9) - (1 : Int32))]) (S' := []) (σ' := (97, I, J, R)) rfl (fun hc_4 => ?_) (fun hc_4 => ?_)
        · rw [if_pos hc_4] at h
          refine az_E.sn 1 (pc' := 15) (L' := [.int a2, .int (0 : Int32), .int ((I 4 9) - (1 : Int32))]) (S' := [.int (0 : Int32)]) (σ' := (97, I, J, R)) rfl ?_
          refine az_E.ret (v := some (.int (0 : Int32))) (σ' := (97, I, J, R)) rfl ?_
          show az_E az_F ex 5 138 14 [.ref 3, .int a2] [.int (0 : Int32)] (97, I, J, R) _
          refine az_E.ret (v := some (.int (0 : Int32))) (σ' := (97, I, J, R)) rfl ?_
          show az_E az_F ex 6 94 12 [.ref 3, .int a1, .int a2, .int a3, .int a4, .retAddr 0, .retAddr 0, .retAddr 0] [.int (0 : Int32)] (97, I, J, R) _
          refine az_E.br (c := (0 : Int32) = 0) (tt := 34) (ff := 15) (L' := [.ref 3, .int a1, .int a2, .int a3, .int a4, .retAddr 0, .retAddr 0, .retAddr 0]) (S' := []) (σ' := (97, I, J, R)) rfl (fun _ => ?_) (fun hn => absurd (by decide) hn)
          refine az_E.sn 1 (pc' := 35) (L' := [.ref 3, .int a1, .int a2, .int a3, .int a4, .retAddr 0, .retAddr 0, .retAddr 0]) (S' := [.int (-1 : Int32)]) (σ' := (97, I, J, R)) rfl ?_
          have h := Option.some.inj h
          subst h
          exact az_E.ret (v := some (.int (-1 : Int32))) (σ' := (97, I, J, R)) rfl (hQ _ hR_3_2 hR_3_3)
        · rw [if_neg hc_4] at h
          refine az_E.sn 2 (pc' := 15) (L' := [.int a2, .int (0 : Int32), .int ((I 4 9) - (1 : Int32))]) (S' := [.int (1 : Int32)]) (σ' := (97, I, J, R)) rfl ?_
          refine az_E.ret (v := some (.int (1 : Int32))) (σ' := (97, I, J, R)) rfl ?_
          show az_E az_F ex 5 138 14 [.ref 3, .int a2] [.int (1 : Int32)] (97, I, J, R) _
          refine az_E.ret (v := some (.int (1 : Int32))) (σ' := (97, I, J, R)) rfl ?_
          show az_E az_F ex 6 94 12 [.ref 3, .int a1, .int a2, .int a3, .int a4, .retAddr 0, .retAddr 0, .retAddr 0] [.int (1 : Int32)] (97, I, J, R) _
          refine az_E.br (c := (1 : Int32) = 0) (tt := 34) (ff := 15) (L' := [.ref 3, .int a1, .int a2, .int a3, .int a4, .retAddr 0, .retAddr 0, .retAddr 0]) (S' := []) (σ' := (97, I, J, R)) rfl (fun hn => absurd hn (by decide)) (fun _ => ?_)
          refine az_E.sn 3 (pc' := 20) (L' := [.ref 3, .int a1, .int a2, .int a3, .int a4, .retAddr 0, .retAddr 0, .retAddr 0]) (S' := [.int (999 : Int32), .int (0 : Int32), .int a3]) (σ' := (97, I, J, R)) rfl ?_
          refine az_E.call (d := 5) (k' := 131) (vs := [.int a3, .int (0 : Int32), .int (999 : Int32)]) (pc' := 23) (S' := []) rfl ?_ (fun _ _ hq => hq)
          show az_E az_F ex 5 131 0 [.int a3, .int (0 : Int32), .int (999 : Int32)] [] (97, I, J, R) _
          refine az_E.sn 2 (pc' := 2) (L' := [.int a3, .int (0 : Int32), .int (999 : Int32)]) (S' := [.int (0 : Int32), .int a3]) (σ' := (97, I, J, R)) rfl ?_
          refine az_E.br (c := a3 < (0 : Int32)) (tt := 14) (ff := 5) (L' := [.int a3, .int (0 : Int32), .int (999 : Int32)]) (S' := []) (σ' := (97, I, J, R)) rfl (fun hc_5 => ?_) (fun hc_5 => ?_)
          · rw [if_pos hc_5] at h
            refine az_E.sn 1 (pc' := 15) (L' := [.int a3, .int (0 : Int32), .int (999 : Int32)]) (S' := [.int (0 : Int32)]) (σ' := (97, I, J, R)) rfl ?_
            refine az_E.ret (v := some (.int (0 : Int32))) (σ' := (97, I, J, R)) rfl ?_
            show az_E az_F ex 6 94 23 [.ref 3, .int a1, .int a2, .int a3, .int a4, .retAddr 0, .retAddr 0, .retAddr 0] [.int (0 : Int32)] (97, I, J, R) _
            refine az_E.br (c := (0 : Int32) = 0) (tt := 34) (ff := 26) (L' := [.ref 3, .int a1, .int a2, .int a3, .int a4, .retAddr 0, .retAddr 0, .retAddr 0]) (S' := []) (σ' := (97, I, J, R)) rfl (fun _ => ?_) (fun hn => absurd (by decide) hn)
            refine az_E.sn 1 (pc' := 35) (L' := [.ref 3, .int a1, .int a2, .int a3, .int a4, .retAddr 0, .retAddr 0, .retAddr 0]) (S' := [.int (-1 : Int32)]) (σ' := (97, I, J, R)) rfl ?_
            have h := Option.some.inj h
            subst h
            exact az_E.ret (v := some (.int (-1 : Int32))) (σ' := (97, I, J, R)) rfl (hQ _ hR_3_2 hR_3_3)
          · rw [if_neg hc_5] at h
            refine az_E.sn 2 (pc' := 7) (L' := [.int a3, .int (0 : Int32), .int (999 : Int32)]) (S' := [.int (999 : Int32), .int a3]) (σ' := (97, I, J, R)) rfl ?_
            refine az_E.br (c := (999 : Int32) < a3) (tt := 14) (ff := 10) (L' := [.int a3, .int (0 : Int32), .int (999 : Int32)]) (S' := []) (σ' := (97, I, J, R)) rfl (fun hc_6 => ?_) (fun hc_6 => ?_)
            · rw [if_pos hc_6] at h
              refine az_E.sn 1 (pc' := 15) (L' := [.int a3, .int (0 : Int32), .int (999 : Int32)]) (S' := [.int (0 : Int32)]) (σ' := (97, I, J, R)) rfl ?_
              refine az_E.ret (v := some (.int (0 : Int32))) (σ' := (97, I, J, R)) rfl ?_
              show az_E az_F ex 6 94 23 [.ref 3, .int a1, .int a2, .int a3, .int a4, .retAddr 0, .retAddr 0, .retAddr 0] [.int (0 : Int32)] (97, I, J, R) _
              refine az_E.br (c := (0 : Int32) = 0) (tt := 34) (ff := 26) (L' := [.ref 3, .int a1, .int a2, .int a3, .int a4, .retAddr 0, .retAddr 0, .retAddr 0]) (S' := []) (σ' := (97, I, J, R)) rfl (fun _ => ?_) (fun hn => absurd (by decide) hn)
              refine az_E.sn 1 (pc' := 35) (L' := [.ref 3, .int a1, .int a2, .int a3, .int a4, .retAddr 0, .retAddr 0, .retAddr 0]) (S' := [.int (-1 : Int32)]) (σ' := (97, I, J, R)) rfl ?_
              have h := Option.some.inj h
              subst h
              exact az_E.ret (v := some (.int (-1 : Int32))) (σ' := (97, I, J, R)) rfl (hQ _ hR_3_2 hR_3_3)
            · rw [if_neg hc_6] at h
              refine az_E.sn 2 (pc' := 15) (L' := [.int a3, .int (0 : Int32), .int (999 : Int32)]) (S' := [.int (1 : Int32)]) (σ' := (97, I, J, R)) rfl ?_
              refine az_E.ret (v := some (.int (1 : Int32))) (σ' := (97, I, J, R)) rfl ?_
              show az_E az_F ex 6 94 23 [.ref 3, .int a1, .int a2, .int a3, .int a4, .retAddr 0, .retAddr 0, .retAddr 0] [.int (1 : Int32)] (97, I, J, R) _
              refine az_E.br (c := (1 : Int32) = 0) (tt := 34) (ff := 26) (L' := [.ref 3, .int a1, .int a2, .int a3, .int a4, .retAddr 0, .retAddr 0, .retAddr 0]) (S' := []) (σ' := (97, I, J, R)) rfl (fun hn => absurd hn (by decide)) (fun _ => ?_)
              refine az_E.sn 1 (pc' := 28) (L' := [.ref 3, .int a1, .int a2, .int a3, .int a4, .retAddr 0, .retAddr 0, .retAddr 0]) (S' := [.int a4]) (σ' := (97, I, J, R)) rfl ?_
              refine az_E.call (d := 5) (k' := 132) (vs := [.int a4]) (pc' := 31) (S' := []) rfl ?_ (fun _ _ hq => hq)
              show az_E az_F ex 5 132 0 [.int a4] [] (97, I, J, R) _
              refine az_E.sn 1 (pc' := 1) (L' := [.int a4]) (S' := [.int a4]) (σ' := (97, I, J, R)) rfl ?_
              refine az_E.br (c := a4 = 0) (tt := 9) (ff := 4) (L' := [.int a4]) (S' := []) (σ' := (97, I, J, R)) rfl (fun hc_7 => ?_) (fun hc_7 => ?_)
              · rw [if_pos hc_7] at h
                refine az_E.sn 2 (pc' := 14) (L' := [.int a4]) (S' := [.int (1 : Int32)]) (σ' := (97, I, J, R)) rfl ?_
                refine az_E.ret (v := some (.int (1 : Int32))) (σ' := (97, I, J, R)) rfl ?_
                show az_E az_F ex 6 94 31 [.ref 3, .int a1, .int a2, .int a3, .int a4, .retAddr 0, .retAddr 0, .retAddr 0] [.int (1 : Int32)] (97, I, J, R) _
                refine az_E.br (c := (1 : Int32) = 0) (tt := 34) (ff := 36) (L' := [.ref 3, .int a1, .int a2, .int a3, .int a4, .retAddr 0, .retAddr 0, .retAddr 0]) (S' := []) (σ' := (97, I, J, R)) rfl (fun hn => absurd hn (by decide)) (fun _ => ?_)
                refine az_E.sn 2 (pc' := 38) (L' := [.ref 3, .int a1, .int a2, .int a3, .int a4, .retAddr 0, .retAddr 0, .retAddr 0]) (S' := [.int a2, .ref 3]) (σ' := (97, I, J, R)) rfl ?_
                cases hx_9 : rs_X_setPace 16 I a2 with
                | none => rw [hx_9] at h; cases h
                | some I_8 =>
                  rw [hx_9] at h
                  dsimp only at h
                  refine az_E.call (d := 5) (k' := 144) (vs := [.ref 3, .int a2]) (pc' := 41) (S' := []) (Q1 := fun v s => v = none ∧ s = (97, I_8, J, (az_u (az_u R 26 2 (some 16)) 26 3 (some 5)))) rfl (az_E.deep (by omega) (re_X_setPace_16 (J := J) (R := R) hR_3_2 hx_9 ⟨rfl, rfl⟩)) (fun v s hq => ?_)
                  obtain ⟨rfl, rfl⟩ := hq
                  show az_E az_F ex 6 94 41 [.ref 3, .int a1, .int a2, .int a3, .int a4, .retAddr 0, .retAddr 0, .retAddr 0] [] (97, I_8, J, (az_u (az_u R 26 2 (some 16)) 26 3 (some 5))) _
                  refine az_E.sn 10 (pc' := 59) (L' := [.ref 3, .int a1, .int a2, .int a3, .int a4, .retAddr 0, .retAddr 0, .retAddr 0]) (S' := [.ref 33, .int (-1 : Int32), .int (0 : Int32), .int a1, .ref 26, .ref 32]) (σ' := (97, I_8, J, (az_u (az_u R 26 2 (some 16)) 26 3 (some 5)))) rfl ?_
                  cases hx_11 : rs_Fi_spread 26 33 I_8 a1 (0 : Int32) (-1 : Int32) with
                  | none => rw [hx_11] at h; cases h
                  | some I_10 =>
                    rw [hx_11] at h
                    dsimp only at h
                    refine az_E.call (d := 5) (k' := 17) (vs := [.ref 32, .ref 26, .int a1, .int (0 : Int32), .int (-1 : Int32), .ref 33]) (pc' := 62) (S' := []) (Q1 := fun v s => v = none ∧ s = (97, I_10, J, (az_u (az_u R 26 2 (some 16)) 26 3 (some 5)))) rfl (az_E.deep (by omega) (re_Fi_spread_26_33_5 (J := J) (R := (az_u (az_u R 26 2 (some 16)) 26 3 (some 5))) rfl hx_11 ⟨rfl, rfl⟩)) (fun v s hq => ?_)
                    obtain ⟨rfl, rfl⟩ := hq
                    show az_E az_F ex 6 94 62 [.ref 3, .int a1, .int a2, .int a3, .int a4, .retAddr 0, .retAddr 0, .retAddr 0] [] (97, I_10, J, (az_u (az_u R 26 2 (some 16)) 26 3 (some 5))) _
                    refine az_E.sn 6 (pc' := 71) (L' := [.ref 3, .int a1, .int a2, .int a3, .int a4, .int (0 : Int32), .int a1, .int (0 : Int32)]) (S' := []) (σ' := (97, I_10, J, (az_u (az_u R 26 2 (some 16)) 26 3 (some 5)))) rfl ?_
                    exact az_E.forget (L := [.ref 3, .retAddr 0, .retAddr 0, .int a3, .int a4, .int (0 : Int32), .int a1, .int (0 : Int32)]) ⟨rfl, trivial, trivial, rfl, rfl, rfl, rfl, rfl, trivial⟩ (re_X_reach_71_16_21 (I := I_10) (J := J) (R := R) hR_3_2 hR_3_3 h hQ)
              · rw [if_neg hc_7] at h
                refine az_E.sn 2 (pc' := 6) (L' := [.int a4]) (S' := [.int (1 : Int32), .int a4]) (σ' := (97, I, J, R)) rfl ?_
                refine az_E.br (c := a4 = (1 : Int32)) (tt := 9) (ff := 13) (L' := [.int a4]) (S' := []) (σ' := (97, I, J, R)) rfl (fun hc_19 => ?_) (fun hc_19 => ?_)
                · rw [if_pos hc_19] at h
                  refine az_E.sn 2 (pc' := 14) (L' := [.int a4]) (S' := [.int (1 : Int32)]) (σ' := (97, I, J, R)) rfl ?_
                  refine az_E.ret (v := some (.int (1 : Int32))) (σ' := (97, I, J, R)) rfl ?_
                  show az_E az_F ex 6 94 31 [.ref 3, .int a1, .int a2, .int a3, .int a4, .retAddr 0, .retAddr 0, .retAddr 0] [.int (1 : Int32)] (97, I, J, R) _
                  refine az_E.br (c := (1 : Int32) = 0) (tt := 34) (ff := 36) (L' := [.ref 3, .int a1, .int a2, .int a3, .int a4, .retAddr 0, .retAddr 0, .retAddr 0]) (S' := []) (σ' := (97, I, J, R)) rfl (fun hn => absurd hn (by decide)) (fun _ => ?_)
                  refine az_E.sn 2 (pc' := 38) (L' := [.ref 3, .int a1, .int a2, .int a3, .int a4, .retAddr 0, .retAddr 0, .retAddr 0]) (S' := [.int a2, .ref 3]) (σ' := (97, I, J, R)) rfl ?_
                  cases hx_21 : rs_X_setPace 16 I a2 with
                  | none => rw [hx_21] at h; cases h
                  | some I_20 =>
                    rw [hx_21] at h
                    dsimp only at h
                    refine az_E.call (d := 5) (k' := 144) (vs := [.ref 3, .int a2]) (pc' := 41) (S' := []) (Q1 := fun v s => v = none ∧ s = (97, I_20, J, (az_u (az_u R 26 2 (some 16)) 26 3 (some 5)))) rfl (az_E.deep (by omega) (re_X_setPace_16 (J := J) (R := R) hR_3_2 hx_21 ⟨rfl, rfl⟩)) (fun v s hq => ?_)
                    obtain ⟨rfl, rfl⟩ := hq
                    show az_E az_F ex 6 94 41 [.ref 3, .int a1, .int a2, .int a3, .int a4, .retAddr 0, .retAddr 0, .retAddr 0] [] (97, I_20, J, (az_u (az_u R 26 2 (some 16)) 26 3 (some 5))) _
                    refine az_E.sn 10 (pc' := 59) (L' := [.ref 3, .int a1, .int a2, .int a3, .int a4, .retAddr 0, .retAddr 0, .retAddr 0]) (S' := [.ref 33, .int (-1 : Int32), .int (0 : Int32), .int a1, .ref 26, .ref 32]) (σ' := (97, I_20, J, (az_u (az_u R 26 2 (some 16)) 26 3 (some 5)))) rfl ?_
                    cases hx_23 : rs_Fi_spread 26 33 I_20 a1 (0 : Int32) (-1 : Int32) with
                    | none => rw [hx_23] at h; cases h
                    | some I_22 =>
                      rw [hx_23] at h
                      dsimp only at h
                      refine az_E.call (d := 5) (k' := 17) (vs := [.ref 32, .ref 26, .int a1, .int (0 : Int32), .int (-1 : Int32), .ref 33]) (pc' := 62) (S' := []) (Q1 := fun v s => v = none ∧ s = (97, I_22, J, (az_u (az_u R 26 2 (some 16)) 26 3 (some 5)))) rfl (az_E.deep (by omega) (re_Fi_spread_26_33_5 (J := J) (R := (az_u (az_u R 26 2 (some 16)) 26 3 (some 5))) rfl hx_23 ⟨rfl, rfl⟩)) (fun v s hq => ?_)
                      obtain ⟨rfl, rfl⟩ := hq
                      show az_E az_F ex 6 94 62 [.ref 3, .int a1, .int a2, .int a3, .int a4, .retAddr 0, .retAddr 0, .retAddr 0] [] (97, I_22, J, (az_u (az_u R 26 2 (some 16)) 26 3 (some 5))) _
                      refine az_E.sn 6 (pc' := 71) (L' := [.ref 3, .int a1, .int a2, .int a3, .int a4, .int (0 : Int32), .int a1, .int (0 : Int32)]) (S' := []) (σ' := (97, I_22, J, (az_u (az_u R 26 2 (some 16)) 26 3 (some 5)))) rfl ?_
                      exact az_E.forget (L := [.ref 3, .retAddr 0, .retAddr 0, .int a3, .int a4, .int (0 : Int32), .int a1, .int (0 : Int32)]) ⟨rfl, trivial, trivial, rfl, rfl, rfl, rfl, rfl, trivial⟩ (re_X_reach_71_16_21 (I := I_22) (J := J) (R := R) hR_3_2 hR_3_3 h hQ)
                · rw [if_neg hc_19] at h
                  refine az_E.sn 1 (pc' := 14) (L' := [.int a4]) (S' := [.int (0 : Int32)]) (σ' := (97, I, J, R)) rfl ?_
                  refine az_E.ret (v := some (.int (0 : Int32))) (σ' := (97, I, J, R)) rfl ?_
                  show az_E az_F ex 6 94 31 [.ref 3, .int a1, .int a2, .int a3, .int a4, .retAddr 0, .retAddr 0, .retAddr 0] [.int (0 : Int32)] (97, I, J, R) _
                  refine az_E.br (c := (0 : Int32) = 0) (tt := 34) (ff := 36) (L' := [.ref 3, .int a1, .int a2, .int a3, .int a4, .retAddr 0, .retAddr 0, .retAddr 0]) (S' := []) (σ' := (97, I, J, R)) rfl (fun _ => ?_) (fun hn => absurd (by decide) hn)
                  refine az_E.sn 1 (pc' := 35) (L' := [.ref 3, .int a1, .int a2, .int a3, .int a4, .retAddr 0, .retAddr 0, .retAddr 0]) (S' := [.int (-1 : Int32)]) (σ' := (97, I, J, R)) rfl ?_
                  have h := Option.some.inj h
                  subst h
                  exact az_E.ret (v := some (.int (-1 : Int32))) (σ' := (97, I, J, R)) rfl (hQ _ hR_3_2 hR_3_3)

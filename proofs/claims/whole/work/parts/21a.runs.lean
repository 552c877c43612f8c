set_option maxRecDepth 100000 in
set_option maxHeartbeats 4000000 in
theorem re_X_isFromTo {ex : az_X} {I : Nat → Nat → Int32} {J : Nat → Nat → Int64} {R : Nat → Nat → Option Nat} {a0 : Int32} {o : Int32} (h : rs_X_isFromTo a0 = some o) {Q : Option Value → az_S → Prop} (hQ : Q (some (.int o)) (97, I, J, R)) : az_E az_F ex 2 134 0 [.int a0] [] (97, I, J, R) Q := by
  unfold rs_X_isFromTo at h
  refine az_E.sn 1 (pc' := 1) (L' := [.int a0]) (S' := [.int a0]) (σ' := (97, I, J, R)) rfl ?_
  refine az_E.br (c := a0 < 0) (tt := 28) (ff := 4) (L' := [.int a0]) (S' := []) (σ' := (97, I, J, R)) rfl (fun hc_1 => ?_) (fun hc_1 => ?_)
  · rw [if_pos hc_1] at h
    refine az_E.sn 1 (pc' := 29) (L' := [.int a0]) (S' := [.int (0 : Int32)]) (σ' := (97, I, J, R)) rfl ?_
    have h := Option.some.inj h
    subst h
    exact az_E.ret (v := some (.int (0 : Int32))) (σ' := (97, I, J, R)) rfl hQ
  · rw [if_neg hc_1] at h
    refine az_E.sn 1 (pc' := 5) (L' := [.int a0]) (S' := [.int a0]) (σ' := (97, I, J, R)) rfl ?_
    refine az_E.call (d := 1) (k' := 135) (vs := [.int a0]) (pc' := 8) (S' := []) rfl ?_ (fun _ _ hq => hq)
    show az_E az_F ex 1 135 0 [.int a0] [] (97, I, J, R) _
    refine az_E.sn 2 (pc' := 4) (L' := [.int a0]) (S' := [.int (1000 : Int32), .int a0]) (σ' := (97, I, J, R)) rfl ?_
    have hd_2 : ¬ ((1000 : Int32) = 0) := by decide
    refine az_E.dv (c := (1000 : Int32) = 0) (pc' := 5) (L' := [.int a0]) (S' := [.int (a0 / (1000 : Int32))]) (σ' := (97, I, J, R)) rfl hd_2 ?_
    refine az_E.ret (v := some (.int (a0 / (1000 : Int32)))) (σ' := (97, I, J, R)) rfl ?_
    show az_E az_F ex 2 134 8 [.int a0] [.int (a0 / (1000 : Int32))] (97, I, J, R) _
    refine az_E.call (d := 1) (k' := 133) (vs := [.int (a0 / (1000 : Int32))]) (pc' := 11) (S' := []) rfl ?_ (fun _ _ hq => hq)
    show az_E az_F ex 1 133 0 [.int (a0 / (1000 : Int32))] [] (97, I, J, R) _
    refine az_E.sn 3 (pc' := 5) (L' := [.int (a0 / (1000 : Int32))]) (S' := [.int (143 : Int32), .int (0 : Int32), .int (a0 / (1000 : Int32))]) (σ' := (97, I, J, R)) rfl ?_
    refine az_E.call (d := 0) (k' := 131) (vs := [.int (a0 / (1000 : Int32)), .int (0 : Int32), .int (143 : Int32)]) (pc' := 8) (S' := []) rfl ?_ (fun _ _ hq => hq)
    show az_E az_F ex 0 131 0 [.int (a0 / (1000 : Int32)), .int (0 : Int32), .int (143 : Int32)] [] (97, I, J, R) _
    refine az_E.sn 2 (pc' := 2) (L' := [.int (a0 / (1000 : Int32)), .int (0 : Int32), .int (143 : Int32)]) (S' := [.int (0 : Int32), .int (a0 / (1000 : Int32))]) (σ' := (97, I, J, R)) rfl ?_
    refine az_E.br (c := (a0 / (1000 : Int32)) < (0 : Int32)) (tt := 14) (ff := 5) (L' := [.int (a0 / (1000 : Int32)), .int (0 : Int32), .int (143 : Int32)]) (S' := []) (σ' := (97, I, J, R)) rfl (fun hc_3 => ?_) (fun hc_3 => ?_)
    · rw [if_pos hc_3] at h
      refine az_E.sn 1 (pc' := 15) (L' := [.int (a0 / (1000 : Int32)), .int (0 : Int32), .int (143 : Int32)]) (S' := [.int (0 : Int32)]) (σ' := (97, I, J, R)) rfl ?_
      refine az_E.ret (v := some (.int (0 : Int32))) (σ' := (97, I, J, R)) rfl ?_
      show az_E az_F ex 1 133 8 [.int (a0 / (1000 : Int32))] [.int (0 : Int32)] (97, I, J, R) _
      refine az_E.ret (v := some (.int (0 : Int32))) (σ' := (97, I, J, R)) rfl ?_
      show az_E az_F ex 2 134 11 [.int a0] [.int (0 : Int32)] (97, I, J, R) _
      refine az_E.br (c := (0 : Int32) = 0) (tt := 28) (ff := 14) (L' := [.int a0]) (S' := []) (σ' := (97, I, J, R)) rfl (fun _ => ?_) (fun hn => absurd (by decide) hn)
      refine az_E.sn 1 (pc' := 29) (L' := [.int a0]) (S' := [.int (0 : Int32)]) (σ' := (97, I, J, R)) rfl ?_
      have h := Option.some.inj h
      subst h
      exact az_E.ret (v := some (.int (0 : Int32))) (σ' := (97, I, J, R)) rfl hQ
    · rw [if_neg hc_3] at h
      refine az_E.sn 2 (pc' := 7) (L' := [.int (a0 / (1000 : Int32)), .int (0 : Int32), .int (143 : Int32)]) (S' := [.int (143 : Int32), .int (a0 / (1000 : Int32))]) (σ' := (97, I, J, R)) rfl ?_
      refine az_E.br (c := (143 : Int32) < (a0 / (1000 : Int32))) (tt := 14) (ff := 10) (L' := [.int (a0 / (1000 : Int32)), .int (0 : Int32), .int (143 : Int32)]) (S' := []) (σ' := (97, I, J, R)) rfl (fun hc_4 => ?_) (fun hc_4 => ?_)
      · rw [if_pos hc_4] at h
        refine az_E.sn 1 (pc' := 15) (L' := [.int (a0 / (1000 : Int32)), .int (0 : Int32), .int (143 : Int32)]) (S' := [.int (0 : Int32)]) (σ' := (97, I, J, R)) rfl ?_
        refine az_E.ret (v := some (.int (0 : Int32))) (σ' := (97, I, J, R)) rfl ?_
        show az_E az_F ex 1 133 8 [.int (a0 / (1000 : Int32))] [.int (0 : Int32)] (97, I, J, R) _
        refine az_E.ret (v := some (.int (0 : Int32))) (σ' := (97, I, J, R)) rfl ?_
        show az_E az_F ex 2 134 11 [.int a0] [.int (0 : Int32)] (97, I, J, R) _
        refine az_E.br (c := (0 : Int32) = 0) (tt := 28) (ff := 14) (L' := [.int a0]) (S' := []) (σ' := (97, I, J, R)) rfl (fun _ => ?_) (fun hn => absurd (by decide) hn)
        refine az_E.sn 1 (pc' := 29) (L' := [.int a0]) (S' := [.int (0 : Int32)]) (σ' := (97, I, J, R)) rfl ?_
        have h := Option.some.inj h
        subst h
        exact az_E.ret (v := some (.int (0 : Int32))) (σ' := (97, I, J, R)) rfl hQ
      · rw [if_neg hc_4] at h
        refine az_E.sn 2 (pc' := 15) (L' := [.int (a0 / (1000 : Int32)), .int (0 : Int32), .int (143 : Int32)]) (S' := [.int (1 : Int32)]) (σ' := (97, I, J, R)) rfl ?_
        refine az_E.ret (v := some (.int (1 : Int32))) (σ' := (97, I, J, R)) rfl ?_
        show az_E az_F ex 1 133 8 [.int (a0 / (1000 : Int32))] [.int (1 : Int32)] (97, I, J, R) _
        refine az_E.ret (v := some (.int (1 : Int32))) (σ' := (97, I, J, R)) rfl ?_
        show az_E az_F ex 2 134 11 [.int a0] [.int (1 : Int32)] (97, I, J, R) _
        refine az_E.br (c := (1 : Int32) = 0) (tt := 28) (ff := 14) (L' := [.int a0]) (S' := []) (σ' := (97, I, J, R)) rfl (fun hn => absurd hn (by decide)) (fun _ => ?_)
        refine az_E.sn 1 (pc' := 15) (L' := [.int a0]) (S' := [.int a0]) (σ' := (97, I, J, R)) rfl ?_
        refine az_E.call (d := 1) (k' := 136) (vs := [.int a0]) (pc' := 18) (S' := []) rfl ?_ (fun _ _ hq => hq)
        show az_E az_F ex 1 136 0 [.int a0] [] (97, I, J, R) _
        refine az_E.sn 2 (pc' := 4) (L' := [.int a0]) (S' := [.int (1000 : Int32), .int a0]) (σ' := (97, I, J, R)) rfl ?_
        have hd_5 : ¬ ((1000 : Int32) = 0) := by decide
        refine az_E.dv (c := (1000 : Int32) = 0) (pc' := 5) (L' := [.int a0]) (S' := [.int (a0 - a0 / (1000 : Int32) * (1000 : Int32))]) (σ' := (97, I, J, R)) rfl hd_5 ?_
        refine az_E.ret (v := some (.int (a0 - a0 / (1000 : Int32) * (1000 : Int32)))) (σ' := (97, I, J, R)) rfl ?_
        show az_E az_F ex 2 134 18 [.int a0] [.int (a0 - a0 / (1000 : Int32) * (1000 : Int32))] (97, I, J, R) _
        refine az_E.call (d := 1) (k' := 133) (vs := [.int (a0 - a0 / (1000 : Int32) * (1000 : Int32))]) (pc' := 21) (S' := []) rfl ?_ (fun _ _ hq => hq)
        show az_E az_F ex 1 133 0 [.int (a0 - a0 / (1000 : Int32) * (1000 : Int32))] [] (97, I, J, R) _
        refine az_E.sn 3 (pc' := 5) (L' := [.int (a0 - a0 / (1000 : Int32) * (1000 : Int32))]) (S' := [.int (143 : Int32), .int (0 : Int32), .int (a0 - a0 / (1000 : Int32) * (1000 : Int32))]) (σ' := (97, I, J, R)) rfl ?_
        refine az_E.call (d := 0) (k' := 131) (vs := [.int (a0 - a0 / (1000 : Int32) * (1000 : Int32)), .int (0 : Int32), .int (143 : Int32)]) (pc' := 8) (S' := []) rfl ?_ (fun _ _ hq => hq)
        show az_E az_F ex 0 131 0 [.int (a0 - a0 / (1000 : Int32) * (1000 : Int32)), .int (0 : Int32), .int (143 : Int32)] [] (97, I, J, R) _
        refine az_E.sn 2 (pc' := 2) (L' := [.int (a0 - a0 / (1000 : Int32) * (1000 : Int32)), .int (0 : Int32), .int (143 : Int32)]) (S' := [.int (0 : Int32), .int (a0 - a0 / (1000 : Int32) * (1000 : Int32))]) (σ' := (97, I, J, R)) rfl ?_
        refine az_E.br (c := (a0 - a0 / (1000 : Int32) * (1000 : Int32)) < (0 : Int32)) (tt := 14) (ff := 5) (L' := [.int (a0 - a0 / (1000 : Int32) * (1000 : Int32)), .int (0 : Int32), .int (143 : Int32)]) (S' := []) (σ' := (97, I, J, R)) rfl (fun hc_6 => ?_) (fun hc_6 => ?_)
        · rw [if_pos hc_6] at h
          refine az_E.sn 1 (pc' := 15) (L' := [.int (a0 - a0 / (1000 : Int32) * (1000 : Int32)), .int (0 : Int32), .int (143 : Int32)]) (S' := [.int (0 : Int32)]) (σ' := (97, I, J, R)) rfl ?_
          refine az_E.ret (v := some (.int (0 : Int32))) (σ' := (97, I, J, R)) rfl ?_
          show az_E az_F ex 1 133 8 [.int (a0 - a0 / (1000 : Int32) * (1000 : Int32))] [.int (0 : Int32)] (97, I, J, R) _
          refine az_E.ret (v := some (.int (0 : Int32))) (σ' := (97, I, J, R)) rfl ?_
          show az_E az_F ex 2 134 21 [.int a0] [.int (0 : Int32)] (97, I, J, R) _
          refine az_E.br (c := (0 : Int32) = 0) (tt := 28) (ff := 24) (L' := [.int a0]) (S' := []) (σ' := (97, I, J, R)) rfl (fun _ => ?_) (fun hn => absurd (by decide) hn)
          refine az_E.sn 1 (pc' := 29) (L' := [.int a0]) (S' := [.int (0 : Int32)]) (σ' := (97, I, J, R)) rfl ?_
          have h := Option.some.inj h
          subst h
          exact az_E.ret (v := some (.int (0 : Int32))) (σ' := (97, I, J, R)) rfl hQ
        · rw [if_neg hc_6] at h
          refine az_E.sn 2 (pc' := 7) (L' := [.int (a0 - a0 / (1000 : Int32) * (1000 : Int32)), .int (0 : Int32), .int (143 : Int32)]) (S' := [.int (143 : Int32), .int (a0 - a0 / (1000 : Int32) * (1000 : Int32))]) (σ' := (97, I, J, R)) rfl ?_
          refine az_E.br (c := (143 : Int32) < (a0 - a0 / (1000 : Int32) * (1000 : Int32))) (tt := 14) (ff := 10) (L' := [.int (a0 - a0 / (1000 : Int32) * (1000 : Int32)), .int (0 : Int32), .int (143 : Int32)]) (S' := []) (σ' := (97, I, J, R)) rfl (fun hc_7 => ?_) (fun hc_7 => ?_)
          · rw [if_pos hc_7] at h
            refine az_E.sn 1 (pc' := 15) (L' := [.int (a0 - a0 / (1000 : Int32) * (1000 : Int32)), .int (0 : Int32), .int (143 : Int32)]) (S' := [.int (0 : Int32)]) (σ' := (97, I, J, R)) rfl ?_
            refine az_E.ret (v := some (.int (0 : Int32))) (σ' := (97, I, J, R)) rfl ?_
            show az_E az_F ex 1 133 8 [.int (a0 - a0 / (1000 : Int32) * (1000 : Int32))] [.int (0 : Int32)] (97, I, J, R) _
            refine az_E.ret (v := some (.int (0 : Int32))) (σ' := (97, I, J, R)) rfl ?_
            show az_E az_F ex 2 134 21 [.int a0] [.int (0 : Int32)] (97, I, J, R) _
            refine az_E.br (c := (0 : Int32) = 0) (tt := 28) (ff := 24) (L' := [.int a0]) (S' := []) (σ' := (97, I, J, R)) rfl (fun _ => ?_) (fun hn => absurd (by decide) hn)
            refine az_E.sn 1 (pc' := 29) (L' := [.int a0]) (S' := [.int (0 : Int32)]) (σ' := (97, I, J, R)) rfl ?_
            have h := Option.some.inj h
            subst h
            exact az_E.ret (v := some (.int (0 : Int32))) (σ' := (97, I, J, R)) rfl hQ
          · rw [if_neg hc_7] at h
            refine az_E.sn 2 (pc' := 15) (L' := [.int (a0 - a0 / (1000 : Int32) * (1000 : Int32)), .int (0 : Int32), .int (143 : Int32)]) (S' := [.int (1 : Int32)]) (σ' := (97, I, J, R)) rfl ?_
            refine az_E.ret (v := some (.int (1 : Int32))) (σ' := (97, I, J, R)) rfl ?_
            show az_E az_F ex 1 133 8 [.int (a0 - a0 / (1000 : Int32) * (1000 : Int32))] [.int (1 : Int32)] (97, I, J, R) _
            refine az_E.ret (v := some (.int (1 : Int32))) (σ' := (97, I, J, R)) rfl ?_
            show az_E az_F ex 2 134 21 [.int a0] [.int (1 : Int32)] (97, I, J, R) _
            refine az_E.br (c := (1 : Int32) = 0) (tt := 28) (ff := 24) (L' := [.int a0]) (S' := []) (σ' := (97, I, J, R)) rfl (fun hn => absurd hn (by decide)) (fun _ => ?_)
            refine az_E.sn 2 (pc' := 29) (L' := [.int a0]) (S' := [.int (1 : Int32)]) (σ' := (97, I, J, R)) rfl ?_
            have h := Option.some.inj h
            subst h
            exact az_E.ret (v := some (.int (1 : Int32))) (σ' := (97, I, J, R)) rfl hQ
set_option maxRecDepth 100000 in
set_option maxHeartbeats 4000000 in
theorem re_Mo_addPost {ex : az_X} {I : Nat → Nat → Int32} {J : Nat → Nat → Int64} {R : Nat → Nat → Option Nat} {a1 : Int32} {a2 : Int32} {o : Int32 × (Nat → Nat → Int32)} (h : rs_Mo_addPost I a1 a2 = some o) {Q : Option Value → az_S → Prop} (hQ : Q (some (.int o.1)) (97, o.2, J, R)) : az_E az_F ex 0 35 0 [.ref 4, .int a1, .int a2] [] (97, I, J, R) Q := by
  unfold rs_Mo_addPost at h
  refine az_E.sn 3 (pc' := 6) (L' := [.ref 4, .int a1, .int a2]) (S' := [.int (8 : Int32), .int (I 4 3)]) (σ' := (97, I, J, R)) rfl ?_
  refine az_E.br (c := (I 4 3) < (8 : Int32)) (tt := 12) (ff := 9) (L' := [.ref 4, .int a1, .int a2]) (S' := []) (σ' := (97, I, J, R)) rfl (fun hc_1 => ?_) (fun hc_1 => ?_)
  · rw [if_pos hc_1] at h
    refine az_E.sn 5 (pc' := 21) (L' := [.ref 4, .int a1, .int a2]) (S' := [.int a1, .int (I 4 3), .ref 6]) (σ' := (97, I, J, R)) rfl ?_
    by_cases hc_2 : (I 4 3) < 0 ∨ 8 ≤ (I 4 3).toNatClampNeg
    · rw [if_pos hc_2] at h; cases h
    · rw [if_neg hc_2] at h
      refine az_E.o (o := az_si az_F (97, I, J, R) 6 (I 4 3) a1) (pc' := 22) (L' := [.ref 4, .int a1, .int a2]) (S' := []) (x := (97, (az_u I 6 (I 4 3).toNatClampNeg a1), J, R)) rfl (if_neg hc_2) ?_
      refine az_E.sn 5 (pc' := 31) (L' := [.ref 4, .int a1, .int a2]) (S' := [.int a2, .int (I 4 3), .ref 7]) (σ' := (97, (az_u I 6 (I 4 3).toNatClampNeg a1), J, R)) rfl ?_
      by_cases hc_3 : (I 4 3) < 0 ∨ 8 ≤ (I 4 3).toNatClampNeg
      · rw [if_pos hc_3] at h; cases h
      · rw [if_neg hc_3] at h
        refine az_E.o (o := az_si az_F (97, (az_u I 6 (I 4 3).toNatClampNeg a1), J, R) 7 (I 4 3) a2) (pc' := 32) (L' := [.ref 4, .int a1, .int a2]) (S' := []) (x := (97, (az_u (az_u I 6 (I 4 3).toNatClampNeg a1) 7 (I 4 3).toNatClampNeg a2), J, R)) rfl (if_neg hc_3) ?_
        refine az_E.sn 7 (pc' := 43) (L' := [.ref 4, .int a1, .int a2]) (S' := [.int (I 4 3)]) (σ' := (97, (az_u (az_u (az_u I 6 (I 4 3).toNatClampNeg a1) 7 (I 4 3).toNatClampNeg a2) 4 3 ((I 4 3) + (1 : Int32))), J, R)) rfl ?_
        have h := Option.some.inj h
        subst h
        exact az_E.ret (v := some (.int (I 4 3))) (σ' := (97, (az_u (az_u (az_u I 6 (I 4 3).toNatClampNeg a1) 7 (I 4 3).toNatClampNeg a2) 4 3 ((I 4 3) + (1 : Int32))), J, R)) rfl hQ
  · rw [if_neg hc_1] at h
    refine az_E.sn 1 (pc' := 11) (L' := [.ref 4, .int a1, .int a2]) (S' := [.int (-3 : Int32)]) (σ' := (97, I, J, R)) rfl ?_
    have h := Option.some.inj h
    subst h
    exact az_E.ret (v := some (.int (-3 : Int32))) (σ' := (97, I, J, R)) rfl hQ
set_option maxRecDepth 100000 in
set_option maxHeartbeats 4000000 in
theorem re_X_post {ex : az_X} {I : Nat → Nat → Int32} {J : Nat → Nat → Int64} {R : Nat → Nat → Option Nat} {a1 : Int32} {o : Int32 × (Nat → Nat → Int32)} (h : rs_X_post I a1 = some o) {Q : Option Value → az_S → Prop} (hQ : Q (some (.int o.1)) (97, o.2, J, R)) : az_E az_F ex 3 84 0 [.ref 3, .int a1] [] (97, I, J, R) Q := by
  unfold rs_X_post at h
  refine az_E.sn 1 (pc' := 1) (L' := [.ref 3, .int a1]) (S' := [.int a1]) (σ' := (97, I, J, R)) rfl ?_
  cases hx_2 : rs_X_isFromTo a1 with
  | none => rw [hx_2] at h; cases h
  | some x_1 =>
    rw [hx_2] at h
    dsimp only at h
    refine az_E.call (d := 2) (k' := 134) (vs := [.int a1]) (pc' := 4) (S' := []) (Q1 := fun v s => v = some (.int x_1) ∧ s = (97, I, J, R)) rfl (az_E.deep (by omega) (re_X_isFromTo (J := J) (R := R)  hx_2 ⟨rfl, rfl⟩)) (fun v s hq => ?_)
    obtain ⟨rfl, rfl⟩ := hq
    show az_E az_F ex 3 84 4 [.ref 3, .int a1] [.int x_1] (97, I, J, R) _
    refine az_E.br (c := x_1 = 0) (tt := 7) (ff := 9) (L' := [.ref 3, .int a1]) (S' := []) (σ' := (97, I, J, R)) rfl (fun hc_3 => ?_) (fun hc_3 => ?_)
    · rw [if_pos hc_3] at h
      refine az_E.sn 1 (pc' := 8) (L' := [.ref 3, .int a1]) (S' := [.int (-1 : Int32)]) (σ' := (97, I, J, R)) rfl ?_
      have h := Option.some.inj h
      subst h
      exact az_E.ret (v := some (.int (-1 : Int32))) (σ' := (97, I, J, R)) rfl hQ
    · rw [if_neg hc_3] at h
      refine az_E.sn 3 (pc' := 14) (L' := [.ref 3, .int a1]) (S' := [.int a1, .ref 4]) (σ' := (97, I, J, R)) rfl ?_
      refine az_E.call (d := 2) (k' := 135) (vs := [.int a1]) (pc' := 17) (S' := [.ref 4]) rfl ?_ (fun _ _ hq => hq)
      show az_E az_F ex 2 135 0 [.int a1] [] (97, I, J, R) _
      refine az_E.sn 2 (pc' := 4) (L' := [.int a1]) (S' := [.int (1000 : Int32), .int a1]) (σ' := (97, I, J, R)) rfl ?_
      have hd_4 : ¬ ((1000 : Int32) = 0) := by decide
      refine az_E.dv (c := (1000 : Int32) = 0) (pc' := 5) (L' := [.int a1]) (S' := [.int (a1 / (1000 : Int32))]) (σ' := (97, I, J, R)) rfl hd_4 ?_
      refine az_E.ret (v := some (.int (a1 / (1000 : Int32)))) (σ' := (97, I, J, R)) rfl ?_
      show az_E az_F ex 3 84 17 [.ref 3, .int a1] [.int (a1 / (1000 : Int32)), .ref 4] (97, I, J, R) _
      refine az_E.sn 1 (pc' := 18) (L' := [.ref 3, .int a1]) (S' := [.int a1, .int (a1 / (1000 : Int32)), .ref 4]) (σ' := (97, I, J, R)) rfl ?_
      refine az_E.call (d := 2) (k' := 136) (vs := [.int a1]) (pc' := 21) (S' := [.int (a1 / (1000 : Int32)), .ref 4]) rfl ?_ (fun _ _ hq => hq)
      show az_E az_F ex 2 136 0 [.int a1] [] (97, I, J, R) _
      refine az_E.sn 2 (pc' := 4) (L' := [.int a1]) (S' := [.int (1000 : Int32), .int a1]) (σ' := (97, I, J, R)) rfl ?_
      have hd_5 : ¬ ((1000 : Int32) = 0) := by decide
      refine az_E.dv (c := (1000 : Int32) = 0) (pc' := 5) (L' := [.int a1]) (S' := [.int (a1 - a1 / (1000 : Int32) * (1000 : Int32))]) (σ' := (97, I, J, R)) rfl hd_5 ?_
      refine az_E.ret (v := some (.int (a1 - a1 / (1000 : Int32) * (1000 : Int32)))) (σ' := (97, I, J, R)) rfl ?_
      show az_E az_F ex 3 84 21 [.ref 3, .int a1] [.int (a1 - a1 / (1000 : Int32) * (1000 : Int32)), .int (a1 / (1000 : Int32)), .ref 4] (97, I, J, R) _
      cases hx_8 : rs_Mo_addPost I (a1 / (1000 : Int32)) (a1 - a1 / (1000 : Int32) * (1000 : Int32)) with
      | none => rw [hx_8] at h; cases h
      | some o =>
        rw [hx_8] at h
        obtain ⟨x_6, I_7⟩ := o
        dsimp only at h
        refine az_E.call (d := 2) (k' := 35) (vs := [.ref 4, .int (a1 / (1000 : Int32)), .int (a1 - a1 / (1000 : Int32) * (1000 : Int32))]) (pc' := 24) (S' := []) (Q1 := fun v s => v = some (.int x_6) ∧ s = (97, I_7, J, R)) rfl (az_E.deep (by omega) (re_Mo_addPost (J := J) (R := R)  hx_8 ⟨rfl, rfl⟩)) (fun v s hq => ?_)
        obtain ⟨rfl, rfl⟩ := hq
        show az_E az_F ex 3 84 24 [.ref 3, .int a1] [.int x_6] (97, I_7, J, R) _
        have h := Option.some.inj h
        subst h
        exact az_E.ret (v := some (.int x_6)) (σ' := (97, I_7, J, R)) rfl hQ
set_option maxRecDepth 100000 in
set_option maxHeartbeats 4000000 in
theorem re_M_isFt {ex : az_X} {I : Nat → Nat → Int32} {J : Nat → Nat → Int64} {R : Nat → Nat → Option Nat} {a0 : Int32} {o : Int32} (h : rs_M_isFt a0 = some o) {Q : Option Value → az_S → Prop} (hQ : Q (some (.int o)) (97, I, J, R)) : az_E az_F ex 2 163 0 [.int a0] [] (97, I, J, R) Q := by
  unfold rs_M_isFt at h
  refine az_E.sn 1 (pc' := 1) (L' := [.int a0]) (S' := [.int a0]) (σ' := (97, I, J, R)) rfl ?_
  refine az_E.br (c := a0 < 0) (tt := 32) (ff := 4) (L' := [.int a0]) (S' := []) (σ' := (97, I, J, R)) rfl (fun hc_1 => ?_) (fun hc_1 => ?_)
  · rw [if_pos hc_1] at h
    refine az_E.sn 1 (pc' := 33) (L' := [.int a0]) (S' := [.int (0 : Int32)]) (σ' := (97, I, J, R)) rfl ?_
    have h := Option.some.inj h
    subst h
    exact az_E.ret (v := some (.int (0 : Int32))) (σ' := (97, I, J, R)) rfl hQ
  · rw [if_neg hc_1] at h
    refine az_E.sn 2 (pc' := 8) (L' := [.int a0]) (S' := [.int (1000 : Int32), .int a0]) (σ' := (97, I, J, R)) rfl ?_
    have hd_2 : ¬ ((1000 : Int32) = 0) := by decide
    refine az_E.dv (c := (1000 : Int32) = 0) (pc' := 9) (L' := [.int a0]) (S' := [.int (a0 / (1000 : Int32))]) (σ' := (97, I, J, R)) rfl hd_2 ?_
    refine az_E.sn 1 (pc' := 10) (L' := [.int a0]) (S' := [.long (a0 / (1000 : Int32)).toInt64]) (σ' := (97, I, J, R)) rfl ?_
    refine az_E.call (d := 1) (k' := 160) (vs := [.long (a0 / (1000 : Int32)).toInt64]) (pc' := 13) (S' := []) rfl ?_ (fun _ _ hq => hq)
    show az_E az_F ex 1 160 0 [.long (a0 / (1000 : Int32)).toInt64, .retAddr 0] [] (97, I, J, R) _
    refine az_E.sn 3 (pc' := 5) (L' := [.long (a0 / (1000 : Int32)).toInt64, .retAddr 0]) (S' := [.long (143 : Int64), .long (0 : Int64), .long (a0 / (1000 : Int32)).toInt64]) (σ' := (97, I, J, R)) rfl ?_
    refine az_E.call (d := 0) (k' := 154) (vs := [.long (a0 / (1000 : Int32)).toInt64, .long (0 : Int64), .long (143 : Int64)]) (pc' := 8) (S' := []) rfl ?_ (fun _ _ hq => hq)
    show az_E az_F ex 0 154 0 [.long (a0 / (1000 : Int32)).toInt64, .retAddr 0, .long (0 : Int64), .retAddr 0, .long (143 : Int64), .retAddr 0] [] (97, I, J, R) _
    refine az_E.sn 3 (pc' := 3) (L' := [.long (a0 / (1000 : Int32)).toInt64, .retAddr 0, .long (0 : Int64), .retAddr 0, .long (143 : Int64), .retAddr 0]) (S' := [.int (lg_cmp (a0 / (1000 : Int32)).toInt64 (0 : Int64))]) (σ' := (97, I, J, R)) rfl ?_
    refine az_E.br (c := (lg_cmp (a0 / (1000 : Int32)).toInt64 (0 : Int64)) < 0) (tt := 17) (ff := 6) (L' := [.long (a0 / (1000 : Int32)).toInt64, .retAddr 0, .long (0 : Int64), .retAddr 0, .long (143 : Int64), .retAddr 0]) (S' := []) (σ' := (97, I, J, R)) rfl (fun hc_3 => ?_) (fun hc_3 => ?_)
    · rw [if_pos hc_3] at h
      refine az_E.sn 1 (pc' := 18) (L' := [.long (a0 / (1000 : Int32)).toInt64, .retAddr 0, .long (0 : Int64), .retAddr 0, .long (143 : Int64), .retAddr 0]) (S' := [.int (0 : Int32)]) (σ' := (97, I, J, R)) rfl ?_
      refine az_E.ret (v := some (.int (0 : Int32))) (σ' := (97, I, J, R)) rfl ?_
      show az_E az_F ex 1 160 8 [.long (a0 / (1000 : Int32)).toInt64, .retAddr 0] [.int (0 : Int32)] (97, I, J, R) _
      refine az_E.ret (v := some (.int (0 : Int32))) (σ' := (97, I, J, R)) rfl ?_
      show az_E az_F ex 2 163 13 [.int a0] [.int (0 : Int32)] (97, I, J, R) _
      refine az_E.br (c := (0 : Int32) = 0) (tt := 32) (ff := 16) (L' := [.int a0]) (S' := []) (σ' := (97, I, J, R)) rfl (fun _ => ?_) (fun hn => absurd (by decide) hn)
      refine az_E.sn 1 (pc' := 33) (L' := [.int a0]) (S' := [.int (0 : Int32)]) (σ' := (97, I, J, R)) rfl ?_
      have h := Option.some.inj h
      subst h
      exact az_E.ret (v := some (.int (0 : Int32))) (σ' := (97, I, J, R)) rfl hQ
    · rw [if_neg hc_3] at h
      refine az_E.sn 3 (pc' := 10) (L' := [.long (a0 / (1000 : Int32)).toInt64, .retAddr 0, .long (0 : Int64), .retAddr 0, .long (143 : Int64), .retAddr 0]) (S' := [.int (lg_cmp (a0 / (1000 : Int32)).toInt64 (143 : Int64))]) (σ' := (97, I, J, R)) rfl ?_
      refine az_E.br (c := 0 < (lg_cmp (a0 / (1000 : Int32)).toInt64 (143 : Int64))) (tt := 17) (ff := 13) (L' := [.long (a0 / (1000 : Int32)).toInt64, .retAddr 0, .long (0 : Int64), .retAddr 0, .long (143 : Int64), .retAddr 0]) (S' := []) (σ' := (97, I, J, R)) rfl (fun hc_4 => ?_) (fun hc_4 => ?_)
      · rw [if_pos hc_4] at h
        refine az_E.sn 1 (pc' := 18) (L' := [.long (a0 / (1000 : Int32)).toInt64, .retAddr 0, .long (0 : Int64), .retAddr 0, .long (143 : Int64), .retAddr 0]) (S' := [.int (0 : Int32)]) (σ' := (97, I, J, R)) rfl ?_
        refine az_E.ret (v := some (.int (0 : Int32))) (σ' := (97, I, J, R)) rfl ?_
        show az_E az_F ex 1 160 8 [.long (a0 / (1000 : Int32)).toInt64, .retAddr 0] [.int (0 : Int32)] (97, I, J, R) _
        refine az_E.ret (v := some (.int (0 : Int32))) (σ' := (97, I, J, R)) rfl ?_
        show az_E az_F ex 2 163 13 [.int a0] [.int (0 : Int32)] (97, I, J, R) _
        refine az_E.br (c := (0 : Int32) = 0) (tt := 32) (ff := 16) (L' := [.int a0]) (S' := []) (σ' := (97, I, J, R)) rfl (fun _ => ?_) (fun hn => absurd (by decide) hn)
        refine az_E.sn 1 (pc' := 33) (L' := [.int a0]) (S' := [.int (0 : Int32)]) (σ' := (97, I, J, R)) rfl ?_
        have h := Option.some.inj h
        subst h
        exact az_E.ret (v := some (.int (0 : Int32))) (σ' := (97, I, J, R)) rfl hQ
      · rw [if_neg hc_4] at h
        refine az_E.sn 2 (pc' := 18) (L' := [.long (a0 / (1000 : Int32)).toInt64, .retAddr 0, .long (0 : Int64), .retAddr 0, .long (143 : Int64), .retAddr 0]) (S' := [.int (1 : Int32)]) (σ' := (97, I, J, R)) rfl ?_
        refine az_E.ret (v := some (.int (1 : Int32))) (σ' := (97, I, J, R)) rfl ?_
        show az_E az_F ex 1 160 8 [.long (a0 / (1000 : Int32)).toInt64, .retAddr 0] [.int (1 : Int32)] (97, I, J, R) _
        refine az_E.ret (v := some (.int (1 : Int32))) (σ' := (97, I, J, R)) rfl ?_
        show az_E az_F ex 2 163 13 [.int a0] [.int (1 : Int32)] (97, I, J, R) _
        refine az_E.br (c := (1 : Int32) = 0) (tt := 32) (ff := 16) (L' := [.int a0]) (S' := []) (σ' := (97, I, J, R)) rfl (fun hn => absurd hn (by decide)) (fun _ => ?_)
        refine az_E.sn 2 (pc' := 20) (L' := [.int a0]) (S' := [.int (1000 : Int32), .int a0]) (σ' := (97, I, J, R)) rfl ?_
        have hd_5 : ¬ ((1000 : Int32) = 0) := by decide
        refine az_E.dv (c := (1000 : Int32) = 0) (pc' := 21) (L' := [.int a0]) (S' := [.int (a0 - a0 / (1000 : Int32) * (1000 : Int32))]) (σ' := (97, I, J, R)) rfl hd_5 ?_
        refine az_E.sn 1 (pc' := 22) (L' := [.int a0]) (S' := [.long (a0 - a0 / (1000 : Int32) * (1000 : Int32)).toInt64]) (σ' := (97, I, J, R)) rfl ?_
        refine az_E.call (d := 1) (k' := 160) (vs := [.long (a0 - a0 / (1000 : Int32) * (1000 : Int32)).toInt64]) (pc' := 25) (S' := []) rfl ?_ (fun _ _ hq => hq)
        show az_E az_F ex 1 160 0 [.long (a0 - a0 / (1000 : Int32) * (1000 : Int32)).toInt64, .retAddr 0] [] (97, I, J, R) _
        refine az_E.sn 3 (pc' := 5) (L' := [.long (a0 - a0 / (1000 : Int32) * (1000 : Int32)).toInt64, .retAddr 0]) (S' := [.long (143 : Int64), .long (0 : Int64), .long (a0 - a0 / (1000 : Int32) * (1000 : Int32)).toInt64]) (σ' := (97, I, J, R)) rfl ?_
        refine az_E.call (d := 0) (k' := 154) (vs := [.long (a0 - a0 / (1000 : Int32) * (1000 : Int32)).toInt64, .long (0 : Int64), .long (143 : Int64)]) (pc' := 8) (S' := []) rfl ?_ (fun _ _ hq => hq)
        show az_E az_F ex 0 154 0 [.long (a0 - a0 / (1000 : Int32) * (1000 : Int32)).toInt64, .retAddr 0, .long (0 : Int64), .retAddr 0, .long (143 : Int64), .retAddr 0] [] (97, I, J, R) _
        refine az_E.sn 3 (pc' := 3) (L' := [.long (a0 - a0 / (1000 : Int32) * (1000 : Int32)).toInt64, .retAddr 0, .long (0 : Int64), .retAddr 0, .long (143 : Int64), .retAddr 0]) (S' := [.int (lg_cmp (a0 - a0 / (1000 : Int32) * (1000 : Int32)).toInt64 (0 : Int64))]) (σ' := (97, I, J, R)) rfl ?_
        refine az_E.br (c := (lg_cmp (a0 - a0 / (1000 : Int32) * (1000 : Int32)).toInt64 (0 : Int64)) < 0) (tt := 17) (ff := 6) (L' := [.long (a0 - a0 / (1000 : Int32) * (1000 : Int32)).toInt64, .retAddr 0, .long (0 : Int64), .retAddr 0, .long (143 : Int64), .retAddr 0]) (S' := []) (σ' := (97, I, J, R)) rfl (fun hc_6 => ?_) (fun hc_6 => ?_)
        · rw [if_pos hc_6] at h
          refine az_E.sn 1 (pc' := 18) (L' := [.long (a0 - a0 / (1000 : Int32) * (1000 : Int32)).toInt64, .retAddr 0, .long (0 : Int64), .retAddr 0, .long (143 : Int64), .retAddr 0]) (S' := [.int (0 : Int32)]) (σ' := (97, I, J, R)) rfl ?_
          refine az_E.ret (v := some (.int (0 : Int32))) (σ' := (97, I, J, R)) rfl ?_
          show az_E az_F ex 1 160 8 [.long (a0 - a0 / (1000 : Int32) * (1000 : Int32)).toInt64, .retAddr 0] [.int (0 : Int32)] (97, I, J, R) _
          refine az_E.ret (v := some (.int (0 : Int32))) (σ' := (97, I, J, R)) rfl ?_
          show az_E az_F ex 2 163 25 [.int a0] [.int (0 : Int32)] (97, I, J, R) _
          refine az_E.br (c := (0 : Int32) = 0) (tt := 32) (ff := 28) (L' := [.int a0]) (S' := []) (σ' := (97, I, J, R)) rfl (fun _ => ?_) (fun hn => absurd (by decide) hn)
          refine az_E.sn 1 (pc' := 33) (L' := [.int a0]) (S' := [.int (0 : Int32)]) (σ' := (97, I, J, R)) rfl ?_
          have h := Option.some.inj h
          subst h
          exact az_E.ret (v := some (.int (0 : Int32))) (σ' := (97, I, J, R)) rfl hQ
        · rw [if_neg hc_6] at h
          refine az_E.sn 3 (pc' := 10) (L' := [.long (a0 - a0 / (1000 : Int32) * (1000 : Int32)).toInt64, .retAddr 0, .long (0 : Int64), .retAddr 0, .long (143 : Int64), .retAddr 0]) (S' := [.int (lg_cmp (a0 - a0 / (1000 : Int32) * (1000 : Int32)).toInt64 (143 : Int64))]) (σ' := (97, I, J, R)) rfl ?_
          refine az_E.br (c := 0 < (lg_cmp (a0 - a0 / (1000 : Int32) * (1000 : Int32)).toInt64 (143 : Int64))) (tt := 17) (ff := 13) (L' := [.long (a0 - a0 / (1000 : Int32) * (1000 : Int32)).toInt64, .retAddr 0, .long (0 : Int64), .retAddr 0, .long (143 : Int64), .retAddr 0]) (S' := []) (σ' := (97, I, J, R)) rfl (fun hc_7 => ?_) (fun hc_7 => ?_)
          · rw [if_pos hc_7] at h
            refine az_E.sn 1 (pc' := 18) (L' := [.long (a0 - a0 / (1000 : Int32) * (1000 : Int32)).toInt64, .retAddr 0, .long (0 : Int64), .retAddr 0, .long (143 : Int64), .retAddr 0]) (S' := [.int (0 : Int32)]) (σ' := (97, I, J, R)) rfl ?_
            refine az_E.ret (v := some (.int (0 : Int32))) (σ' := (97, I, J, R)) rfl ?_
            show az_E az_F ex 1 160 8 [.long (a0 - a0 / (1000 : Int32) * (1000 : Int32)).toInt64, .retAddr 0] [.int (0 : Int32)] (97, I, J, R) _
            refine az_E.ret (v := some (.int (0 : Int32))) (σ' := (97, I, J, R)) rfl ?_
            show az_E az_F ex 2 163 25 [.int a0] [.int (0 : Int32)] (97, I, J, R) _
            refine az_E.br (c := (0 : Int32) = 0) (tt := 32) (ff := 28) (L' := [.int a0]) (S' := []) (σ' := (97, I, J, R)) rfl (fun _ => ?_) (fun hn => absurd (by decide) hn)
            refine az_E.sn 1 (pc' := 33) (L' := [.int a0]) (S' := [.int (0 : Int32)]) (σ' := (97, I, J, R)) rfl ?_
            have h := Option.some.inj h
            subst h
            exact az_E.ret (v := some (.int (0 : Int32))) (σ' := (97, I, J, R)) rfl hQ
          · rw [if_neg hc_7] at h
            refine az_E.sn 2 (pc' := 18) (L' := [.long (a0 - a0 / (1000 : Int32) * (1000 : Int32)).toInt64, .retAddr 0, .long (0 : Int64), .retAddr 0, .long (143 : Int64), .retAddr 0]) (S' := [.int (1 : Int32)]) (σ' := (97, I, J, R)) rfl ?_
            refine az_E.ret (v := some (.int (1 : Int32))) (σ' := (97, I, J, R)) rfl ?_
            show az_E az_F ex 1 160 8 [.long (a0 - a0 / (1000 : Int32) * (1000 : Int32)).toInt64, .retAddr 0] [.int (1 : Int32)] (97, I, J, R) _
            refine az_E.ret (v := some (.int (1 : Int32))) (σ' := (97, I, J, R)) rfl ?_
            show az_E az_F ex 2 163 25 [.int a0] [.int (1 : Int32)] (97, I, J, R) _
            refine az_E.br (c := (1 : Int32) = 0) (tt := 32) (ff := 28) (L' := [.int a0]) (S' := []) (σ' := (97, I, J, R)) rfl (fun hn => absurd hn (by decide)) (fun _ => ?_)
            refine az_E.sn 2 (pc' := 33) (L' := [.int a0]) (S' := [.int (1 : Int32)]) (σ' := (97, I, J, R)) rfl ?_
            have h := Option.some.inj h
            subst h
            exact az_E.ret (v := some (.int (1 : Int32))) (σ' := (97, I, J, R)) rfl hQ
set_option maxRecDepth 100000 in
set_option maxHeartbeats 4000000 in
theorem re_M_post {ex : az_X} {I : Nat → Nat → Int32} {J : Nat → Nat → Int64} {R : Nat → Nat → Option Nat} {a1 : Int32} {o : Int32 × (Nat → Nat → Int32)} (h : rs_M_post I a1 = some o) {Q : Option Value → az_S → Prop} (hQ : Q (some (.int o.1)) (97, o.2, J, R)) : az_E az_F ex 3 166 0 [.ref 73, .int a1] [] (97, I, J, R) Q := by
  unfold rs_M_post at h
  refine az_E.sn 1 (pc' := 1) (L' := [.ref 73, .int a1]) (S' := [.int a1]) (σ' := (97, I, J, R)) rfl ?_
  cases hx_2 : rs_M_isFt a1 with
  | none => rw [hx_2] at h; cases h
  | some x_1 =>
    rw [hx_2] at h
    dsimp only at h
    refine az_E.call (d := 2) (k' := 163) (vs := [.int a1]) (pc' := 4) (S' := []) (Q1 := fun v s => v = some (.int x_1) ∧ s = (97, I, J, R)) rfl (az_E.deep (by omega) (re_M_isFt (J := J) (R := R)  hx_2 ⟨rfl, rfl⟩)) (fun v s hq => ?_)
    obtain ⟨rfl, rfl⟩ := hq
    show az_E az_F ex 3 166 4 [.ref 73, .int a1] [.int x_1] (97, I, J, R) _
    refine az_E.br (c := x_1 = 0) (tt := 7) (ff := 9) (L' := [.ref 73, .int a1]) (S' := []) (σ' := (97, I, J, R)) rfl (fun hc_3 => ?_) (fun hc_3 => ?_)
    · rw [if_pos hc_3] at h
      refine az_E.sn 1 (pc' := 8) (L' := [.ref 73, .int a1]) (S' := [.int (-1 : Int32)]) (σ' := (97, I, J, R)) rfl ?_
      have h := Option.some.inj h
      subst h
      exact az_E.ret (v := some (.int (-1 : Int32))) (σ' := (97, I, J, R)) rfl hQ
    · rw [if_neg hc_3] at h
      refine az_E.sn 3 (pc' := 15) (L' := [.ref 73, .int a1]) (S' := [.int (8 : Int32), .int (I 73 6)]) (σ' := (97, I, J, R)) rfl ?_
      refine az_E.br (c := (I 73 6) = (8 : Int32)) (tt := 18) (ff := 21) (L' := [.ref 73, .int a1]) (S' := []) (σ' := (97, I, J, R)) rfl (fun hc_4 => ?_) (fun hc_4 => ?_)
      · rw [if_pos hc_4] at h
        refine az_E.sn 1 (pc' := 20) (L' := [.ref 73, .int a1]) (S' := [.int (-3 : Int32)]) (σ' := (97, I, J, R)) rfl ?_
        have h := Option.some.inj h
        subst h
        exact az_E.ret (v := some (.int (-3 : Int32))) (σ' := (97, I, J, R)) rfl hQ
      · rw [if_neg hc_4] at h
        refine az_E.sn 8 (pc' := 37) (L' := [.ref 73, .int a1]) (S' := [.int (1000 : Int32), .int a1, .int ((144 : Int32) + (I 73 6)), .ref 74]) (σ' := (97, I, J, R)) rfl ?_
        have hd_5 : ¬ ((1000 : Int32) = 0) := by decide
        refine az_E.dv (c := (1000 : Int32) = 0) (pc' := 38) (L' := [.ref 73, .int a1]) (S' := [.int (a1 / (1000 : Int32)), .int ((144 : Int32) + (I 73 6)), .ref 74]) (σ' := (97, I, J, R)) rfl hd_5 ?_
        by_cases hc_6 : ((144 : Int32) + (I 73 6)) < 0 ∨ 179 ≤ ((144 : Int32) + (I 73 6)).toNatClampNeg
        · rw [if_pos hc_6] at h; cases h
        · rw [if_neg hc_6] at h
          refine az_E.o (o := az_si az_F (97, I, J, R) 74 ((144 : Int32) + (I 73 6)) (a1 / (1000 : Int32))) (pc' := 39) (L' := [.ref 73, .int a1]) (S' := []) (x := (97, (az_u I 74 ((144 : Int32) + (I 73 6)).toNatClampNeg (a1 / (1000 : Int32))), J, R)) rfl (if_neg hc_6) ?_
          refine az_E.sn 8 (pc' := 55) (L' := [.ref 73, .int a1]) (S' := [.int (1000 : Int32), .int a1, .int ((152 : Int32) + (I 73 6)), .ref 74]) (σ' := (97, (az_u I 74 ((144 : Int32) + (I 73 6)).toNatClampNeg (a1 / (1000 : Int32))), J, R)) rfl ?_
          have hd_7 : ¬ ((1000 : Int32) = 0) := by decide
          refine az_E.dv (c := (1000 : Int32) = 0) (pc' := 56) (L' := [.ref 73, .int a1]) (S' := [.int (a1 - a1 / (1000 : Int32) * (1000 : Int32)), .int ((152 : Int32) + (I 73 6)), .ref 74]) (σ' := (97, (az_u I 74 ((144 : Int32) + (I 73 6)).toNatClampNeg (a1 / (1000 : Int32))), J, R)) rfl hd_7 ?_
          by_cases hc_8 : ((152 : Int32) + (I 73 6)) < 0 ∨ 179 ≤ ((152 : Int32) + (I 73 6)).toNatClampNeg
          · rw [if_pos hc_8] at h; cases h
          · rw [if_neg hc_8] at h
            refine az_E.o (o := az_si az_F (97, (az_u I 74 ((144 : Int32) + (I 73 6)).toNatClampNeg (a1 / (1000 : Int32))), J, R) 74 ((152 : Int32) + (I 73 6)) (a1 - a1 / (1000 : Int32) * (1000 : Int32))) (pc' := 57) (L' := [.ref 73, .int a1]) (S' := []) (x := (97, (az_u (az_u I 74 ((144 : Int32) + (I 73 6)).toNatClampNeg (a1 / (1000 : Int32))) 74 ((152 : Int32) + (I 73 6)).toNatClampNeg (a1 - a1 / (1000 : Int32) * (1000 : Int32))), J, R)) rfl (if_neg hc_8) ?_
            refine az_E.sn 10 (pc' := 73) (L' := [.ref 73, .int a1]) (S' := [.int (((I 73 6) + (1 : Int32)) - (1 : Int32))]) (σ' := (97, (az_u (az_u (az_u I 74 ((144 : Int32) + (I 73 6)).toNatClampNeg (a1 / (1000 : Int32))) 74 ((152 : Int32) + (I 73 6)).toNatClampNeg (a1 - a1 / (1000 : Int32) * (1000 : Int32))) 73 6 ((I 73 6) + (1 : Int32))), J, R)) rfl ?_
            have h := Option.some.inj h
            subst h
            exact az_E.ret (v := some (.int (((I 73 6) + (1 : Int32)) - (1 : Int32)))) (σ' := (97, (az_u (az_u (az_u I 74 ((144 : Int32) + (I 73 6)).toNatClampNeg (a1 / (1000 : Int32))) 74 ((152 : Int32) + (I 73 6)).toNatClampNeg (a1 - a1 / (1000 : Int32) * (1000 : Int32))) 73 6 ((I 73 6) + (1 : Int32))), J, R)) rfl hQ
set_option maxRecDepth 100000 in
set_option maxHeartbeats 4000000 in
theorem re_Mo_addWalker {ex : az_X} {I : Nat → Nat → Int32} {J : Nat → Nat → Int64} {R : Nat → Nat → Option Nat} {a1 : Int32} {a2 : Int32} {a3 : Int32} {o : Int32 × (Nat → Nat → Int32)} (h : rs_Mo_addWalker I a1 a2 a3 = some o) {Q : Option Value → az_S → Prop} (hQ : Q (some (.int o.1)) (97, o.2, J, R)) : az_E az_F ex 0 36 0 [.ref 4, .int a1, .int a2, .int a3] [] (97, I, J, R) Q := by
  unfold rs_Mo_addWalker at h
  refine az_E.sn 3 (pc' := 6) (L' := [.ref 4, .int a1, .int a2, .int a3]) (S' := [.int (6 : Int32), .int (I 4 9)]) (σ' := (97, I, J, R)) rfl ?_
  refine az_E.br (c := (I 4 9) < (6 : Int32)) (tt := 12) (ff := 9) (L' := [.ref 4, .int a1, .int a2, .int a3]) (S' := []) (σ' := (97, I, J, R)) rfl (fun hc_1 => ?_) (fun hc_1 => ?_)
  · rw [if_pos hc_1] at h
    refine az_E.sn 5 (pc' := 21) (L' := [.ref 4, .int a1, .int a2, .int a3]) (S' := [.int a1, .int (I 4 9), .ref 8]) (σ' := (97, I, J, R)) rfl ?_
    by_cases hc_2 : (I 4 9) < 0 ∨ 6 ≤ (I 4 9).toNatClampNeg
    · rw [if_pos hc_2] at h; cases h
    · rw [if_neg hc_2] at h
      refine az_E.o (o := az_si az_F (97, I, J, R) 8 (I 4 9) a1) (pc' := 22) (L' := [.ref 4, .int a1, .int a2, .int a3]) (S' := []) (x := (97, (az_u I 8 (I 4 9).toNatClampNeg a1), J, R)) rfl (if_neg hc_2) ?_
      refine az_E.sn 5 (pc' := 31) (L' := [.ref 4, .int a1, .int a2, .int a3]) (S' := [.int a2, .int (I 4 9), .ref 9]) (σ' := (97, (az_u I 8 (I 4 9).toNatClampNeg a1), J, R)) rfl ?_
      by_cases hc_3 : (I 4 9) < 0 ∨ 6 ≤ (I 4 9).toNatClampNeg
      · rw [if_pos hc_3] at h; cases h
      · rw [if_neg hc_3] at h
        refine az_E.o (o := az_si az_F (97, (az_u I 8 (I 4 9).toNatClampNeg a1), J, R) 9 (I 4 9) a2) (pc' := 32) (L' := [.ref 4, .int a1, .int a2, .int a3]) (S' := []) (x := (97, (az_u (az_u I 8 (I 4 9).toNatClampNeg a1) 9 (I 4 9).toNatClampNeg a2), J, R)) rfl (if_neg hc_3) ?_
        refine az_E.sn 5 (pc' := 41) (L' := [.ref 4, .int a1, .int a2, .int a3]) (S' := [.int a3, .int (I 4 9), .ref 10]) (σ' := (97, (az_u (az_u I 8 (I 4 9).toNatClampNeg a1) 9 (I 4 9).toNatClampNeg a2), J, R)) rfl ?_
        by_cases hc_4 : (I 4 9) < 0 ∨ 6 ≤ (I 4 9).toNatClampNeg
        · rw [if_pos hc_4] at h; cases h
        · rw [if_neg hc_4] at h
          refine az_E.o (o := az_si az_F (97, (az_u (az_u I 8 (I 4 9).toNatClampNeg a1) 9 (I 4 9).toNatClampNeg a2), J, R) 10 (I 4 9) a3) (pc' := 42) (L' := [.ref 4, .int a1, .int a2, .int a3]) (S' := []) (x := (97, (az_u (az_u (az_u I 8 (I 4 9).toNatClampNeg a1) 9 (I 4 9).toNatClampNeg a2) 10 (I 4 9).toNatClampNeg a3), J, R)) rfl (if_neg hc_4) ?_
          refine az_E.sn 7 (pc' := 53) (L' := [.ref 4, .int a1, .int a2, .int a3]) (S' := [.int (I 4 9)]) (σ' := (97, (az_u (az_u (az_u (az_u I 8 (I 4 9).toNatClampNeg a1) 9 (I 4 9).toNatClampNeg a2) 10 (I 4 9).toNatClampNeg a3) 4 9 ((I 4 9) + (1 : Int32))), J, R)) rfl ?_
          have h := Option.some.inj h
          subst h
          exact az_E.ret (v := some (.int (I 4 9))) (σ' := (97, (az_u (az_u (az_u (az_u I 8 (I 4 9).toNatClampNeg a1) 9 (I 4 9).toNatClampNeg a2) 10 (I 4 9).toNatClampNeg a3) 4 9 ((I 4 9) + (1 : Int32))), J, R)) rfl hQ
  · rw [if_neg hc_1] at h
    refine az_E.sn 1 (pc' := 11) (L' := [.ref 4, .int a1, .int a2, .int a3]) (S' := [.int (-3 : Int32)]) (σ' := (97, I, J, R)) rfl ?_
    have h := Option.some.inj h
    subst h
    exact az_E.ret (v := some (.int (-3 : Int32))) (σ' := (97, I, J, R)) rfl hQ
set_option maxRecDepth 100000 in
set_option maxHeartbeats 4000000 in
theorem re_X_walker {ex : az_X} {I : Nat → Nat → Int32} {J : Nat → Nat → Int64} {R : Nat → Nat → Option Nat} {a1 : Int32} {o : Int32 × (Nat → Nat → Int32)} (h : rs_X_walker I a1 = some o) {Q : Option Value → az_S → Prop} (hQ : Q (some (.int o.1)) (97, o.2, J, R)) : az_E az_F ex 1 85 0 [.ref 3, .int a1] [] (97, I, J, R) Q := by
  unfold rs_X_walker at h
  refine az_E.sn 3 (pc' := 5) (L' := [.ref 3, .int a1]) (S' := [.int (9 : Int32), .int (-9 : Int32), .int a1]) (σ' := (97, I, J, R)) rfl ?_
  refine az_E.call (d := 0) (k' := 131) (vs := [.int a1, .int (-9 : Int32), .int (9 : Int32)]) (pc' := 8) (S' := []) rfl ?_ (fun _ _ hq => hq)
  show az_E az_F ex 0 131 0 [.int a1, .int (-9 : Int32), .int (9 : Int32)] [] (97, I, J, R) _
  refine az_E.sn 2 (pc' := 2) (L' := [.int a1, .int (-9 : Int32), .int (9 : Int32)]) (S' := [.int (-9 : Int32), .int a1]) (σ' := (97, I, J, R)) rfl ?_
  refine az_E.br (c := a1 < (-9 : Int32)) (tt := 14) (ff := 5) (L' := [.int a1, .int (-9 : Int32), .int (9 : Int32)]) (S' := []) (σ' := (97, I, J, R)) rfl (fun hc_1 => ?_) (fun hc_1 => ?_)
  · rw [if_pos hc_1] at h
    refine az_E.sn 1 (pc' := 15) (L' := [.int a1, .int (-9 : Int32), .int (9 : Int32)]) (S' := [.int (0 : Int32)]) (σ' := (97, I, J, R)) rfl ?_
    refine az_E.ret (v := some (.int (0 : Int32))) (σ' := (97, I, J, R)) rfl ?_
    show az_E az_F ex 1 85 8 [.ref 3, .int a1] [.int (0 : Int32)] (97, I, J, R) _
    refine az_E.br (c := (0 : Int32) = 0) (tt := 11) (ff := 13) (L' := [.ref 3, .int a1]) (S' := []) (σ' := (97, I, J, R)) rfl (fun _ => ?_) (fun hn => absurd (by decide) hn)
    refine az_E.sn 1 (pc' := 12) (L' := [.ref 3, .int a1]) (S' := [.int (-1 : Int32)]) (σ' := (97, I, J, R)) rfl ?_
    have h := Option.some.inj h
    subst h
    exact az_E.ret (v := some (.int (-1 : Int32))) (σ' := (97, I, J, R)) rfl hQ
  · rw [if_neg hc_1] at h
    refine az_E.sn 2 (pc' := 7) (L' := [.int a1, .int (-9 : Int32), .int (9 : Int32)]) (S' := [.int (9 : Int32), .int a1]) (σ' := (97, I, J, R)) rfl ?_
    refine az_E.br (c := (9 : Int32) < a1) (tt := 14) (ff := 10) (L' := [.int a1, .int (-9 : Int32), .int (9 : Int32)]) (S' := []) (σ' := (97, I, J, R)) rfl (fun hc_2 => ?_) (fun hc_2 => ?_)
    · rw [if_pos hc_2] at h
      refine az_E.sn 1 (pc' := 15) (L' := [.int a1, .int (-9 : Int32), .int (9 : Int32)]) (S' := [.int (0 : Int32)]) (σ' := (97, I, J, R)) rfl ?_
      refine az_E.ret (v := some (.int (0 : Int32))) (σ' := (97, I, J, R)) rfl ?_
      show az_E az_F ex 1 85 8 [.ref 3, .int a1] [.int (0 : Int32)] (97, I, J, R) _
      refine az_E.br (c := (0 : Int32) = 0) (tt := 11) (ff := 13) (L' := [.ref 3, .int a1]) (S' := []) (σ' := (97, I, J, R)) rfl (fun _ => ?_) (fun hn => absurd (by decide) hn)
      refine az_E.sn 1 (pc' := 12) (L' := [.ref 3, .int a1]) (S' := [.int (-1 : Int32)]) (σ' := (97, I, J, R)) rfl ?_
      have h := Option.some.inj h
      subst h
      exact az_E.ret (v := some (.int (-1 : Int32))) (σ' := (97, I, J, R)) rfl hQ
    · rw [if_neg hc_2] at h
      refine az_E.sn 2 (pc' := 15) (L' := [.int a1, .int (-9 : Int32), .int (9 : Int32)]) (S' := [.int (1 : Int32)]) (σ' := (97, I, J, R)) rfl ?_
      refine az_E.ret (v := some (.int (1 : Int32))) (σ' := (97, I, J, R)) rfl ?_
      show az_E az_F ex 1 85 8 [.ref 3, .int a1] [.int (1 : Int32)] (97, I, J, R) _
      refine az_E.br (c := (1 : Int32) = 0) (tt := 11) (ff := 13) (L' := [.ref 3, .int a1]) (S' := []) (σ' := (97, I, J, R)) rfl (fun hn => absurd hn (by decide)) (fun _ => ?_)
      refine az_E.sn 5 (pc' := 20) (L' := [.ref 3, .int a1]) (S' := [.int (5 : Int32), .int (0 : Int32), .int a1, .ref 4]) (σ' := (97, I, J, R)) rfl ?_
      cases hx_5 : rs_Mo_addWalker I a1 (0 : Int32) (5 : Int32) with
      | none => rw [hx_5] at h; cases h
      | some o =>
        rw [hx_5] at h
        obtain ⟨x_3, I_4⟩ := o
        dsimp only at h
        refine az_E.call (d := 0) (k' := 36) (vs := [.ref 4, .int a1, .int (0 : Int32), .int (5 : Int32)]) (pc' := 23) (S' := []) (Q1 := fun v s => v = some (.int x_3) ∧ s = (97, I_4, J, R)) rfl (az_E.deep (by omega) (re_Mo_addWalker (J := J) (R := R)  hx_5 ⟨rfl, rfl⟩)) (fun v s hq => ?_)
        obtain ⟨rfl, rfl⟩ := hq
        show az_E az_F ex 1 85 23 [.ref 3, .int a1] [.int x_3] (97, I_4, J, R) _
        have h := Option.some.inj h
        subst h
        exact az_E.ret (v := some (.int x_3)) (σ' := (97, I_4, J, R)) rfl hQ
set_option maxRecDepth 100000 in
set_option maxHeartbeats 4000000 in
theorem re_M_mayCome {ex : az_X} {I : Nat → Nat → Int32} {J : Nat → Nat → Int64} {R : Nat → Nat → Option Nat} {a0 : Int64} {a1 : Int64} {a2 : Int64} {o : Int32} (h : rs_M_mayCome a0 a1 a2 = some o) {Q : Option Value → az_S → Prop} (hQ : Q (some (.int o)) (97, I, J, R)) : az_E az_F ex 1 167 0 [.long a0, .retAddr 0, .long a1, .retAddr 0, .long a2, .retAddr 0] [] (97, I, J, R) Q := by
  unfold rs_M_mayCome at h
  refine az_E.sn 3 (pc' := 7) (L' := [.long a0, .retAddr 0, .long a1, .retAddr 0, .long a2, .retAddr 0]) (S' := [.long (9 : Int64), .long (-9 : Int64), .long a0]) (σ' := (97, I, J, R)) rfl ?_
  refine az_E.call (d := 0) (k' := 154) (vs := [.long a0, .long (-9 : Int64), .long (9 : Int64)]) (pc' := 10) (S' := []) rfl ?_ (fun _ _ hq => hq)
  show az_E az_F ex 0 154 0 [.long a0, .retAddr 0, .long (-9 : Int64), .retAddr 0, .long (9 : Int64), .retAddr 0] [] (97, I, J, R) _
  refine az_E.sn 3 (pc' := 3) (L' := [.long a0, .retAddr 0, .long (-9 : Int64), .retAddr 0, .long (9 : Int64), .retAddr 0]) (S' := [.int (lg_cmp a0 (-9 : Int64))]) (σ' := (97, I, J, R)) rfl ?_
  refine az_E.br (c := (lg_cmp a0 (-9 : Int64)) < 0) (tt := 17) (ff := 6) (L' := [.long a0, .retAddr 0, .long (-9 : Int64), .retAddr 0, .long (9 : Int64), .retAddr 0]) (S' := []) (σ' := (97, I, J, R)) rfl (fun hc_1 => ?_) (fun hc_1 => ?_)
  · rw [if_pos hc_1] at h
    refine az_E.sn 1 (pc' := 18) (L' := [.long a0, .retAddr 0, .long (-9 : Int64), .retAddr 0, .long (9 : Int64), .retAddr 0]) (S' := [.int (0 : Int32)]) (σ' := (97, I, J, R)) rfl ?_
    refine az_E.ret (v := some (.int (0 : Int32))) (σ' := (97, I, J, R)) rfl ?_
    show az_E az_F ex 1 167 10 [.long a0, .retAddr 0, .long a1, .retAddr 0, .long a2, .retAddr 0] [.int (0 : Int32)] (97, I, J, R) _
    refine az_E.br (c := (0 : Int32) = 0) (tt := 40) (ff := 13) (L' := [.long a0, .retAddr 0, .long a1, .retAddr 0, .long a2, .retAddr 0]) (S' := []) (σ' := (97, I, J, R)) rfl (fun _ => ?_) (fun hn => absurd (by decide) hn)
    refine az_E.sn 1 (pc' := 41) (L' := [.long a0, .retAddr 0, .long a1, .retAddr 0, .long a2, .retAddr 0]) (S' := [.int (0 : Int32)]) (σ' := (97, I, J, R)) rfl ?_
    have h := Option.some.inj h
    subst h
    exact az_E.ret (v := some (.int (0 : Int32))) (σ' := (97, I, J, R)) rfl hQ
  · rw [if_neg hc_1] at h
    refine az_E.sn 3 (pc' := 10) (L' := [.long a0, .retAddr 0, .long (-9 : Int64), .retAddr 0, .long (9 : Int64), .retAddr 0]) (S' := [.int (lg_cmp a0 (9 : Int64))]) (σ' := (97, I, J, R)) rfl ?_
    refine az_E.br (c := 0 < (lg_cmp a0 (9 : Int64))) (tt := 17) (ff := 13) (L' := [.long a0, .retAddr 0, .long (-9 : Int64), .retAddr 0, .long (9 : Int64), .retAddr 0]) (S' := []) (σ' := (97, I, J, R)) rfl (fun hc_2 => ?_) (fun hc_2 => ?_)
    · rw [if_pos hc_2] at h
      refine az_E.sn 1 (pc' := 18) (L' := [.long a0, .retAddr 0, .long (-9 : Int64), .retAddr 0, .long (9 : Int64), .retAddr 0]) (S' := [.int (0 : Int32)]) (σ' := (97, I, J, R)) rfl ?_
      refine az_E.ret (v := some (.int (0 : Int32))) (σ' := (97, I, J, R)) rfl ?_
      show az_E az_F ex 1 167 10 [.long a0, .retAddr 0, .long a1, .retAddr 0, .long a2, .retAddr 0] [.int (0 : Int32)] (97, I, J, R) _
      refine az_E.br (c := (0 : Int32) = 0) (tt := 40) (ff := 13) (L' := [.long a0, .retAddr 0, .long a1, .retAddr 0, .long a2, .retAddr 0]) (S' := []) (σ' := (97, I, J, R)) rfl (fun _ => ?_) (fun hn => absurd (by decide) hn)
      refine az_E.sn 1 (pc' := 41) (L' := [.long a0, .retAddr 0, .long a1, .retAddr 0, .long a2, .retAddr 0]) (S' := [.int (0 : Int32)]) (σ' := (97, I, J, R)) rfl ?_
      have h := Option.some.inj h
      subst h
      exact az_E.ret (v := some (.int (0 : Int32))) (σ' := (97, I, J, R)) rfl hQ
    · rw [if_neg hc_2] at h
      refine az_E.sn 2 (pc' := 18) (L' := [.long a0, .retAddr 0, .long (-9 : Int64), .retAddr 0, .long (9 : Int64), .retAddr 0]) (S' := [.int (1 : Int32)]) (σ' := (97, I, J, R)) rfl ?_
      refine az_E.ret (v := some (.int (1 : Int32))) (σ' := (97, I, J, R)) rfl ?_
      show az_E az_F ex 1 167 10 [.long a0, .retAddr 0, .long a1, .retAddr 0, .long a2, .retAddr 0] [.int (1 : Int32)] (97, I, J, R) _
      refine az_E.br (c := (1 : Int32) = 0) (tt := 40) (ff := 13) (L' := [.long a0, .retAddr 0, .long a1, .retAddr 0, .long a2, .retAddr 0]) (S' := []) (σ' := (97, I, J, R)) rfl (fun hn => absurd hn (by decide)) (fun _ => ?_)
      refine az_E.sn 3 (pc' := 18) (L' := [.long a0, .retAddr 0, .long a1, .retAddr 0, .long a2, .retAddr 0]) (S' := [.long (9 : Int64), .long (0 : Int64), .long a1]) (σ' := (97, I, J, R)) rfl ?_
      refine az_E.call (d := 0) (k' := 154) (vs := [.long a1, .long (0 : Int64), .long (9 : Int64)]) (pc' := 21) (S' := []) rfl ?_ (fun _ _ hq => hq)
      show az_E az_F ex 0 154 0 [.long a1, .retAddr 0, .long (0 : Int64), .retAddr 0, .long (9 : Int64), .retAddr 0] [] (97, I, J, R) _
      refine az_E.sn 3 (pc' := 3) (L' := [.long a1, .retAddr 0, .long (0 : Int64), .retAddr 0, .long (9 : Int64), .retAddr 0]) (S' := [.int (lg_cmp a1 (0 : Int64))]) (σ' := (97, I, J, R)) rfl ?_
      refine az_E.br (c := (lg_cmp a1 (0 : Int64)) < 0) (tt := 17) (ff := 6) (L' := [.long a1, .retAddr 0, .long (0 : Int64), .retAddr 0, .long (9 : Int64), .retAddr 0]) (S' := []) (σ' := (97, I, J, R)) rfl (fun hc_3 => ?_) (fun hc_3 => ?_)
      · rw [if_pos hc_3] at h
        refine az_E.sn 1 (pc' := 18) (L' := [.long a1, .retAddr 0, .long (0 : Int64), .retAddr 0, .long (9 : Int64), .retAddr 0]) (S' := [.int (0 : Int32)]) (σ' := (97, I, J, R)) rfl ?_
        refine az_E.ret (v := some (.int (0 : Int32))) (σ' := (97, I, J, R)) rfl ?_
        show az_E az_F ex 1 167 21 [.long a0, .retAddr 0, .long a1, .retAddr 0, .long a2, .retAddr 0] [.int (0 : Int32)] (97, I, J, R) _
        refine az_E.br (c := (0 : Int32) = 0) (tt := 40) (ff := 24) (L' := [.long a0, .retAddr 0, .long a1, .retAddr 0, .long a2, .retAddr 0]) (S' := []) (σ' := (97, I, J, R)) rfl (fun _ => ?_) (fun hn => absurd (by decide) hn)
        refine az_E.sn 1 (pc' := 41) (L' := [.long a0, .retAddr 0, .long a1, .retAddr 0, .long a2, .retAddr 0]) (S' := [.int (0 : Int32)]) (σ' := (97, I, J, R)) rfl ?_
        have h := Option.some.inj h
        subst h
        exact az_E.ret (v := some (.int (0 : Int32))) (σ' := (97, I, J, R)) rfl hQ
      · rw [if_neg hc_3] at h
        refine az_E.sn 3 (pc' := 10) (L' := [.long a1, .retAddr 0, .long (0 : Int64), .retAddr 0, .long (9 : Int64), .retAddr 0]) (S' := [.int (lg_cmp a1 (9 : Int64))]) (σ' := (97, I, J, R)) rfl ?_
        refine az_E.br (c := 0 < (lg_cmp a1 (9 : Int64))) (tt := 17) (ff := 13) (L' := [.long a1, .retAddr 0, .long (0 : Int64), .retAddr 0, .long (9 : Int64), .retAddr 0]) (S' := []) (σ' := (97, I, J, R)) rfl (fun hc_4 => ?_) (fun hc_4 => ?_)
        · rw [if_pos hc_4] at h
          refine az_E.sn 1 (pc' := 18) (L' := [.long a1, .retAddr 0, .long (0 : Int64), .retAddr 0, .long (9 : Int64), .retAddr 0]) (S' := [.int (0 : Int32)]) (σ' := (97, I, J, R)) rfl ?_
          refine az_E.ret (v := some (.int (0 : Int32))) (σ' := (97, I, J, R)) rfl ?_
          show az_E az_F ex 1 167 21 [.long a0, .retAddr 0, .long a1, .retAddr 0, .long a2, .retAddr 0] [.int (0 : Int32)] (97, I, J, R) _
          refine az_E.br (c := (0 : Int32) = 0) (tt := 40) (ff := 24) (L' := [.long a0, .retAddr 0, .long a1, .retAddr 0, .long a2, .retAddr 0]) (S' := []) (σ' := (97, I, J, R)) rfl (fun _ => ?_) (fun hn => absurd (by decide) hn)
          refine az_E.sn 1 (pc' := 41) (L' := [.long a0, .retAddr 0, .long a1, .retAddr 0, .long a2, .retAddr 0]) (S' := [.int (0 : Int32)]) (σ' := (97, I, J, R)) rfl ?_
          have h := Option.some.inj h
          subst h
          exact az_E.ret (v := some (.int (0 : Int32))) (σ' := (97, I, J, R)) rfl hQ
        · rw [if_neg hc_4] at h
          refine az_E.sn 2 (pc' := 18) (L' := [.long a1, .retAddr 0, .long (0 : Int64), .retAddr 0, .long (9 : Int64), .retAddr 0]) (S' := [.int (1 : Int32)]) (σ' := (97, I, J, R)) rfl ?_
          refine az_E.ret (v := some (.int (1 : Int32))) (σ' := (97, I, J, R)) rfl ?_
          show az_E az_F ex 1 167 21 [.long a0, .retAddr 0, .long a1, .retAddr 0, .long a2, .retAddr 0] [.int (1 : Int32)] (97, I, J, R) _
          refine az_E.br (c := (1 : Int32) = 0) (tt := 40) (ff := 24) (L' := [.long a0, .retAddr 0, .long a1, .retAddr 0, .long a2, .retAddr 0]) (S' := []) (σ' := (97, I, J, R)) rfl (fun hn => absurd hn (by decide)) (fun _ => ?_)
          refine az_E.sn 3 (pc' := 30) (L' := [.long a0, .retAddr 0, .long a1, .retAddr 0, .long a2, .retAddr 0]) (S' := [.long (9 : Int64), .long (1 : Int64), .long a2]) (σ' := (97, I, J, R)) rfl ?_
          refine az_E.call (d := 0) (k' := 154) (vs := [.long a2, .long (1 : Int64), .long (9 : Int64)]) (pc' := 33) (S' := []) rfl ?_ (fun _ _ hq => hq)
          show az_E az_F ex 0 154 0 [.long a2, .retAddr 0, .long (1 : Int64), .retAddr 0, .long (9 : Int64), .retAddr 0] [] (97, I, J, R) _
          refine az_E.sn 3 (pc' := 3) (L' := [.long a2, .retAddr 0, .long (1 : Int64), .retAddr 0, .long (9 : Int64), .retAddr 0]) (S' := [.int (lg_cmp a2 (1 : Int64))]) (σ' := (97, I, J, R)) rfl ?_
          refine az_E.br (c := (lg_cmp a2 (1 : Int64)) < 0) (tt := 17) (ff := 6) (L' := [.long a2, .retAddr 0, .long (1 : Int64), .retAddr 0, .long (9 : Int64), .retAddr 0]) (S' := []) (σ' := (97, I, J, R)) rfl (fun hc_5 => ?_) (fun hc_5 => ?_)
          · rw [if_pos hc_5] at h
            refine az_E.sn 1 (pc' := 18) (L' := [.long a2, .retAddr 0, .long (1 : Int64), .retAddr 0, .long (9 : Int64), .retAddr 0]) (S' := [.int (0 : Int32)]) (σ' := (97, I, J, R)) rfl ?_
            refine az_E.ret (v := some (.int (0 : Int32))) (σ' := (97, I, J, R)) rfl ?_
            show az_E az_F ex 1 167 33 [.long a0, .retAddr 0, .long a1, .retAddr 0, .long a2, .retAddr 0] [.int (0 : Int32)] (97, I, J, R) _
            refine az_E.br (c := (0 : Int32) = 0) (tt := 40) (ff := 36) (L' := [.long a0, .retAddr 0, .long a1, .retAddr 0, .long a2, .retAddr 0]) (S' := []) (σ' := (97, I, J, R)) rfl (fun _ => ?_) (fun hn => absurd (by decide) hn)
            refine az_E.sn 1 (pc' := 41) (L' := [.long a0, .retAddr 0, .long a1, .retAddr 0, .long a2, .retAddr 0]) (S' := [.int (0 : Int32)]) (σ' := (97, I, J, R)) rfl ?_
            have h := Option.some.inj h
            subst h
            exact az_E.ret (v := some (.int (0 : Int32))) (σ' := (97, I, J, R)) rfl hQ
          · rw [if_neg hc_5] at h
            refine az_E.sn 3 (pc' := 10) (L' := [.long a2, .retAddr 0, .long (1 : Int64), .retAddr 0, .long (9 : Int64), .retAddr 0]) (S' := [.int (lg_cmp a2 (9 : Int64))]) (σ' := (97, I, J, R)) rfl ?_
            refine az_E.br (c := 0 < (lg_cmp a2 (9 : Int64))) (tt := 17) (ff := 13) (L' := [.long a2, .retAddr 0, .long (1 : Int64), .retAddr 0, .long (9 : Int64), .retAddr 0]) (S' := []) (σ' := (97, I, J, R)) rfl (fun hc_6 => ?_) (fun hc_6 => ?_)
            · rw [if_pos hc_6] at h
              refine az_E.sn 1 (pc' := 18) (L' := [.long a2, .retAddr 0, .long (1 : Int64), .retAddr 0, .long (9 : Int64), .retAddr 0]) (S' := [.int (0 : Int32)]) (σ' := (97, I, J, R)) rfl ?_
              refine az_E.ret (v := some (.int (0 : Int32))) (σ' := (97, I, J, R)) rfl ?_
              show az_E az_F ex 1 167 33 [.long a0, .retAddr 0, .long a1, .retAddr 0, .long a2, .retAddr 0] [.int (0 : Int32)] (97, I, J, R) _
              refine az_E.br (c := (0 : Int32) = 0) (tt := 40) (ff := 36) (L' := [.long a0, .retAddr 0, .long a1, .retAddr 0, .long a2, .retAddr 0]) (S' := []) (σ' := (97, I, J, R)) rfl (fun _ => ?_) (fun hn => absurd (by decide) hn)
              refine az_E.sn 1 (pc' := 41) (L' := [.long a0, .retAddr 0, .long a1, .retAddr 0, .long a2, .retAddr 0]) (S' := [.int (0 : Int32)]) (σ' := (97, I, J, R)) rfl ?_
              have h := Option.some.inj h
              subst h
              exact az_E.ret (v := some (.int (0 : Int32))) (σ' := (97, I, J, R)) rfl hQ
            · rw [if_neg hc_6] at h
              refine az_E.sn 2 (pc' := 18) (L' := [.long a2, .retAddr 0, .long (1 : Int64), .retAddr 0, .long (9 : Int64), .retAddr 0]) (S' := [.int (1 : Int32)]) (σ' := (97, I, J, R)) rfl ?_
              refine az_E.ret (v := some (.int (1 : Int32))) (σ' := (97, I, J, R)) rfl ?_
              show az_E az_F ex 1 167 33 [.long a0, .retAddr 0, .long a1, .retAddr 0, .long a2, .retAddr 0] [.int (1 : Int32)] (97, I, J, R) _
              refine az_E.br (c := (1 : Int32) = 0) (tt := 40) (ff := 36) (L' := [.long a0, .retAddr 0, .long a1, .retAddr 0, .long a2, .retAddr 0]) (S' := []) (σ' := (97, I, J, R)) rfl (fun hn => absurd hn (by decide)) (fun _ => ?_)
              refine az_E.sn 2 (pc' := 41) (L' := [.long a0, .retAddr 0, .long a1, .retAddr 0, .long a2, .retAddr 0]) (S' := [.int (1 : Int32)]) (σ' := (97, I, J, R)) rfl ?_
              have h := Option.some.inj h
              subst h
              exact az_E.ret (v := some (.int (1 : Int32))) (σ' := (97, I, J, R)) rfl hQ
set_option maxRecDepth 100000 in
set_option maxHeartbeats 4000000 in
theorem re_M_adds {ex : az_X} {I : Nat → Nat → Int32} {J : Nat → Nat → Int64} {R : Nat → Nat → Option Nat} {a1 : Int32} {a2 : Int32} {a3 : Int32} {o : (Nat → Nat → Int32)} (h : rs_M_adds I a1 a2 a3 = some o) {Q : Option Value → az_S → Prop} (hQ : Q none (97, o, J, R)) : az_E az_F ex 0 168 0 [.ref 73, .int a1, .int a2, .int a3] [] (97, I, J, R) Q := by
  unfold rs_M_adds at h
  refine az_E.sn 7 (pc' := 13) (L' := [.ref 73, .int a1, .int a2, .int a3]) (S' := [.int a1, .int ((160 : Int32) + (I 73 7)), .ref 74]) (σ' := (97, I, J, R)) rfl ?_
  by_cases hc_1 : ((160 : Int32) + (I 73 7)) < 0 ∨ 179 ≤ ((160 : Int32) + (I 73 7)).toNatClampNeg
  · rw [if_pos hc_1] at h; cases h
  · rw [if_neg hc_1] at h
    refine az_E.o (o := az_si az_F (97, I, J, R) 74 ((160 : Int32) + (I 73 7)) a1) (pc' := 14) (L' := [.ref 73, .int a1, .int a2, .int a3]) (S' := []) (x := (97, (az_u I 74 ((160 : Int32) + (I 73 7)).toNatClampNeg a1), J, R)) rfl (if_neg hc_1) ?_
    refine az_E.sn 7 (pc' := 27) (L' := [.ref 73, .int a1, .int a2, .int a3]) (S' := [.int a2, .int ((166 : Int32) + (I 73 7)), .ref 74]) (σ' := (97, (az_u I 74 ((160 : Int32) + (I 73 7)).toNatClampNeg a1), J, R)) rfl ?_
    by_cases hc_2 : ((166 : Int32) + (I 73 7)) < 0 ∨ 179 ≤ ((166 : Int32) + (I 73 7)).toNatClampNeg
    · rw [if_pos hc_2] at h; cases h
    · rw [if_neg hc_2] at h
      refine az_E.o (o := az_si az_F (97, (az_u I 74 ((160 : Int32) + (I 73 7)).toNatClampNeg a1), J, R) 74 ((166 : Int32) + (I 73 7)) a2) (pc' := 28) (L' := [.ref 73, .int a1, .int a2, .int a3]) (S' := []) (x := (97, (az_u (az_u I 74 ((160 : Int32) + (I 73 7)).toNatClampNeg a1) 74 ((166 : Int32) + (I 73 7)).toNatClampNeg a2), J, R)) rfl (if_neg hc_2) ?_
      refine az_E.sn 7 (pc' := 41) (L' := [.ref 73, .int a1, .int a2, .int a3]) (S' := [.int a3, .int ((172 : Int32) + (I 73 7)), .ref 74]) (σ' := (97, (az_u (az_u I 74 ((160 : Int32) + (I 73 7)).toNatClampNeg a1) 74 ((166 : Int32) + (I 73 7)).toNatClampNeg a2), J, R)) rfl ?_
      by_cases hc_3 : ((172 : Int32) + (I 73 7)) < 0 ∨ 179 ≤ ((172 : Int32) + (I 73 7)).toNatClampNeg
      · rw [if_pos hc_3] at h; cases h
      · rw [if_neg hc_3] at h
        refine az_E.o (o := az_si az_F (97, (az_u (az_u I 74 ((160 : Int32) + (I 73 7)).toNatClampNeg a1) 74 ((166 : Int32) + (I 73 7)).toNatClampNeg a2), J, R) 74 ((172 : Int32) + (I 73 7)) a3) (pc' := 42) (L' := [.ref 73, .int a1, .int a2, .int a3]) (S' := []) (x := (97, (az_u (az_u (az_u I 74 ((160 : Int32) + (I 73 7)).toNatClampNeg a1) 74 ((166 : Int32) + (I 73 7)).toNatClampNeg a2) 74 ((172 : Int32) + (I 73 7)).toNatClampNeg a3), J, R)) rfl (if_neg hc_3) ?_
        refine az_E.sn 5 (pc' := 51) (L' := [.ref 73, .int a1, .int a2, .int a3]) (S' := [.int (0 : Int32), .int (I 73 7), .ref 78]) (σ' := (97, (az_u (az_u (az_u I 74 ((160 : Int32) + (I 73 7)).toNatClampNeg a1) 74 ((166 : Int32) + (I 73 7)).toNatClampNeg a2) 74 ((172 : Int32) + (I 73 7)).toNatClampNeg a3), J, R)) rfl ?_
        by_cases hc_4 : (I 73 7) < 0 ∨ 6 ≤ (I 73 7).toNatClampNeg
        · rw [if_pos hc_4] at h; cases h
        · rw [if_neg hc_4] at h
          refine az_E.o (o := az_si az_F (97, (az_u (az_u (az_u I 74 ((160 : Int32) + (I 73 7)).toNatClampNeg a1) 74 ((166 : Int32) + (I 73 7)).toNatClampNeg a2) 74 ((172 : Int32) + (I 73 7)).toNatClampNeg a3), J, R) 78 (I 73 7) (0 : Int32)) (pc' := 52) (L' := [.ref 73, .int a1, .int a2, .int a3]) (S' := []) (x := (97, (az_u (az_u (az_u (az_u I 74 ((160 : Int32) + (I 73 7)).toNatClampNeg a1) 74 ((166 : Int32) + (I 73 7)).toNatClampNeg a2) 74 ((172 : Int32) + (I 73 7)).toNatClampNeg a3) 78 (I 73 7).toNatClampNeg (0 : Int32)), J, R)) rfl (if_neg hc_4) ?_
          refine az_E.sn 5 (pc' := 61) (L' := [.ref 73, .int a1, .int a2, .int a3]) (S' := [.int (0 : Int32), .int (I 73 7), .ref 79]) (σ' := (97, (az_u (az_u (az_u (az_u I 74 ((160 : Int32) + (I 73 7)).toNatClampNeg a1) 74 ((166 : Int32) + (I 73 7)).toNatClampNeg a2) 74 ((172 : Int32) + (I 73 7)).toNatClampNeg a3) 78 (I 73 7).toNatClampNeg (0 : Int32)), J, R)) rfl ?_
          by_cases hc_5 : (I 73 7) < 0 ∨ 6 ≤ (I 73 7).toNatClampNeg
          · rw [if_pos hc_5] at h; cases h
          · rw [if_neg hc_5] at h
            refine az_E.o (o := az_si az_F (97, (az_u (az_u (az_u (az_u I 74 ((160 : Int32) + (I 73 7)).toNatClampNeg a1) 74 ((166 : Int32) + (I 73 7)).toNatClampNeg a2) 74 ((172 : Int32) + (I 73 7)).toNatClampNeg a3) 78 (I 73 7).toNatClampNeg (0 : Int32)), J, R) 79 (I 73 7) (0 : Int32)) (pc' := 62) (L' := [.ref 73, .int a1, .int a2, .int a3]) (S' := []) (x := (97, (az_u (az_u (az_u (az_u (az_u I 74 ((160 : Int32) + (I 73 7)).toNatClampNeg a1) 74 ((166 : Int32) + (I 73 7)).toNatClampNeg a2) 74 ((172 : Int32) + (I 73 7)).toNatClampNeg a3) 78 (I 73 7).toNatClampNeg (0 : Int32)) 79 (I 73 7).toNatClampNeg (0 : Int32)), J, R)) rfl (if_neg hc_5) ?_
            refine az_E.sn 6 (pc' := 72) (L' := [.ref 73, .int a1, .int a2, .int a3]) (S' := []) (σ' := (97, (az_u (az_u (az_u (az_u (az_u (az_u I 74 ((160 : Int32) + (I 73 7)).toNatClampNeg a1) 74 ((166 : Int32) + (I 73 7)).toNatClampNeg a2) 74 ((172 : Int32) + (I 73 7)).toNatClampNeg a3) 78 (I 73 7).toNatClampNeg (0 : Int32)) 79 (I 73 7).toNatClampNeg (0 : Int32)) 73 7 ((I 73 7) + (1 : Int32))), J, R)) rfl ?_
            have h := Option.some.inj h
            subst h
            exact az_E.ret (v := none) (σ' := (97, (az_u (az_u (az_u (az_u (az_u (az_u I 74 ((160 : Int32) + (I 73 7)).toNatClampNeg a1) 74 ((166 : Int32) + (I 73 7)).toNatClampNeg a2) 74 ((172 : Int32) + (I 73 7)).toNatClampNeg a3) 78 (I 73 7).toNatClampNeg (0 : Int32)) 79 (I 73 7).toNatClampNeg (0 : Int32)) 73 7 ((I 73 7) + (1 : Int32))), J, R)) rfl hQ
set_option maxRecDepth 100000 in
set_option maxHeartbeats 4000000 in
theorem re_M_walker {ex : az_X} {I : Nat → Nat → Int32} {J : Nat → Nat → Int64} {R : Nat → Nat → Option Nat} {a1 : Int32} {o : Int32 × (Nat → Nat → Int32)} (h : rs_M_walker I a1 = some o) {Q : Option Value → az_S → Prop} (hQ : Q (some (.int o.1)) (97, o.2, J, R)) : az_E az_F ex 2 169 0 [.ref 73, .int a1] [] (97, I, J, R) Q := by
  unfold rs_M_walker at h
  refine az_E.sn 4 (pc' := 6) (L' := [.ref 73, .int a1]) (S' := [.long (5 : Int64), .long (0 : Int64), .long a1.toInt64]) (σ' := (97, I, J, R)) rfl ?_
  cases hx_2 : rs_M_mayCome a1.toInt64 (0 : Int64) (5 : Int64) with
  | none => rw [hx_2] at h; cases h
  | some x_1 =>
    rw [hx_2] at h
    dsimp only at h
    refine az_E.call (d := 1) (k' := 167) (vs := [.long a1.toInt64, .long (0 : Int64), .long (5 : Int64)]) (pc' := 9) (S' := []) (Q1 := fun v s => v = some (.int x_1) ∧ s = (97, I, J, R)) rfl (az_E.deep (by omega) (re_M_mayCome (J := J) (R := R)  hx_2 ⟨rfl, rfl⟩)) (fun v s hq => ?_)
    obtain ⟨rfl, rfl⟩ := hq
    show az_E az_F ex 2 169 9 [.ref 73, .int a1] [.int x_1] (97, I, J, R) _
    refine az_E.br (c := x_1 = 0) (tt := 12) (ff := 14) (L' := [.ref 73, .int a1]) (S' := []) (σ' := (97, I, J, R)) rfl (fun hc_3 => ?_) (fun hc_3 => ?_)
    · rw [if_pos hc_3] at h
      refine az_E.sn 1 (pc' := 13) (L' := [.ref 73, .int a1]) (S' := [.int (-1 : Int32)]) (σ' := (97, I, J, R)) rfl ?_
      have h := Option.some.inj h
      subst h
      exact az_E.ret (v := some (.int (-1 : Int32))) (σ' := (97, I, J, R)) rfl hQ
    · rw [if_neg hc_3] at h
      refine az_E.sn 3 (pc' := 20) (L' := [.ref 73, .int a1]) (S' := [.int (6 : Int32), .int (I 73 7)]) (σ' := (97, I, J, R)) rfl ?_
      refine az_E.br (c := (I 73 7) = (6 : Int32)) (tt := 23) (ff := 26) (L' := [.ref 73, .int a1]) (S' := []) (σ' := (97, I, J, R)) rfl (fun hc_4 => ?_) (fun hc_4 => ?_)
      · rw [if_pos hc_4] at h
        refine az_E.sn 1 (pc' := 25) (L' := [.ref 73, .int a1]) (S' := [.int (-3 : Int32)]) (σ' := (97, I, J, R)) rfl ?_
        have h := Option.some.inj h
        subst h
        exact az_E.ret (v := some (.int (-3 : Int32))) (σ' := (97, I, J, R)) rfl hQ
      · rw [if_neg hc_4] at h
        refine az_E.sn 4 (pc' := 30) (L' := [.ref 73, .int a1]) (S' := [.int (5 : Int32), .int (0 : Int32), .int a1, .ref 73]) (σ' := (97, I, J, R)) rfl ?_
        cases hx_6 : rs_M_adds I a1 (0 : Int32) (5 : Int32) with
        | none => rw [hx_6] at h; cases h
        | some I_5 =>
          rw [hx_6] at h
          dsimp only at h
          refine az_E.call (d := 1) (k' := 168) (vs := [.ref 73, .int a1, .int (0 : Int32), .int (5 : Int32)]) (pc' := 33) (S' := []) (Q1 := fun v s => v = none ∧ s = (97, I_5, J, R)) rfl (az_E.deep (by omega) (re_M_adds (J := J) (R := R)  hx_6 ⟨rfl, rfl⟩)) (fun v s hq => ?_)
          obtain ⟨rfl, rfl⟩ := hq
          show az_E az_F ex 2 169 33 [.ref 73, .int a1] [] (97, I_5, J, R) _
          refine az_E.sn 4 (pc' := 39) (L' := [.ref 73, .int a1]) (S' := [.int ((I_5 73 7) - (1 : Int32))]) (σ' := (97, I_5, J, R)) rfl ?_
          have h := Option.some.inj h
          subst h
          exact az_E.ret (v := some (.int ((I_5 73 7) - (1 : Int32)))) (σ' := (97, I_5, J, R)) rfl hQ
set_option maxRecDepth 100000 in
set_option maxHeartbeats 4000000 in
theorem re_Mo_isFit_52 {ex : az_X} {I : Nat → Nat → Int32} {J : Nat → Nat → Int64} {R : Nat → Nat → Option Nat} {v1 : Int32} {x : Int32} (h : rs_Mo_isFit_52 v1 = some x) {Q : Option Value → az_S → Prop} (hQ : Q (some (.int x)) (97, I, J, R)) : az_E az_F ex 2 38 52 [.retAddr 0, .int v1] [] (97, I, J, R) Q := by
  unfold rs_Mo_isFit_52 at h
  refine az_E.sn 1 (pc' := 53) (L' := [.retAddr 0, .int v1]) (S' := [.int v1]) (σ' := (97, I, J, R)) rfl ?_
  refine az_E.call (d := 1) (k' := 133) (vs := [.int v1]) (pc' := 56) (S' := []) rfl ?_ (fun _ _ hq => hq)
  show az_E az_F ex 1 133 0 [.int v1] [] (97, I, J, R) _
  refine az_E.sn 3 (pc' := 5) (L' := [.int v1]) (S' := [.int (143 : Int32), .int (0 : Int32), .int v1]) (σ' := (97, I, J, R)) rfl ?_
  refine az_E.call (d := 0) (k' := 131) (vs := [.int v1, .int (0 : Int32), .int (143 : Int32)]) (pc' := 8) (S' := []) rfl ?_ (fun _ _ hq => hq)
  show az_E az_F ex 0 131 0 [.int v1, .int (0 : Int32), .int (143 : Int32)] [] (97, I, J, R) _
  refine az_E.sn 2 (pc' := 2) (L' := [.int v1, .int (0 : Int32), .int (143 : Int32)]) (S' := [.int (0 : Int32), .int v1]) (σ' := (97, I, J, R)) rfl ?_
  refine az_E.br (c := v1 < (0 : Int32)) (tt := 14) (ff := 5) (L' := [.int v1, .int (0 : Int32), .int (143 : Int32)]) (S' := []) (σ' := (97, I, J, R)) rfl (fun hc_5 => ?_) (fun hc_5 => ?_)
  · rw [if_pos hc_5] at h
    refine az_E.sn 1 (pc' := 15) (L' := [.int v1, .int (0 : Int32), .int (143 : Int32)]) (S' := [.int (0 : Int32)]) (σ' := (97, I, J, R)) rfl ?_
    refine az_E.ret (v := some (.int (0 : Int32))) (σ' := (97, I, J, R)) rfl ?_
    show az_E az_F ex 1 133 8 [.int v1] [.int (0 : Int32)] (97, I, J, R) _
    refine az_E.ret (v := some (.int (0 : Int32))) (σ' := (97, I, J, R)) rfl ?_
    show az_E az_F ex 2 38 56 [.retAddr 0, .int v1] [.int (0 : Int32)] (97, I, J, R) _
    have h := Option.some.inj h
    subst h
    exact az_E.ret (v := some (.int (0 : Int32))) (σ' := (97, I, J, R)) rfl hQ
  · rw [if_neg hc_5] at h
    refine az_E.sn 2 (pc' := 7) (L' := [.int v1, .int (0 : Int32), .int (143 : Int32)]) (S' := [.int (143 : Int32), .int v1]) (σ' := (97, I, J, R)) rfl ?_
    refine az_E.br (c := (143 : Int32) < v1) (tt := 14) (ff := 10) (L' := [.int v1, .int (0 : Int32), .int (143 : Int32)]) (S' := []) (σ' := (97, I, J, R)) rfl (fun hc_6 => ?_) (fun hc_6 => ?_)
    · rw [if_pos hc_6] at h
      refine az_E.sn 1 (pc' := 15) (L' := [.int v1, .int (0 : Int32), .int (143 : Int32)]) (S' := [.int (0 : Int32)]) (σ' := (97, I, J, R)) rfl ?_
      refine az_E.ret (v := some (.int (0 : Int32))) (σ' := (97, I, J, R)) rfl ?_
      show az_E az_F ex 1 133 8 [.int v1] [.int (0 : Int32)] (97, I, J, R) _
      refine az_E.ret (v := some (.int (0 : Int32))) (σ' := (97, I, J, R)) rfl ?_
      show az_E az_F ex 2 38 56 [.retAddr 0, .int v1] [.int (0 : Int32)] (97, I, J, R) _
      have h := Option.some.inj h
      subst h
      exact az_E.ret (v := some (.int (0 : Int32))) (σ' := (97, I, J, R)) rfl hQ
    · rw [if_neg hc_6] at h
      refine az_E.sn 2 (pc' := 15) (L' := [.int v1, .int (0 : Int32), .int (143 : Int32)]) (S' := [.int (1 : Int32)]) (σ' := (97, I, J, R)) rfl ?_
      refine az_E.ret (v := some (.int (1 : Int32))) (σ' := (97, I, J, R)) rfl ?_
      show az_E az_F ex 1 133 8 [.int v1] [.int (1 : Int32)] (97, I, J, R) _
      refine az_E.ret (v := some (.int (1 : Int32))) (σ' := (97, I, J, R)) rfl ?_
      show az_E az_F ex 2 38 56 [.retAddr 0, .int v1] [.int (1 : Int32)] (97, I, J, R) _
      have h := Option.some.inj h
      subst h
      exact az_E.ret (v := some (.int (1 : Int32))) (σ' := (97, I, J, R)) rfl hQ
set_option maxRecDepth 100000 in
set_option maxHeartbeats 4000000 in
theorem re_Mo_isFit {ex : az_X} {I : Nat → Nat → Int32} {J : Nat → Nat → Int64} {R : Nat → Nat → Option Nat} {a0 : Int32} {a1 : Int32} {o : Int32} (h : rs_Mo_isFit a0 a1 = some o) {Q : Option Value → az_S → Prop} (hQ : Q (some (.int o)) (97, I, J, R)) : az_E az_F ex 2 38 0 [.int a0, .int a1] [] (97, I, J, R) Q := by
  unfold rs_Mo_isFit at h
  refine az_E.sn 1 (pc' := 1) (L' := [.int a0, .int a1]) (S' := [.int a0]) (σ' := (97, I, J, R)) rfl ?_
  by_cases hc_1 : a0 = (0 : Int32)
  · rw [if_pos hc_1] at h
    refine az_E.sw hc_1 (pc' := 44) (L' := [.int a0, .int a1]) (S' := []) (σ' := (97, I, J, R)) rfl ?_
    refine az_E.sn 3 (pc' := 48) (L' := [.int a0, .int a1]) (S' := [.int (9 : Int32), .int (0 : Int32), .int a1]) (σ' := (97, I, J, R)) rfl ?_
    refine az_E.call (d := 1) (k' := 131) (vs := [.int a1, .int (0 : Int32), .int (9 : Int32)]) (pc' := 51) (S' := []) rfl ?_ (fun _ _ hq => hq)
    show az_E az_F ex 1 131 0 [.int a1, .int (0 : Int32), .int (9 : Int32)] [] (97, I, J, R) _
    refine az_E.sn 2 (pc' := 2) (L' := [.int a1, .int (0 : Int32), .int (9 : Int32)]) (S' := [.int (0 : Int32), .int a1]) (σ' := (97, I, J, R)) rfl ?_
    refine az_E.br (c := a1 < (0 : Int32)) (tt := 14) (ff := 5) (L' := [.int a1, .int (0 : Int32), .int (9 : Int32)]) (S' := []) (σ' := (97, I, J, R)) rfl (fun hc_2 => ?_) (fun hc_2 => ?_)
    · rw [if_pos hc_2] at h
      refine az_E.sn 1 (pc' := 15) (L' := [.int a1, .int (0 : Int32), .int (9 : Int32)]) (S' := [.int (0 : Int32)]) (σ' := (97, I, J, R)) rfl ?_
      refine az_E.ret (v := some (.int (0 : Int32))) (σ' := (97, I, J, R)) rfl ?_
      show az_E az_F ex 2 38 51 [.int a0, .int a1] [.int (0 : Int32)] (97, I, J, R) _
      have h := Option.some.inj h
      subst h
      exact az_E.ret (v := some (.int (0 : Int32))) (σ' := (97, I, J, R)) rfl hQ
    · rw [if_neg hc_2] at h
      refine az_E.sn 2 (pc' := 7) (L' := [.int a1, .int (0 : Int32), .int (9 : Int32)]) (S' := [.int (9 : Int32), .int a1]) (σ' := (97, I, J, R)) rfl ?_
      refine az_E.br (c := (9 : Int32) < a1) (tt := 14) (ff := 10) (L' := [.int a1, .int (0 : Int32), .int (9 : Int32)]) (S' := []) (σ' := (97, I, J, R)) rfl (fun hc_3 => ?_) (fun hc_3 => ?_)
      · rw [if_pos hc_3] at h
        refine az_E.sn 1 (pc' := 15) (L' := [.int a1, .int (0 : Int32), .int (9 : Int32)]) (S' := [.int (0 : Int32)]) (σ' := (97, I, J, R)) rfl ?_
        refine az_E.ret (v := some (.int (0 : Int32))) (σ' := (97, I, J, R)) rfl ?_
        show az_E az_F ex 2 38 51 [.int a0, .int a1] [.int (0 : Int32)] (97, I, J, R) _
        have h := Option.some.inj h
        subst h
        exact az_E.ret (v := some (.int (0 : Int32))) (σ' := (97, I, J, R)) rfl hQ
      · rw [if_neg hc_3] at h
        refine az_E.sn 2 (pc' := 15) (L' := [.int a1, .int (0 : Int32), .int (9 : Int32)]) (S' := [.int (1 : Int32)]) (σ' := (97, I, J, R)) rfl ?_
        refine az_E.ret (v := some (.int (1 : Int32))) (σ' := (97, I, J, R)) rfl ?_
        show az_E az_F ex 2 38 51 [.int a0, .int a1] [.int (1 : Int32)] (97, I, J, R) _
        have h := Option.some.inj h
        subst h
        exact az_E.ret (v := some (.int (1 : Int32))) (σ' := (97, I, J, R)) rfl hQ
  · rw [if_neg hc_1] at h
    by_cases hc_4 : a0 = (1 : Int32)
    · rw [if_pos hc_4] at h
      refine az_E.sw hc_4 (pc' := 52) (L' := [.int a0, .int a1]) (S' := []) (σ' := (97, I, J, R)) rfl ?_
      exact az_E.forget (L := [.retAddr 0, .int a1]) ⟨trivial, rfl, trivial⟩ (re_Mo_isFit_52 (I := I) (J := J) (R := R)  h hQ)
    · rw [if_neg hc_4] at h
      by_cases hc_7 : a0 = (2 : Int32)
      · rw [if_pos hc_7] at h
        refine az_E.sw hc_7 (pc' := 52) (L' := [.int a0, .int a1]) (S' := []) (σ' := (97, I, J, R)) rfl ?_
        exact az_E.forget (L := [.retAddr 0, .int a1]) ⟨trivial, rfl, trivial⟩ (re_Mo_isFit_52 (I := I) (J := J) (R := R)  h hQ)
      · rw [if_neg hc_7] at h
        by_cases hc_8 : a0 = (3 : Int32)
        · rw [if_pos hc_8] at h
          refine az_E.sw hc_8 (pc' := 57) (L' := [.int a0, .int a1]) (S' := []) (σ' := (97, I, J, R)) rfl ?_
          refine az_E.sn 3 (pc' := 62) (L' := [.int a0, .int a1]) (S' := [.int (9 : Int32), .int (-9 : Int32), .int a1]) (σ' := (97, I, J, R)) rfl ?_
          refine az_E.call (d := 1) (k' := 131) (vs := [.int a1, .int (-9 : Int32), .int (9 : Int32)]) (pc' := 65) (S' := []) rfl ?_ (fun _ _ hq => hq)
          show az_E az_F ex 1 131 0 [.int a1, .int (-9 : Int32), .int (9 : Int32)] [] (97, I, J, R) _
          refine az_E.sn 2 (pc' := 2) (L' := [.int a1, .int (-9 : Int32), .int (9 : Int32)]) (S' := [.int (-9 : Int32), .int a1]) (σ' := (97, I, J, R)) rfl ?_
          refine az_E.br (c := a1 < (-9 : Int32)) (tt := 14) (ff := 5) (L' := [.int a1, .int (-9 : Int32), .int (9 : Int32)]) (S' := []) (σ' := (97, I, J, R)) rfl (fun hc_9 => ?_) (fun hc_9 => ?_)
          · rw [if_pos hc_9] at h
            refine az_E.sn 1 (pc' := 15) (L' := [.int a1, .int (-9 : Int32), .int (9 : Int32)]) (S' := [.int (0 : Int32)]) (σ' := (97, I, J, R)) rfl ?_
            refine az_E.ret (v := some (.int (0 : Int32))) (σ' := (97, I, J, R)) rfl ?_
            show az_E az_F ex 2 38 65 [.int a0, .int a1] [.int (0 : Int32)] (97, I, J, R) _
            have h := Option.some.inj h
            subst h
            exact az_E.ret (v := some (.int (0 : Int32))) (σ' := (97, I, J, R)) rfl hQ
          · rw [if_neg hc_9] at h
            refine az_E.sn 2 (pc' := 7) (L' := [.int a1, .int (-9 : Int32), .int (9 : Int32)]) (S' := [.int (9 : Int32), .int a1]) (σ' := (97, I, J, R)) rfl ?_
            refine az_E.br (c := (9 : Int32) < a1) (tt := 14) (ff := 10) (L' := [.int a1, .int (-9 : Int32), .int (9 : Int32)]) (S' := []) (σ' := (97, I, J, R)) rfl (fun hc_10 => ?_) (fun hc_10 => ?_)
            · rw [if_pos hc_10] at h
              refine az_E.sn 1 (pc' := 15) (L' := [.int a1, .int (-9 : Int32), .int (9 : Int32)]) (S' := [.int (0 : Int32)]) (σ' := (97, I, J, R)) rfl ?_
              refine az_E.ret (v := some (.int (0 : Int32))) (σ' := (97, I, J, R)) rfl ?_
              show az_E az_F ex 2 38 65 [.int a0, .int a1] [.int (0 : Int32)] (97, I, J, R) _
              have h := Option.some.inj h
              subst h
              exact az_E.ret (v := some (.int (0 : Int32))) (σ' := (97, I, J, R)) rfl hQ
            · rw [if_neg hc_10] at h
              refine az_E.sn 2 (pc' := 15) (L' := [.int a1, .int (-9 : Int32), .int (9 : Int32)]) (S' := [.int (1 : Int32)]) (σ' := (97, I, J, R)) rfl ?_
              refine az_E.ret (v := some (.int (1 : Int32))) (σ' := (97, I, J, R)) rfl ?_
              show az_E az_F ex 2 38 65 [.int a0, .int a1] [.int (1 : Int32)] (97, I, J, R) _
              have h := Option.some.inj h
              subst h
              exact az_E.ret (v := some (.int (1 : Int32))) (σ' := (97, I, J, R)) rfl hQ
        · rw [if_neg hc_8] at h
          by_cases hc_11 : a0 = (4 : Int32)
          · rw [if_pos hc_11] at h
            refine az_E.sw hc_11 (pc' := 66) (L' := [.int a0, .int a1]) (S' := []) (σ' := (97, I, J, R)) rfl ?_
            refine az_E.sn 3 (pc' := 70) (L' := [.int a0, .int a1]) (S' := [.int (9 : Int32), .int (0 : Int32), .int a1]) (σ' := (97, I, J, R)) rfl ?_
            refine az_E.call (d := 1) (k' := 131) (vs := [.int a1, .int (0 : Int32), .int (9 : Int32)]) (pc' := 73) (S' := []) rfl ?_ (fun _ _ hq => hq)
            show az_E az_F ex 1 131 0 [.int a1, .int (0 : Int32), .int (9 : Int32)] [] (97, I, J, R) _
            refine az_E.sn 2 (pc' := 2) (L' := [.int a1, .int (0 : Int32), .int (9 : Int32)]) (S' := [.int (0 : Int32), .int a1]) (σ' := (97, I, J, R)) rfl ?_
            refine az_E.br (c := a1 < (0 : Int32)) (tt := 14) (ff := 5) (L' := [.int a1, .int (0 : Int32), .int (9 : Int32)]) (S' := []) (σ' := (97, I, J, R)) rfl (fun hc_12 => ?_) (fun hc_12 => ?_)
            · rw [if_pos hc_12] at h
              refine az_E.sn 1 (pc' := 15) (L' := [.int a1, .int (0 : Int32), .int (9 : Int32)]) (S' := [.int (0 : Int32)]) (σ' := (97, I, J, R)) rfl ?_
              refine az_E.ret (v := some (.int (0 : Int32))) (σ' := (97, I, J, R)) rfl ?_
              show az_E az_F ex 2 38 73 [.int a0, .int a1] [.int (0 : Int32)] (97, I, J, R) _
              have h := Option.some.inj h
              subst h
              exact az_E.ret (v := some (.int (0 : Int32))) (σ' := (97, I, J, R)) rfl hQ
            · rw [if_neg hc_12] at h
              refine az_E.sn 2 (pc' := 7) (L' := [.int a1, .int (0 : Int32), .int (9 : Int32)]) (S' := [.int (9 : Int32), .int a1]) (σ' := (97, I, J, R)) rfl ?_
              refine az_E.br (c := (9 : Int32) < a1) (tt := 14) (ff := 10) (L' := [.int a1, .int (0 : Int32), .int (9 : Int32)]) (S' := []) (σ' := (97, I, J, R)) rfl (fun hc_13 => ?_) (fun hc_13 => ?_)
              · rw [if_pos hc_13] at h
                refine az_E.sn 1 (pc' := 15) (L' := [.int a1, .int (0 : Int32), .int (9 : Int32)]) (S' := [.int (0 : Int32)]) (σ' := (97, I, J, R)) rfl ?_
                refine az_E.ret (v := some (.int (0 : Int32))) (σ' := (97, I, J, R)) rfl ?_
                show az_E az_F ex 2 38 73 [.int a0, .int a1] [.int (0 : Int32)] (97, I, J, R) _
                have h := Option.some.inj h
                subst h
                exact az_E.ret (v := some (.int (0 : Int32))) (σ' := (97, I, J, R)) rfl hQ
              · rw [if_neg hc_13] at h
                refine az_E.sn 2 (pc' := 15) (L' := [.int a1, .int (0 : Int32), .int (9 : Int32)]) (S' := [.int (1 : Int32)]) (σ' := (97, I, J, R)) rfl ?_
                refine az_E.ret (v := some (.int (1 : Int32))) (σ' := (97, I, J, R)) rfl ?_
                show az_E az_F ex 2 38 73 [.int a0, .int a1] [.int (1 : Int32)] (97, I, J, R) _
                have h := Option.some.inj h
                subst h
                exact az_E.ret (v := some (.int (1 : Int32))) (σ' := (97, I, J, R)) rfl hQ
          · rw [if_neg hc_11] at h
            by_cases hc_14 : a0 = (5 : Int32)
            · rw [if_pos hc_14] at h
              refine az_E.sw hc_14 (pc' := 74) (L' := [.int a0, .int a1]) (S' := []) (σ' := (97, I, J, R)) rfl ?_
              refine az_E.sn 3 (pc' := 78) (L' := [.int a0, .int a1]) (S' := [.int (9 : Int32), .int (1 : Int32), .int a1]) (σ' := (97, I, J, R)) rfl ?_
              refine az_E.call (d := 1) (k' := 131) (vs := [.int a1, .int (1 : Int32), .int (9 : Int32)]) (pc' := 81) (S' := []) rfl ?_ (fun _ _ hq => hq)
              show az_E az_F ex 1 131 0 [.int a1, .int (1 : Int32), .int (9 : Int32)] [] (97, I, J, R) _
              refine az_E.sn 2 (pc' := 2) (L' := [.int a1, .int (1 : Int32), .int (9 : Int32)]) (S' := [.int (1 : Int32), .int a1]) (σ' := (97, I, J, R)) rfl ?_
              refine az_E.br (c := a1 < (1 : Int32)) (tt := 14) (ff := 5) (L' := [.int a1, .int (1 : Int32), .int (9 : Int32)]) (S' := []) (σ' := (97, I, J, R)) rfl (fun hc_15 => ?_) (fun hc_15 => ?_)
              · rw [if_pos hc_15] at h
                refine az_E.sn 1 (pc' := 15) (L' := [.int a1, .int (1 : Int32), .int (9 : Int32)]) (S' := [.int (0 : Int32)]) (σ' := (97, I, J, R)) rfl ?_
                refine az_E.ret (v := some (.int (0 : Int32))) (σ' := (97, I, J, R)) rfl ?_
                show az_E az_F ex 2 38 81 [.int a0, .int a1] [.int (0 : Int32)] (97, I, J, R) _
                have h := Option.some.inj h
                subst h
                exact az_E.ret (v := some (.int (0 : Int32))) (σ' := (97, I, J, R)) rfl hQ
              · rw [if_neg hc_15] at h
                refine az_E.sn 2 (pc' := 7) (L' := [.int a1, .int (1 : Int32), .int (9 : Int32)]) (S' := [.int (9 : Int32), .int a1]) (σ' := (97, I, J, R)) rfl ?_
                refine az_E.br (c := (9 : Int32) < a1) (tt := 14) (ff := 10) (L' := [.int a1, .int (1 : Int32), .int (9 : Int32)]) (S' := []) (σ' := (97, I, J, R)) rfl (fun hc_16 => ?_) (fun hc_16 => ?_)
                · rw [if_pos hc_16] at h
                  refine az_E.sn 1 (pc' := 15) (L' := [.int a1, .int (1 : Int32), .int (9 : Int32)]) (S' := [.int (0 : Int32)]) (σ' := (97, I, J, R)) rfl ?_
                  refine az_E.ret (v := some (.int (0 : Int32))) (σ' := (97, I, J, R)) rfl ?_
                  show az_E az_F ex 2 38 81 [.int a0, .int a1] [.int (0 : Int32)] (97, I, J, R) _
                  have h := Option.some.inj h
                  subst h
                  exact az_E.ret (v := some (.int (0 : Int32))) (σ' := (97, I, J, R)) rfl hQ
                · rw [if_neg hc_16] at h
                  refine az_E.sn 2 (pc' := 15) (L' := [.int a1, .int (1 : Int32), .int (9 : Int32)]) (S' := [.int (1 : Int32)]) (σ' := (97, I, J, R)) rfl ?_
                  refine az_E.ret (v := some (.int (1 : Int32))) (σ' := (97, I, J, R)) rfl ?_
                  show az_E az_F ex 2 38 81 [.int a0, .int a1] [.int (1 : Int32)] (97, I, J, R) _
                  have h := Option.some.inj h
                  subst h
                  exact az_E.ret (v := some (.int (1 : Int32))) (σ' := (97, I, J, R)) rfl hQ
            · rw [if_neg hc_14] at h
              by_cases hc_17 : a0 = (6 : Int32)
              · rw [if_pos hc_17] at h
                refine az_E.sw hc_17 (pc' := 82) (L' := [.int a0, .int a1]) (S' := []) (σ' := (97, I, J, R)) rfl ?_
                refine az_E.sn 3 (pc' := 86) (L' := [.int a0, .int a1]) (S' := [.int (9 : Int32), .int (0 : Int32), .int a1]) (σ' := (97, I, J, R)) rfl ?_
                refine az_E.call (d := 1) (k' := 131) (vs := [.int a1, .int (0 : Int32), .int (9 : Int32)]) (pc' := 89) (S' := []) rfl ?_ (fun _ _ hq => hq)
                show az_E az_F ex 1 131 0 [.int a1, .int (0 : Int32), .int (9 : Int32)] [] (97, I, J, R) _
                refine az_E.sn 2 (pc' := 2) (L' := [.int a1, .int (0 : Int32), .int (9 : Int32)]) (S' := [.int (0 : Int32), .int a1]) (σ' := (97, I, J, R)) rfl ?_
                refine az_E.br (c := a1 < (0 : Int32)) (tt := 14) (ff := 5) (L' := [.int a1, .int (0 : Int32), .int (9 : Int32)]) (S' := []) (σ' := (97, I, J, R)) rfl (fun hc_18 => ?_) (fun hc_18 => ?_)
                · rw [if_pos hc_18] at h
                  refine az_E.sn 1 (pc' := 15) (L' := [.int a1, .int (0 : Int32), .int (9 : Int32)]) (S' := [.int (0 : Int32)]) (σ' := (97, I, J, R)) rfl ?_
                  refine az_E.ret (v := some (.int (0 : Int32))) (σ' := (97, I, J, R)) rfl ?_
                  show az_E az_F ex 2 38 89 [.int a0, .int a1] [.int (0 : Int32)] (97, I, J, R) _
                  have h := Option.some.inj h
                  subst h
                  exact az_E.ret (v := some (.int (0 : Int32))) (σ' := (97, I, J, R)) rfl hQ
                · rw [if_neg hc_18] at h
                  refine az_E.sn 2 (pc' := 7) (L' := [.int a1, .int (0 : Int32), .int (9 : Int32)]) (S' := [.int (9 : Int32), .int a1]) (σ' := (97, I, J, R)) rfl ?_
                  refine az_E.br (c := (9 : Int32) < a1) (tt := 14) (ff := 10) (L' := [.int a1, .int (0 : Int32), .int (9 : Int32)]) (S' := []) (σ' := (97, I, J, R)) rfl (fun hc_19 => ?_) (fun hc_19 => ?_)
                  · rw [if_pos hc_19] at h
                    refine az_E.sn 1 (pc' := 15) (L' := [.int a1, .int (0 : Int32), .int (9 : Int32)]) (S' := [.int (0 : Int32)]) (σ' := (97, I, J, R)) rfl ?_
                    refine az_E.ret (v := some (.int (0 : Int32))) (σ' := (97, I, J, R)) rfl ?_
                    show az_E az_F ex 2 38 89 [.int a0, .int a1] [.int (0 : Int32)] (97, I, J, R) _
                    have h := Option.some.inj h
                    subst h
                    exact az_E.ret (v := some (.int (0 : Int32))) (σ' := (97, I, J, R)) rfl hQ
                  · rw [if_neg hc_19] at h
                    refine az_E.sn 2 (pc' := 15) (L' := [.int a1, .int (0 : Int32), .int (9 : Int32)]) (S' := [.int (1 : Int32)]) (σ' := (97, I, J, R)) rfl ?_
                    refine az_E.ret (v := some (.int (1 : Int32))) (σ' := (97, I, J, R)) rfl ?_
                    show az_E az_F ex 2 38 89 [.int a0, .int a1] [.int (1 : Int32)] (97, I, J, R) _
                    have h := Option.some.inj h
                    subst h
                    exact az_E.ret (v := some (.int (1 : Int32))) (σ' := (97, I, J, R)) rfl hQ
              · rw [if_neg hc_17] at h
                have ehc_1 := az_nei hc_1 (z := 0) (by decide)
                have ehc_4 := az_nei hc_4 (z := 1) (by decide)
                have ehc_7 := az_nei hc_7 (z := 2) (by decide)
                have ehc_8 := az_nei hc_8 (z := 3) (by decide)
                have ehc_11 := az_nei hc_11 (z := 4) (by decide)
                have ehc_14 := az_nei hc_14 (z := 5) (by decide)
                have ehc_17 := az_nei hc_17 (z := 6) (by decide)
                refine az_E.swd (a := 90) (lo := 0) (hi := 6) (offs := #[43, 51, 51, 56, 65, 73, 81]) rfl (by omega) ?_
                refine az_E.sn 1 (pc' := 91) (L' := [.int a0, .int a1]) (S' := [.int (0 : Int32)]) (σ' := (97, I, J, R)) rfl ?_
                have h := Option.some.inj h
                subst h
                exact az_E.ret (v := some (.int (0 : Int32))) (σ' := (97, I, J, R)) rfl hQ
set_option maxRecDepth 100000 in
set_option maxHeartbeats 4000000 in
theorem re_X_addFromRow_84_61 {ex : az_X} {I : Nat → Nat → Int32} {J : Nat → Nat → Int64} {R : Nat → Nat → Option Nat} {v3 : Int32} {v4 : Int32} {v5 : Int32} {s0 : Int32} {x : Int32 × (Nat → Nat → Int32)} (h : rs_X_addFromRow_84 61 I J v3 v4 v5 s0 = some x) {Q : Option Value → az_S → Prop} (hQ : Q (some (.int x.1)) (97, x.2, J, R)) : az_E az_F ex 3 143 84 [.ref 3, .retAddr 0, .retAddr 0, .int v3, .int v4, .int v5, .retAddr 0] [.int s0] (97, I, J, R) Q := by
  unfold rs_X_addFromRow_84 at h
  refine az_E.sn 2 (pc' := 88) (L' := [.ref 3, .retAddr 0, .retAddr 0, .int v3, .int v4, .int v5, .int s0]) (S' := [.int s0]) (σ' := (97, I, J, R)) rfl ?_
  refine az_E.br (c := s0 = 0) (tt := 110) (ff := 91) (L' := [.ref 3, .retAddr 0, .retAddr 0, .int v3, .int v4, .int v5, .int s0]) (S' := []) (σ' := (97, I, J, R)) rfl (fun hc_11 => ?_) (fun hc_11 => ?_)
  · rw [if_pos hc_11] at h
    refine az_E.sn 1 (pc' := 111) (L' := [.ref 3, .retAddr 0, .retAddr 0, .int v3, .int v4, .int v5, .int s0]) (S' := [.int (0 : Int32)]) (σ' := (97, I, J, R)) rfl ?_
    have h := Option.some.inj h
    subst h
    exact az_E.ret (v := some (.int (0 : Int32))) (σ' := (97, I, J, R)) rfl hQ
  · rw [if_neg hc_11] at h
    refine az_E.sn 5 (pc' := 100) (L' := [.ref 3, .retAddr 0, .retAddr 0, .int v3, .int v4, .int v5, .int s0]) (S' := [.int v5, .int v4, .int v3, .ref 4]) (σ' := (97, I, J, R)) rfl ?_
    cases hx_14 : rs_Mo_addWalker I v3 v4 v5 with
    | none => rw [hx_14] at h; cases h
    | some o =>
      rw [hx_14] at h
      obtain ⟨x_12, I_13⟩ := o
      dsimp only at h
      refine az_E.call (d := 2) (k' := 36) (vs := [.ref 4, .int v3, .int v4, .int v5]) (pc' := 103) (S' := []) (Q1 := fun v s => v = some (.int x_12) ∧ s = (97, I_13, J, R)) rfl (az_E.deep (by omega) (re_Mo_addWalker (J := J) (R := R)  hx_14 ⟨rfl, rfl⟩)) (fun v s hq => ?_)
      obtain ⟨rfl, rfl⟩ := hq
      show az_E az_F ex 3 143 103 [.ref 3, .retAddr 0, .retAddr 0, .int v3, .int v4, .int v5, .int s0] [.int x_12] (97, I_13, J, R) _
      refine az_E.br (c := x_12 < 0) (tt := 110) (ff := 106) (L' := [.ref 3, .retAddr 0, .retAddr 0, .int v3, .int v4, .int v5, .int s0]) (S' := []) (σ' := (97, I_13, J, R)) rfl (fun hc_15 => ?_) (fun hc_15 => ?_)
      · rw [if_pos hc_15] at h
        refine az_E.sn 1 (pc' := 111) (L' := [.ref 3, .retAddr 0, .retAddr 0, .int v3, .int v4, .int v5, .int s0]) (S' := [.int (0 : Int32)]) (σ' := (97, I_13, J, R)) rfl ?_
        have h := Option.some.inj h
        subst h
        exact az_E.ret (v := some (.int (0 : Int32))) (σ' := (97, I_13, J, R)) rfl hQ
      · rw [if_neg hc_15] at h
        refine az_E.sn 2 (pc' := 111) (L' := [.ref 3, .retAddr 0, .retAddr 0, .int v3, .int v4, .int v5, .int s0]) (S' := [.int (1 : Int32)]) (σ' := (97, I_13, J, R)) rfl ?_
        have h := Option.some.inj h
        subst h
        exact az_E.ret (v := some (.int (1 : Int32))) (σ' := (97, I_13, J, R)) rfl hQ
set_option maxRecDepth 100000 in
set_option maxHeartbeats 4000000 in
theorem re_X_addFromRow_83_61 {ex : az_X} {I : Nat → Nat → Int32} {J : Nat → Nat → Int64} {R : Nat → Nat → Option Nat} {v3 : Int32} {v4 : Int32} {v5 : Int32} {x : Int32 × (Nat → Nat → Int32)} (h : rs_X_addFromRow_83 61 I J v3 v4 v5 = some x) {Q : Option Value → az_S → Prop} (hQ : Q (some (.int x.1)) (97, x.2, J, R)) : az_E az_F ex 3 143 83 [.ref 3, .retAddr 0, .retAddr 0, .int v3, .int v4, .int v5, .retAddr 0] [] (97, I, J, R) Q := by
  unfold rs_X_addFromRow_83 at h
  refine az_E.sn 1 (pc' := 84) (L' := [.ref 3, .retAddr 0, .retAddr 0, .int v3, .int v4, .int v5, .retAddr 0]) (S' := [.int (0 : Int32)]) (σ' := (97, I, J, R)) rfl ?_
  exact az_E.forget (L := [.ref 3, .retAddr 0, .retAddr 0, .int v3, .int v4, .int v5, .retAddr 0]) ⟨rfl, trivial, trivial, rfl, rfl, rfl, trivial, trivial⟩ (re_X_addFromRow_84_61 (I := I) (J := J) (R := R)  h hQ)
set_option maxRecDepth 100000 in
set_option maxHeartbeats 4000000 in
theorem re_X_addFromRow_61 {ex : az_X} {I : Nat → Nat → Int32} {J : Nat → Nat → Int64} {R : Nat → Nat → Option Nat} {a2 : Int32} {o : Int32 × (Nat → Nat → Int32)} (h : rs_X_addFromRow 61 I J a2 = some o) {Q : Option Value → az_S → Prop} (hQ : Q (some (.int o.1)) (97, o.2, J, R)) : az_E az_F ex 3 143 0 [.ref 3, .ref 61, .int a2, .retAddr 0, .retAddr 0, .retAddr 0, .retAddr 0] [] (97, I, J, R) Q := by
  unfold rs_X_addFromRow at h
  refine az_E.sn 3 (pc' := 3) (L' := [.ref 3, .ref 61, .int a2, .retAddr 0, .retAddr 0, .retAddr 0, .retAddr 0]) (S' := [.int (3 : Int32), .int a2, .ref 61]) (σ' := (97, I, J, R)) rfl ?_
  refine az_E.call (d := 2) (k' := 60) (vs := [.ref 61, .int a2, .int (3 : Int32)]) (pc' := 6) (S' := []) rfl ?_ (fun _ _ hq => hq)
  show az_E az_F ex 2 60 0 [.ref 61, .int a2, .int (3 : Int32)] [] (97, I, J, R) _
  refine az_E.sn 1 (pc' := 1) (L' := [.ref 61, .int a2, .int (3 : Int32)]) (S' := [.int a2]) (σ' := (97, I, J, R)) rfl ?_
  refine az_E.br (c := a2 < 0) (tt := 30) (ff := 4) (L' := [.ref 61, .int a2, .int (3 : Int32)]) (S' := []) (σ' := (97, I, J, R)) rfl (fun hc_1 => ?_) (fun hc_1 => ?_)
  · rw [if_pos hc_1] at h
    refine az_E.sn 1 (pc' := 31) (L' := [.ref 61, .int a2, .int (3 : Int32)]) (S' := [.int (0 : Int32)]) (σ' := (97, I, J, R)) rfl ?_
    refine az_E.ret (v := some (.int (0 : Int32))) (σ' := (97, I, J, R)) rfl ?_
    show az_E az_F ex 3 143 6 [.ref 3, .ref 61, .int a2, .retAddr 0, .retAddr 0, .retAddr 0, .retAddr 0] [.int (0 : Int32)] (97, I, J, R) _
    refine az_E.br (c := (0 : Int32) = 0) (tt := 21) (ff := 9) (L' := [.ref 3, .ref 61, .int a2, .retAddr 0, .retAddr 0, .retAddr 0, .retAddr 0]) (S' := []) (σ' := (97, I, J, R)) rfl (fun _ => ?_) (fun hn => absurd (by decide) hn)
    refine az_E.sn 1 (pc' := 22) (L' := [.ref 3, .ref 61, .int a2, .retAddr 0, .retAddr 0, .retAddr 0, .retAddr 0]) (S' := [.int (0 : Int32)]) (σ' := (97, I, J, R)) rfl ?_
    have h := Option.some.inj h
    subst h
    exact az_E.ret (v := some (.int (0 : Int32))) (σ' := (97, I, J, R)) rfl hQ
  · rw [if_neg hc_1] at h
    refine az_E.sn 1 (pc' := 5) (L' := [.ref 61, .int a2, .int (3 : Int32)]) (S' := [.int (3 : Int32)]) (σ' := (97, I, J, R)) rfl ?_
    refine az_E.br (c := (3 : Int32) < 0) (tt := 30) (ff := 8) (L' := [.ref 61, .int a2, .int (3 : Int32)]) (S' := []) (σ' := (97, I, J, R)) rfl (fun hn => absurd hn (by decide)) (fun _ => ?_)
    refine az_E.sn 3 (pc' := 13) (L' := [.ref 61, .int a2, .int (3 : Int32)]) (S' := [.int (I 61 2), .int a2]) (σ' := (97, I, J, R)) rfl ?_
    refine az_E.br (c := (I 61 2) < a2) (tt := 30) (ff := 16) (L' := [.ref 61, .int a2, .int (3 : Int32)]) (S' := []) (σ' := (97, I, J, R)) rfl (fun hc_2 => ?_) (fun hc_2 => ?_)
    · rw [if_pos hc_2] at h
      refine az_E.sn 1 (pc' := 31) (L' := [.ref 61, .int a2, .int (3 : Int32)]) (S' := [.int (0 : Int32)]) (σ' := (97, I, J, R)) rfl ?_
      refine az_E.ret (v := some (.int (0 : Int32))) (σ' := (97, I, J, R)) rfl ?_
      show az_E az_F ex 3 143 6 [.ref 3, .ref 61, .int a2, .retAddr 0, .retAddr 0, .retAddr 0, .retAddr 0] [.int (0 : Int32)] (97, I, J, R) _
      refine az_E.br (c := (0 : Int32) = 0) (tt := 21) (ff := 9) (L' := [.ref 3, .ref 61, .int a2, .retAddr 0, .retAddr 0, .retAddr 0, .retAddr 0]) (S' := []) (σ' := (97, I, J, R)) rfl (fun _ => ?_) (fun hn => absurd (by decide) hn)
      refine az_E.sn 1 (pc' := 22) (L' := [.ref 3, .ref 61, .int a2, .retAddr 0, .retAddr 0, .retAddr 0, .retAddr 0]) (S' := [.int (0 : Int32)]) (σ' := (97, I, J, R)) rfl ?_
      have h := Option.some.inj h
      subst h
      exact az_E.ret (v := some (.int (0 : Int32))) (σ' := (97, I, J, R)) rfl hQ
    · rw [if_neg hc_2] at h
      refine az_E.sn 5 (pc' := 23) (L' := [.ref 61, .int a2, .int (3 : Int32)]) (S' := [.int ((I 61 2) - a2), .int (3 : Int32)]) (σ' := (97, I, J, R)) rfl ?_
      refine az_E.br (c := ((I 61 2) - a2) < (3 : Int32)) (tt := 30) (ff := 26) (L' := [.ref 61, .int a2, .int (3 : Int32)]) (S' := []) (σ' := (97, I, J, R)) rfl (fun hc_3 => ?_) (fun hc_3 => ?_)
      · rw [if_pos hc_3] at h
        refine az_E.sn 1 (pc' := 31) (L' := [.ref 61, .int a2, .int (3 : Int32)]) (S' := [.int (0 : Int32)]) (σ' := (97, I, J, R)) rfl ?_
        refine az_E.ret (v := some (.int (0 : Int32))) (σ' := (97, I, J, R)) rfl ?_
        show az_E az_F ex 3 143 6 [.ref 3, .ref 61, .int a2, .retAddr 0, .retAddr 0, .retAddr 0, .retAddr 0] [.int (0 : Int32)] (97, I, J, R) _
        refine az_E.br (c := (0 : Int32) = 0) (tt := 21) (ff := 9) (L' := [.ref 3, .ref 61, .int a2, .retAddr 0, .retAddr 0, .retAddr 0, .retAddr 0]) (S' := []) (σ' := (97, I, J, R)) rfl (fun _ => ?_) (fun hn => absurd (by decide) hn)
        refine az_E.sn 1 (pc' := 22) (L' := [.ref 3, .ref 61, .int a2, .retAddr 0, .retAddr 0, .retAddr 0, .retAddr 0]) (S' := [.int (0 : Int32)]) (σ' := (97, I, J, R)) rfl ?_
        have h := Option.some.inj h
        subst h
        exact az_E.ret (v := some (.int (0 : Int32))) (σ' := (97, I, J, R)) rfl hQ
      · rw [if_neg hc_3] at h
        refine az_E.sn 2 (pc' := 31) (L' := [.ref 61, .int a2, .int (3 : Int32)]) (S' := [.int (1 : Int32)]) (σ' := (97, I, J, R)) rfl ?_
        refine az_E.ret (v := some (.int (1 : Int32))) (σ' := (97, I, J, R)) rfl ?_
        show az_E az_F ex 3 143 6 [.ref 3, .ref 61, .int a2, .retAddr 0, .retAddr 0, .retAddr 0, .retAddr 0] [.int (1 : Int32)] (97, I, J, R) _
        refine az_E.br (c := (1 : Int32) = 0) (tt := 21) (ff := 9) (L' := [.ref 3, .ref 61, .int a2, .retAddr 0, .retAddr 0, .retAddr 0, .retAddr 0]) (S' := []) (σ' := (97, I, J, R)) rfl (fun hn => absurd hn (by decide)) (fun _ => ?_)
        refine az_E.sn 4 (pc' := 18) (L' := [.ref 3, .ref 61, .int a2, .retAddr 0, .retAddr 0, .retAddr 0, .retAddr 0]) (S' := [.int (6 : Int32), .int (I 4 9)]) (σ' := (97, I, J, R)) rfl ?_
        refine az_E.br (c := (I 4 9) < (6 : Int32)) (tt := 23) (ff := 21) (L' := [.ref 3, .ref 61, .int a2, .retAddr 0, .retAddr 0, .retAddr 0, .retAddr 0]) (S' := []) (σ' := (97, I, J, R)) rfl (fun hc_4 => ?_) (fun hc_4 => ?_)
        · rw [if_pos hc_4] at h
          refine az_E.sn 3 (pc' := 28) (L' := [.ref 3, .ref 61, .int a2, .retAddr 0, .retAddr 0, .retAddr 0, .retAddr 0]) (S' := [.int a2, .ref (61 + 1)]) (σ' := (97, I, J, R)) rfl ?_
          by_cases hc_5 : a2 < 0 ∨ 60 ≤ a2.toNatClampNeg
          · rw [if_pos hc_5] at h; cases h
          · rw [if_neg hc_5] at h
            refine az_E.ol (o := az_al az_F (97, I, J, R) (61 + 1) a2) (pc' := 29) (L' := [.ref 3, .ref 61, .int a2, .retAddr 0, .retAddr 0, .retAddr 0, .retAddr 0]) (S' := []) (σ' := (97, I, J, R)) (x := (J (61 + 1) a2.toNatClampNeg)) rfl (if_neg hc_5) ?_
            refine az_E.sn 7 (pc' := 38) (L' := [.ref 3, .ref 61, .int a2, .int (J (61 + 1) a2.toNatClampNeg).toInt32, .retAddr 0, .retAddr 0, .retAddr 0]) (S' := [.int (a2 + (1 : Int32)), .ref (61 + 1)]) (σ' := (97, I, J, R)) rfl ?_
            by_cases hc_6 : (a2 + (1 : Int32)) < 0 ∨ 60 ≤ (a2 + (1 : Int32)).toNatClampNeg
            · rw [if_pos hc_6] at h; cases h
            · rw [if_neg hc_6] at h
              refine az_E.ol (o := az_al az_F (97, I, J, R) (61 + 1) (a2 + (1 : Int32))) (pc' := 39) (L' := [.ref 3, .ref 61, .int a2, .int (J (61 + 1) a2.toNatClampNeg).toInt32, .retAddr 0, .retAddr 0, .retAddr 0]) (S' := []) (σ' := (97, I, J, R)) (x := (J (61 + 1) (a2 + (1 : Int32)).toNatClampNeg)) rfl (if_neg hc_6) ?_
              refine az_E.sn 7 (pc' := 49) (L' := [.ref 3, .ref 61, .int a2, .int (J (61 + 1) a2.toNatClampNeg).toInt32, .int (J (61 + 1) (a2 + (1 : Int32)).toNatClampNeg).toInt32, .retAddr 0, .retAddr 0]) (S' := [.int (a2 + (2 : Int32)), .ref (61 + 1)]) (σ' := (97, I, J, R)) rfl ?_
              by_cases hc_7 : (a2 + (2 : Int32)) < 0 ∨ 60 ≤ (a2 + (2 : Int32)).toNatClampNeg
              · rw [if_pos hc_7] at h; cases h
              · rw [if_neg hc_7] at h
                refine az_E.ol (o := az_al az_F (97, I, J, R) (61 + 1) (a2 + (2 : Int32))) (pc' := 50) (L' := [.ref 3, .ref 61, .int a2, .int (J (61 + 1) a2.toNatClampNeg).toInt32, .int (J (61 + 1) (a2 + (1 : Int32)).toNatClampNeg).toInt32, .retAddr 0, .retAddr 0]) (S' := []) (σ' := (97, I, J, R)) (x := (J (61 + 1) (a2 + (2 : Int32)).toNatClampNeg)) rfl (if_neg hc_7) ?_
                refine az_E.sn 4 (pc' := 55) (L' := [.ref 3, .ref 61, .int a2, .int (J (61 + 1) a2.toNatClampNeg).toInt32, .int (J (61 + 1) (a2 + (1 : Int32)).toNatClampNeg).toInt32, .int (J (61 + 1) (a2 + (2 : Int32)).toNatClampNeg).toInt32, .retAddr 0]) (S' := [.int (J (61 + 1) a2.toNatClampNeg).toInt32, .int (3 : Int32)]) (σ' := (97, I, J, R)) rfl ?_
                cases hx_9 : rs_Mo_isFit (3 : Int32) (J (61 + 1) a2.toNatClampNeg).toInt32 with
                | none => rw [hx_9] at h; cases h
                | some x_8 =>
                  rw [hx_9] at h
                  dsimp only at h
                  refine az_E.call (d := 2) (k' := 38) (vs := [.int (3 : Int32), .int (J (61 + 1) a2.toNatClampNeg).toInt32]) (pc' := 58) (S' := []) (Q1 := fun v s => v = some (.int x_8) ∧ s = (97, I, J, R)) rfl (az_E.deep (by omega) (re_Mo_isFit (J := J) (R := R)  hx_9 ⟨rfl, rfl⟩)) (fun v s hq => ?_)
                  obtain ⟨rfl, rfl⟩ := hq
                  show az_E az_F ex 3 143 58 [.ref 3, .ref 61, .int a2, .int (J (61 + 1) a2.toNatClampNeg).toInt32, .int (J (61 + 1) (a2 + (1 : Int32)).toNatClampNeg).toInt32, .int (J (61 + 1) (a2 + (2 : Int32)).toNatClampNeg).toInt32, .retAddr 0] [.int x_8] (97, I, J, R) _
                  refine az_E.br (c := x_8 = 0) (tt := 83) (ff := 61) (L' := [.ref 3, .ref 61, .int a2, .int (J (61 + 1) a2.toNatClampNeg).toInt32, .int (J (61 + 1) (a2 + (1 : Int32)).toNatClampNeg).toInt32, .int (J (61 + 1) (a2 + (2 : Int32)).toNatClampNeg).toInt32, .retAddr 0]) (S' := []) (σ' := (97, I, J, R)) rfl (fun hc_10 => ?_) (fun hc_10 => ?_)
                  · rw [if_pos hc_10] at h
                    exact az_E.forget (L := [.ref 3, .retAddr 0, .retAddr 0, .int (J (61 + 1) a2.toNatClampNeg).toInt32, .int (J (61 + 1) (a2 + (1 : Int32)).toNatClampNeg).toInt32, .int (J (61 + 1) (a2 + (2 : Int32)).toNatClampNeg).toInt32, .retAddr 0]) ⟨rfl, trivial, trivial, rfl, rfl, rfl, trivial, trivial⟩ (re_X_addFromRow_83_61 (I := I) (J := J) (R := R)  h hQ)
                  · rw [if_neg hc_10] at h
                    refine az_E.sn 2 (pc' := 64) (L' := [.ref 3, .ref 61, .int a2, .int (J (61 + 1) a2.toNatClampNeg).toInt32, .int (J (61 + 1) (a2 + (1 : Int32)).toNatClampNeg).toInt32, .int (J (61 + 1) (a2 + (2 : Int32)).toNatClampNeg).toInt32, .retAddr 0]) (S' := [.int (J (61 + 1) (a2 + (1 : Int32)).toNatClampNeg).toInt32, .int (4 : Int32)]) (σ' := (97, I, J, R)) rfl ?_
                    cases hx_17 : rs_Mo_isFit (4 : Int32) (J (61 + 1) (a2 + (1 : Int32)).toNatClampNeg).toInt32 with
                    | none => rw [hx_17] at h; cases h
                    | some x_16 =>
                      rw [hx_17] at h
                      dsimp only at h
                      refine az_E.call (d := 2) (k' := 38) (vs := [.int (4 : Int32), .int (J (61 + 1) (a2 + (1 : Int32)).toNatClampNeg).toInt32]) (pc' := 67) (S' := []) (Q1 := fun v s => v = some (.int x_16) ∧ s = (97, I, J, R)) rfl (az_E.deep (by omega) (re_Mo_isFit (J := J) (R := R)  hx_17 ⟨rfl, rfl⟩)) (fun v s hq => ?_)
                      obtain ⟨rfl, rfl⟩ := hq
                      show az_E az_F ex 3 143 67 [.ref 3, .ref 61, .int a2, .int (J (61 + 1) a2.toNatClampNeg).toInt32, .int (J (61 + 1) (a2 + (1 : Int32)).toNatClampNeg).toInt32, .int (J (61 + 1) (a2 + (2 : Int32)).toNatClampNeg).toInt32, .retAddr 0] [.int x_16] (97, I, J, R) _
                      refine az_E.br (c := x_16 = 0) (tt := 83) (ff := 70) (L' := [.ref 3, .ref 61, .int a2, .int (J (61 + 1) a2.toNatClampNeg).toInt32, .int (J (61 + 1) (a2 + (1 : Int32)).toNatClampNeg).toInt32, .int (J (61 + 1) (a2 + (2 : Int32)).toNatClampNeg).toInt32, .retAddr 0]) (S' := []) (σ' := (97, I, J, R)) rfl (fun hc_18 => ?_) (fun hc_18 => ?_)
                      · rw [if_pos hc_18] at h
                        exact az_E.forget (L := [.ref 3, .retAddr 0, .retAddr 0, .int (J (61 + 1) a2.toNatClampNeg).toInt32, .int (J (61 + 1) (a2 + (1 : Int32)).toNatClampNeg).toInt32, .int (J (61 + 1) (a2 + (2 : Int32)).toNatClampNeg).toInt32, .retAddr 0]) ⟨rfl, trivial, trivial, rfl, rfl, rfl, trivial, trivial⟩ (re_X_addFromRow_83_61 (I := I) (J := J) (R := R)  h hQ)
                      · rw [if_neg hc_18] at h
                        refine az_E.sn 2 (pc' := 73) (L' := [.ref 3, .ref 61, .int a2, .int (J (61 + 1) a2.toNatClampNeg).toInt32, .int (J (61 + 1) (a2 + (1 : Int32)).toNatClampNeg).toInt32, .int (J (61 + 1) (a2 + (2 : Int32)).toNatClampNeg).toInt32, .retAddr 0]) (S' := [.int (J (61 + 1) (a2 + (2 : Int32)).toNatClampNeg).toInt32, .int (5 : Int32)]) (σ' := (97, I, J, R)) rfl ?_
                        cases hx_20 : rs_Mo_isFit (5 : Int32) (J (61 + 1) (a2 + (2 : Int32)).toNatClampNeg).toInt32 with
                        | none => rw [hx_20] at h; cases h
                        | some x_19 =>
                          rw [hx_20] at h
                          dsimp only at h
                          refine az_E.call (d := 2) (k' := 38) (vs := [.int (5 : Int32), .int (J (61 + 1) (a2 + (2 : Int32)).toNatClampNeg).toInt32]) (pc' := 76) (S' := []) (Q1 := fun v s => v = some (.int x_19) ∧ s = (97, I, J, R)) rfl (az_E.deep (by omega) (re_Mo_isFit (J := J) (R := R)  hx_20 ⟨rfl, rfl⟩)) (fun v s hq => ?_)
                          obtain ⟨rfl, rfl⟩ := hq
                          show az_E az_F ex 3 143 76 [.ref 3, .ref 61, .int a2, .int (J (61 + 1) a2.toNatClampNeg).toInt32, .int (J (61 + 1) (a2 + (1 : Int32)).toNatClampNeg).toInt32, .int (J (61 + 1) (a2 + (2 : Int32)).toNatClampNeg).toInt32, .retAddr 0] [.int x_19] (97, I, J, R) _
                          refine az_E.br (c := x_19 = 0) (tt := 83) (ff := 79) (L' := [.ref 3, .ref 61, .int a2, .int (J (61 + 1) a2.toNatClampNeg).toInt32, .int (J (61 + 1) (a2 + (1 : Int32)).toNatClampNeg).toInt32, .int (J (61 + 1) (a2 + (2 : Int32)).toNatClampNeg).toInt32, .retAddr 0]) (S' := []) (σ' := (97, I, J, R)) rfl (fun hc_21 => ?_) (fun hc_21 => ?_)
                          · rw [if_pos hc_21] at h
                            exact az_E.forget (L := [.ref 3, .retAddr 0, .retAddr 0, .int (J (61 + 1) a2.toNatClampNeg).toInt32, .int (J (61 + 1) (a2 + (1 : Int32)).toNatClampNeg).toInt32, .int (J (61 + 1) (a2 + (2 : Int32)).toNatClampNeg).toInt32, .retAddr 0]) ⟨rfl, trivial, trivial, rfl, rfl, rfl, trivial, trivial⟩ (re_X_addFromRow_83_61 (I := I) (J := J) (R := R)  h hQ)
                          · rw [if_neg hc_21] at h
                            refine az_E.sn 2 (pc' := 84) (L' := [.ref 3, .ref 61, .int a2, .int (J (61 + 1) a2.toNatClampNeg).toInt32, .int (J (61 + 1) (a2 + (1 : Int32)).toNatClampNeg).toInt32, .int (J (61 + 1) (a2 + (2 : Int32)).toNatClampNeg).toInt32, .retAddr 0]) (S' := [.int (1 : Int32)]) (σ' := (97, I, J, R)) rfl ?_
                            exact az_E.forget (L := [.ref 3, .retAddr 0, .retAddr 0, .int (J (61 + 1) a2.toNatClampNeg).toInt32, .int (J (61 + 1) (a2 + (1 : Int32)).toNatClampNeg).toInt32, .int (J (61 + 1) (a2 + (2 : Int32)).toNatClampNeg).toInt32, .retAddr 0]) ⟨rfl, trivial, trivial, rfl, rfl, rfl, trivial, trivial⟩ (re_X_addFromRow_84_61 (I := I) (J := J) (R := R)  h hQ)
        · rw [if_neg hc_4] at h
          refine az_E.sn 1 (pc' := 22) (L' := [.ref 3, .ref 61, .int a2, .retAddr 0, .retAddr 0, .retAddr 0, .retAddr 0]) (S' := [.int (0 : Int32)]) (σ' := (97, I, J, R)) rfl ?_
          have h := Option.some.inj h
          subst h
          exact az_E.ret (v := some (.int (0 : Int32))) (σ' := (97, I, J, R)) rfl hQ
set_option maxRecDepth 100000 in
set_option maxHeartbeats 4000000 in
theorem re_X_addFromRow_84_63 {ex : az_X} {I : Nat → Nat → Int32} {J : Nat → Nat → Int64} {R : Nat → Nat → Option Nat} {v3 : Int32} {v4 : Int32} {v5 : Int32} {s0 : Int32} {x : Int32 × (Nat → Nat → Int32)} (h : rs_X_addFromRow_84 63 I J v3 v4 v5 s0 = some x) {Q : Option Value → az_S → Prop} (hQ : Q (some (.int x.1)) (97, x.2, J, R)) : az_E az_F ex 3 143 84 [.ref 3, .retAddr 0, .retAddr 0, .int v3, .int v4, .int v5, .retAddr 0] [.int s0] (97, I, J, R) Q := by
  unfold rs_X_addFromRow_84 at h
  refine az_E.sn 2 (pc' := 88) (L' := [.ref 3, .retAddr 0, .retAddr 0, .int v3, .int v4, .int v5, .int s0]) (S' := [.int s0]) (σ' := (97, I, J, R)) rfl ?_
  refine az_E.br (c := s0 = 0) (tt := 110) (ff := 91) (L' := [.ref 3, .retAddr 0, .retAddr 0, .int v3, .int v4, .int v5, .int s0]) (S' := []) (σ' := (97, I, J, R)) rfl (fun hc_11 => ?_) (fun hc_11 => ?_)
  · rw [if_pos hc_11] at h
    refine az_E.sn 1 (pc' := 111) (L' := [.ref 3, .retAddr 0, .retAddr 0, .int v3, .int v4, .int v5, .int s0]) (S' := [.int (0 : Int32)]) (σ' := (97, I, J, R)) rfl ?_
    have h := Option.some.inj h
    subst h
    exact az_E.ret (v := some (.int (0 : Int32))) (σ' := (97, I, J, R)) rfl hQ
  · rw [if_neg hc_11] at h
    refine az_E.sn 5 (pc' := 100) (L' := [.ref 3, .retAddr 0, .retAddr 0, .int v3, .int v4, .int v5, .int s0]) (S' := [.int v5, .int v4, .int v3, .ref 4]) (σ' := (97, I, J, R)) rfl ?_
    cases hx_14 : rs_Mo_addWalker I v3 v4 v5 with
    | none => rw [hx_14] at h; cases h
    | some o =>
      rw [hx_14] at h
      obtain ⟨x_12, I_13⟩ := o
      dsimp only at h
      refine az_E.call (d := 2) (k' := 36) (vs := [.ref 4, .int v3, .int v4, .int v5]) (pc' := 103) (S' := []) (Q1 := fun v s => v = some (.int x_12) ∧ s = (97, I_13, J, R)) rfl (az_E.deep (by omega) (re_Mo_addWalker (J := J) (R := R)  hx_14 ⟨rfl, rfl⟩)) (fun v s hq => ?_)
      obtain ⟨rfl, rfl⟩ := hq
      show az_E az_F ex 3 143 103 [.ref 3, .retAddr 0, .retAddr 0, .int v3, .int v4, .int v5, .int s0] [.int x_12] (97, I_13, J, R) _
      refine az_E.br (c := x_12 < 0) (tt := 110) (ff := 106) (L' := [.ref 3, .retAddr 0, .retAddr 0, .int v3, .int v4, .int v5, .int s0]) (S' := []) (σ' := (97, I_13, J, R)) rfl (fun hc_15 => ?_) (fun hc_15 => ?_)
      · rw [if_pos hc_15] at h
        refine az_E.sn 1 (pc' := 111) (L' := [.ref 3, .retAddr 0, .retAddr 0, .int v3, .int v4, .int v5, .int s0]) (S' := [.int (0 : Int32)]) (σ' := (97, I_13, J, R)) rfl ?_
        have h := Option.some.inj h
        subst h
        exact az_E.ret (v := some (.int (0 : Int32))) (σ' := (97, I_13, J, R)) rfl hQ
      · rw [if_neg hc_15] at h
        refine az_E.sn 2 (pc' := 111) (L' := [.ref 3, .retAddr 0, .retAddr 0, .int v3, .int v4, .int v5, .int s0]) (S' := [.int (1 : Int32)]) (σ' := (97, I_13, J, R)) rfl ?_
        have h := Option.some.inj h
        subst h
        exact az_E.ret (v := some (.int (1 : Int32))) (σ' := (97, I_13, J, R)) rfl hQ
set_option maxRecDepth 100000 in
set_option maxHeartbeats 4000000 in
theorem re_X_addFromRow_83_63 {ex : az_X} {I : Nat → Nat → Int32} {J : Nat → Nat → Int64} {R : Nat → Nat → Option Nat} {v3 : Int32} {v4 : Int32} {v5 : Int32} {x : Int32 × (Nat → Nat → Int32)} (h : rs_X_addFromRow_83 63 I J v3 v4 v5 = some x) {Q : Option Value → az_S → Prop} (hQ : Q (some (.int x.1)) (97, x.2, J, R)) : az_E az_F ex 3 143 83 [.ref 3, .retAddr 0, .retAddr 0, .int v3, .int v4, .int v5, .retAddr 0] [] (97, I, J, R) Q := by
  unfold rs_X_addFromRow_83 at h
  refine az_E.sn 1 (pc' := 84) (L' := [.ref 3, .retAddr 0, .retAddr 0, .int v3, .int v4, .int v5, .retAddr 0]) (S' := [.int (0 : Int32)]) (σ' := (97, I, J, R)) rfl ?_
  exact az_E.forget (L := [.ref 3, .retAddr 0, .retAddr 0, .int v3, .int v4, .int v5, .retAddr 0]) ⟨rfl, trivial, trivial, rfl, rfl, rfl, trivial, trivial⟩ (re_X_addFromRow_84_63 (I := I) (J := J) (R := R)  h hQ)
set_option maxRecDepth 100000 in
set_option maxHeartbeats 4000000 in
theorem re_X_addFromRow_63 {ex : az_X} {I : Nat → Nat → Int32} {J : Nat → Nat → Int64} {R : Nat → Nat → Option Nat} {a2 : Int32} {o : Int32 × (Nat → Nat → Int32)} (h : rs_X_addFromRow 63 I J a2 = some o) {Q : Option Value → az_S → Prop} (hQ : Q (some (.int o.1)) (97, o.2, J, R)) : az_E az_F ex 3 143 0 [.ref 3, .ref 63, .int a2, .retAddr 0, .retAddr 0, .retAddr 0, .retAddr 0] [] (97, I, J, R) Q := by
  unfold rs_X_addFromRow at h
  refine az_E.sn 3 (pc' := 3) (L' := [.ref 3, .ref 63, .int a2, .retAddr 0, .retAddr 0, .retAddr 0, .retAddr 0]) (S' := [.int (3 : Int32), .int a2, .ref 63]) (σ' := (97, I, J, R)) rfl ?_
  refine az_E.call (d := 2) (k' := 60) (vs := [.ref 63, .int a2, .int (3 : Int32)]) (pc' := 6) (S' := []) rfl ?_ (fun _ _ hq => hq)
  show az_E az_F ex 2 60 0 [.ref 63, .int a2, .int (3 : Int32)] [] (97, I, J, R) _
  refine az_E.sn 1 (pc' := 1) (L' := [.ref 63, .int a2, .int (3 : Int32)]) (S' := [.int a2]) (σ' := (97, I, J, R)) rfl ?_
  refine az_E.br (c := a2 < 0) (tt := 30) (ff := 4) (L' := [.ref 63, .int a2, .int (3 : Int32)]) (S' := []) (σ' := (97, I, J, R)) rfl (fun hc_1 => ?_) (fun hc_1 => ?_)
  · rw [if_pos hc_1] at h
    refine az_E.sn 1 (pc' := 31) (L' := [.ref 63, .int a2, .int (3 : Int32)]) (S' := [.int (0 : Int32)]) (σ' := (97, I, J, R)) rfl ?_
    refine az_E.ret (v := some (.int (0 : Int32))) (σ' := (97, I, J, R)) rfl ?_
    show az_E az_F ex 3 143 6 [.ref 3, .ref 63, .int a2, .retAddr 0, .retAddr 0, .retAddr 0, .retAddr 0] [.int (0 : Int32)] (97, I, J, R) _
    refine az_E.br (c := (0 : Int32) = 0) (tt := 21) (ff := 9) (L' := [.ref 3, .ref 63, .int a2, .retAddr 0, .retAddr 0, .retAddr 0, .retAddr 0]) (S' := []) (σ' := (97, I, J, R)) rfl (fun _ => ?_) (fun hn => absurd (by decide) hn)
    refine az_E.sn 1 (pc' := 22) (L' := [.ref 3, .ref 63, .int a2, .retAddr 0, .retAddr 0, .retAddr 0, .retAddr 0]) (S' := [.int (0 : Int32)]) (σ' := (97, I, J, R)) rfl ?_
    have h := Option.some.inj h
    subst h
    exact az_E.ret (v := some (.int (0 : Int32))) (σ' := (97, I, J, R)) rfl hQ
  · rw [if_neg hc_1] at h
    refine az_E.sn 1 (pc' := 5) (L' := [.ref 63, .int a2, .int (3 : Int32)]) (S' := [.int (3 : Int32)]) (σ' := (97, I, J, R)) rfl ?_
    refine az_E.br (c := (3 : Int32) < 0) (tt := 30) (ff := 8) (L' := [.ref 63, .int a2, .int (3 : Int32)]) (S' := []) (σ' := (97, I, J, R)) rfl (fun hn => absurd hn (by decide)) (fun _ => ?_)
    refine az_E.sn 3 (pc' := 13) (L' := [.ref 63, .int a2, .int (3 : Int32)]) (S' := [.int (I 63 2), .int a2]) (σ' := (97, I, J, R)) rfl ?_
    refine az_E.br (c := (I 63 2) < a2) (tt := 30) (ff := 16) (L' := [.ref 63, .int a2, .int (3 : Int32)]) (S' := []) (σ' := (97, I, J, R)) rfl (fun hc_2 => ?_) (fun hc_2 => ?_)
    · rw [if_pos hc_2] at h
      refine az_E.sn 1 (pc' := 31) (L' := [.ref 63, .int a2, .int (3 : Int32)]) (S' := [.int (0 : Int32)]) (σ' := (97, I, J, R)) rfl ?_
      refine az_E.ret (v := some (.int (0 : Int32))) (σ' := (97, I, J, R)) rfl ?_
      show az_E az_F ex 3 143 6 [.ref 3, .ref 63, .int a2, .retAddr 0, .retAddr 0, .retAddr 0, .retAddr 0] [.int (0 : Int32)] (97, I, J, R) _
      refine az_E.br (c := (0 : Int32) = 0) (tt := 21) (ff := 9) (L' := [.ref 3, .ref 63, .int a2, .retAddr 0, .retAddr 0, .retAddr 0, .retAddr 0]) (S' := []) (σ' := (97, I, J, R)) rfl (fun _ => ?_) (fun hn => absurd (by decide) hn)
      refine az_E.sn 1 (pc' := 22) (L' := [.ref 3, .ref 63, .int a2, .retAddr 0, .retAddr 0, .retAddr 0, .retAddr 0]) (S' := [.int (0 : Int32)]) (σ' := (97, I, J, R)) rfl ?_
      have h := Option.some.inj h
      subst h
      exact az_E.ret (v := some (.int (0 : Int32))) (σ' := (97, I, J, R)) rfl hQ
    · rw [if_neg hc_2] at h
      refine az_E.sn 5 (pc' := 23) (L' := [.ref 63, .int a2, .int (3 : Int32)]) (S' := [.int ((I 63 2) - a2), .int (3 : Int32)]) (σ' := (97, I, J, R)) rfl ?_
      refine az_E.br (c := ((I 63 2) - a2) < (3 : Int32)) (tt := 30) (ff := 26) (L' := [.ref 63, .int a2, .int (3 : Int32)]) (S' := []) (σ' := (97, I, J, R)) rfl (fun hc_3 => ?_) (fun hc_3 => ?_)
      · rw [if_pos hc_3] at h
        refine az_E.sn 1 (pc' := 31) (L' := [.ref 63, .int a2, .int (3 : Int32)]) (S' := [.int (0 : Int32)]) (σ' := (97, I, J, R)) rfl ?_
        refine az_E.ret (v := some (.int (0 : Int32))) (σ' := (97, I, J, R)) rfl ?_
        show az_E az_F ex 3 143 6 [.ref 3, .ref 63, .int a2, .retAddr 0, .retAddr 0, .retAddr 0, .retAddr 0] [.int (0 : Int32)] (97, I, J, R) _
        refine az_E.br (c := (0 : Int32) = 0) (tt := 21) (ff := 9) (L' := [.ref 3, .ref 63, .int a2, .retAddr 0, .retAddr 0, .retAddr 0, .retAddr 0]) (S' := []) (σ' := (97, I, J, R)) rfl (fun _ => ?_) (fun hn => absurd (by decide) hn)
        refine az_E.sn 1 (pc' := 22) (L' := [.ref 3, .ref 63, .int a2, .retAddr 0, .retAddr 0, .retAddr 0, .retAddr 0]) (S' := [.int (0 : Int32)]) (σ' := (97, I, J, R)) rfl ?_
        have h := Option.some.inj h
        subst h
        exact az_E.ret (v := some (.int (0 : Int32))) (σ' := (97, I, J, R)) rfl hQ
      · rw [if_neg hc_3] at h
        refine az_E.sn 2 (pc' := 31) (L' := [.ref 63, .int a2, .int (3 : Int32)]) (S' := [.int (1 : Int32)]) (σ' := (97, I, J, R)) rfl ?_
        refine az_E.ret (v := some (.int (1 : Int32))) (σ' := (97, I, J, R)) rfl ?_
        show az_E az_F ex 3 143 6 [.ref 3, .ref 63, .int a2, .retAddr 0, .retAddr 0, .retAddr 0, .retAddr 0] [.int (1 : Int32)] (97, I, J, R) _
        refine az_E.br (c := (1 : Int32) = 0) (tt := 21) (ff := 9) (L' := [.ref 3, .ref 63, .int a2, .retAddr 0, .retAddr 0, .retAddr 0, .retAddr 0]) (S' := []) (σ' := (97, I, J, R)) rfl (fun hn => absurd hn (by decide)) (fun _ => ?_)
        refine az_E.sn 4 (pc' := 18) (L' := [.ref 3, .ref 63, .int a2, .retAddr 0, .retAddr 0, .retAddr 0, .retAddr 0]) (S' := [.int (6 : Int32), .int (I 4 9)]) (σ' := (97, I, J, R)) rfl ?_
        refine az_E.br (c := (I 4 9) < (6 : Int32)) (tt := 23) (ff := 21) (L' := [.ref 3, .ref 63, .int a2, .retAddr 0, .retAddr 0, .retAddr 0, .retAddr 0]) (S' := []) (σ' := (97, I, J, R)) rfl (fun hc_4 => ?_) (fun hc_4 => ?_)
        · rw [if_pos hc_4] at h
          refine az_E.sn 3 (pc' := 28) (L' := [.ref 3, .ref 63, .int a2, .retAddr 0, .retAddr 0, .retAddr 0, .retAddr 0]) (S' := [.int a2, .ref (63 + 1)]) (σ' := (97, I, J, R)) rfl ?_
          by_cases hc_5 : a2 < 0 ∨ 60 ≤ a2.toNatClampNeg
          · rw [if_pos hc_5] at h; cases h
          · rw [if_neg hc_5] at h
            refine az_E.ol (o := az_al az_F (97, I, J, R) (63 + 1) a2) (pc' := 29) (L' := [.ref 3, .ref 63, .int a2, .retAddr 0, .retAddr 0, .retAddr 0, .retAddr 0]) (S' := []) (σ' := (97, I, J, R)) (x := (J (63 + 1) a2.toNatClampNeg)) rfl (if_neg hc_5) ?_
            refine az_E.sn 7 (pc' := 38) (L' := [.ref 3, .ref 63, .int a2, .int (J (63 + 1) a2.toNatClampNeg).toInt32, .retAddr 0, .retAddr 0, .retAddr 0]) (S' := [.int (a2 + (1 : Int32)), .ref (63 + 1)]) (σ' := (97, I, J, R)) rfl ?_
            by_cases hc_6 : (a2 + (1 : Int32)) < 0 ∨ 60 ≤ (a2 + (1 : Int32)).toNatClampNeg
            · rw [if_pos hc_6] at h; cases h
            · rw [if_neg hc_6] at h
              refine az_E.ol (o := az_al az_F (97, I, J, R) (63 + 1) (a2 + (1 : Int32))) (pc' := 39) (L' := [.ref 3, .ref 63, .int a2, .int (J (63 + 1) a2.toNatClampNeg).toInt32, .retAddr 0, .retAddr 0, .retAddr 0]) (S' := []) (σ' := (97, I, J, R)) (x := (J (63 + 1) (a2 + (1 : Int32)).toNatClampNeg)) rfl (if_neg hc_6) ?_
              refine az_E.sn 7 (pc' := 49) (L' := [.ref 3, .ref 63, .int a2, .int (J (63 + 1) a2.toNatClampNeg).toInt32, .int (J (63 + 1) (a2 + (1 : Int32)).toNatClampNeg).toInt32, .retAddr 0, .retAddr 0]) (S' := [.int (a2 + (2 : Int32)), .ref (63 + 1)]) (σ' := (97, I, J, R)) rfl ?_
              by_cases hc_7 : (a2 + (2 : Int32)) < 0 ∨ 60 ≤ (a2 + (2 : Int32)).toNatClampNeg
              · rw [if_pos hc_7] at h; cases h
              · rw [if_neg hc_7] at h
                refine az_E.ol (o := az_al az_F (97, I, J, R) (63 + 1) (a2 + (2 : Int32))) (pc' := 50) (L' := [.ref 3, .ref 63, .int a2, .int (J (63 + 1) a2.toNatClampNeg).toInt32, .int (J (63 + 1) (a2 + (1 : Int32)).toNatClampNeg).toInt32, .retAddr 0, .retAddr 0]) (S' := []) (σ' := (97, I, J, R)) (x := (J (63 + 1) (a2 + (2 : Int32)).toNatClampNeg)) rfl (if_neg hc_7) ?_
                refine az_E.sn 4 (pc' := 55) (L' := [.ref 3, .ref 63, .int a2, .int (J (63 + 1) a2.toNatClampNeg).toInt32, .int (J (63 + 1) (a2 + (1 : Int32)).toNatClampNeg).toInt32, .int (J (63 + 1) (a2 + (2 : Int32)).toNatClampNeg).toInt32, .retAddr 0]) (S' := [.int (J (63 + 1) a2.toNatClampNeg).toInt32, .int (3 : Int32)]) (σ' := (97, I, J, R)) rfl ?_
                cases hx_9 : rs_Mo_isFit (3 : Int32) (J (63 + 1) a2.toNatClampNeg).toInt32 with
                | none => rw [hx_9] at h; cases h
                | some x_8 =>
                  rw [hx_9] at h
                  dsimp only at h
                  refine az_E.call (d := 2) (k' := 38) (vs := [.int (3 : Int32), .int (J (63 + 1) a2.toNatClampNeg).toInt32]) (pc' := 58) (S' := []) (Q1 := fun v s => v = some (.int x_8) ∧ s = (97, I, J, R)) rfl (az_E.deep (by omega) (re_Mo_isFit (J := J) (R := R)  hx_9 ⟨rfl, rfl⟩)) (fun v s hq => ?_)
                  obtain ⟨rfl, rfl⟩ := hq
                  show az_E az_F ex 3 143 58 [.ref 3, .ref 63, .int a2, .int (J (63 + 1) a2.toNatClampNeg).toInt32, .int (J (63 + 1) (a2 + (1 : Int32)).toNatClampNeg).toInt32, .int (J (63 + 1) (a2 + (2 : Int32)).toNatClampNeg).toInt32, .retAddr 0] [.int x_8] (97, I, J, R) _
                  refine az_E.br (c := x_8 = 0) (tt := 83) (ff := 61) (L' := [.ref 3, .ref 63, .int a2, .int (J (63 + 1) a2.toNatClampNeg).toInt32, .int (J (63 + 1) (a2 + (1 : Int32)).toNatClampNeg).toInt32, .int (J (63 + 1) (a2 + (2 : Int32)).toNatClampNeg).toInt32, .retAddr 0]) (S' := []) (σ' := (97, I, J, R)) rfl (fun hc_10 => ?_) (fun hc_10 => ?_)
                  · rw [if_pos hc_10] at h
                    exact az_E.forget (L := [.ref 3, .retAddr 0, .retAddr 0, .int (J (63 + 1) a2.toNatClampNeg).toInt32, .int (J (63 + 1) (a2 + (1 : Int32)).toNatClampNeg).toInt32, .int (J (63 + 1) (a2 + (2 : Int32)).toNatClampNeg).toInt32, .retAddr 0]) ⟨rfl, trivial, trivial, rfl, rfl, rfl, trivial, trivial⟩ (re_X_addFromRow_83_63 (I := I) (J := J) (R := R)  h hQ)
                  · rw [if_neg hc_10] at h
                    refine az_E.sn 2 (pc' := 64) (L' := [.ref 3, .ref 63, .int a2, .int (J (63 + 1) a2.toNatClampNeg).toInt32, .int (J (63 + 1) (a2 + (1 : Int32)).toNatClampNeg).toInt32, .int (J (63 + 1) (a2 + (2 : Int32)).toNatClampNeg).toInt32, .retAddr 0]) (S' := [.int (J (63 + 1) (a2 + (1 : Int32)).toNatClampNeg).toInt32, .int (4 : Int32)]) (σ' := (97, I, J, R)) rfl ?_
                    cases hx_17 : rs_Mo_isFit (4 : Int32) (J (63 + 1) (a2 + (1 : Int32)).toNatClampNeg).toInt32 with
                    | none => rw [hx_17] at h; cases h
                    | some x_16 =>
                      rw [hx_17] at h
                      dsimp only at h
                      refine az_E.call (d := 2) (k' := 38) (vs := [.int (4 : Int32), .int (J (63 + 1) (a2 + (1 : Int32)).toNatClampNeg).toInt32]) (pc' := 67) (S' := []) (Q1 := fun v s => v = some (.int x_16) ∧ s = (97, I, J, R)) rfl (az_E.deep (by omega) (re_Mo_isFit (J := J) (R := R)  hx_17 ⟨rfl, rfl⟩)) (fun v s hq => ?_)
                      obtain ⟨rfl, rfl⟩ := hq
                      show az_E az_F ex 3 143 67 [.ref 3, .ref 63, .int a2, .int (J (63 + 1) a2.toNatClampNeg).toInt32, .int (J (63 + 1) (a2 + (1 : Int32)).toNatClampNeg).toInt32, .int (J (63 + 1) (a2 + (2 : Int32)).toNatClampNeg).toInt32, .retAddr 0] [.int x_16] (97, I, J, R) _
                      refine az_E.br (c := x_16 = 0) (tt := 83) (ff := 70) (L' := [.ref 3, .ref 63, .int a2, .int (J (63 + 1) a2.toNatClampNeg).toInt32, .int (J (63 + 1) (a2 + (1 : Int32)).toNatClampNeg).toInt32, .int (J (63 + 1) (a2 + (2 : Int32)).toNatClampNeg).toInt32, .retAddr 0]) (S' := []) (σ' := (97, I, J, R)) rfl (fun hc_18 => ?_) (fun hc_18 => ?_)
                      · rw [if_pos hc_18] at h
                        exact az_E.forget (L := [.ref 3, .retAddr 0, .retAddr 0, .int (J (63 + 1) a2.toNatClampNeg).toInt32, .int (J (63 + 1) (a2 + (1 : Int32)).toNatClampNeg).toInt32, .int (J (63 + 1) (a2 + (2 : Int32)).toNatClampNeg).toInt32, .retAddr 0]) ⟨rfl, trivial, trivial, rfl, rfl, rfl, trivial, trivial⟩ (re_X_addFromRow_83_63 (I := I) (J := J) (R := R)  h hQ)
                      · rw [if_neg hc_18] at h
                        refine az_E.sn 2 (pc' := 73) (L' := [.ref 3, .ref 63, .int a2, .int (J (63 + 1) a2.toNatClampNeg).toInt32, .int (J (63 + 1) (a2 + (1 : Int32)).toNatClampNeg).toInt32, .int (J (63 + 1) (a2 + (2 : Int32)).toNatClampNeg).toInt32, .retAddr 0]) (S' := [.int (J (63 + 1) (a2 + (2 : Int32)).toNatClampNeg).toInt32, .int (5 : Int32)]) (σ' := (97, I, J, R)) rfl ?_
                        cases hx_20 : rs_Mo_isFit (5 : Int32) (J (63 + 1) (a2 + (2 : Int32)).toNatClampNeg).toInt32 with
                        | none => rw [hx_20] at h; cases h
                        | some x_19 =>
                          rw [hx_20] at h
                          dsimp only at h
                          refine az_E.call (d := 2) (k' := 38) (vs := [.int (5 : Int32), .int (J (63 + 1) (a2 + (2 : Int32)).toNatClampNeg).toInt32]) (pc' := 76) (S' := []) (Q1 := fun v s => v = some (.int x_19) ∧ s = (97, I, J, R)) rfl (az_E.deep (by omega) (re_Mo_isFit (J := J) (R := R)  hx_20 ⟨rfl, rfl⟩)) (fun v s hq => ?_)
                          obtain ⟨rfl, rfl⟩ := hq
                          show az_E az_F ex 3 143 76 [.ref 3, .ref 63, .int a2, .int (J (63 + 1) a2.toNatClampNeg).toInt32, .int (J (63 + 1) (a2 + (1 : Int32)).toNatClampNeg).toInt32, .int (J (63 + 1) (a2 + (2 : Int32)).toNatClampNeg).toInt32, .retAddr 0] [.int x_19] (97, I, J, R) _
                          refine az_E.br (c := x_19 = 0) (tt := 83) (ff := 79) (L' := [.ref 3, .ref 63, .int a2, .int (J (63 + 1) a2.toNatClampNeg).toInt32, .int (J (63 + 1) (a2 + (1 : Int32)).toNatClampNeg).toInt32, .int (J (63 + 1) (a2 + (2 : Int32)).toNatClampNeg).toInt32, .retAddr 0]) (S' := []) (σ' := (97, I, J, R)) rfl (fun hc_21 => ?_) (fun hc_21 => ?_)
                          · rw [if_pos hc_21] at h
                            exact az_E.forget (L := [.ref 3, .retAddr 0, .retAddr 0, .int (J (63 + 1) a2.toNatClampNeg).toInt32, .int (J (63 + 1) (a2 + (1 : Int32)).toNatClampNeg).toInt32, .int (J (63 + 1) (a2 + (2 : Int32)).toNatClampNeg).toInt32, .retAddr 0]) ⟨rfl, trivial, trivial, rfl, rfl, rfl, trivial, trivial⟩ (re_X_addFromRow_83_63 (I := I) (J := J) (R := R)  h hQ)
                          · rw [if_neg hc_21] at h
                            refine az_E.sn 2 (pc' := 84) (L' := [.ref 3, .ref 63, .int a2, .int (J (63 + 1) a2.toNatClampNeg).toInt32, .int (J (63 + 1) (a2 + (1 : Int32)).toNatClampNeg).toInt32, .int (J (63 + 1) (a2 + (2 : Int32)).toNatClampNeg).toInt32, .retAddr 0]) (S' := [.int (1 : Int32)]) (σ' := (97, I, J, R)) rfl ?_
                            exact az_E.forget (L := [.ref 3, .retAddr 0, .retAddr 0, .int (J (63 + 1) a2.toNatClampNeg).toInt32, .int (J (63 + 1) (a2 + (1 : Int32)).toNatClampNeg).toInt32, .int (J (63 + 1) (a2 + (2 : Int32)).toNatClampNeg).toInt32, .retAddr 0]) ⟨rfl, trivial, trivial, rfl, rfl, rfl, trivial, trivial⟩ (re_X_addFromRow_84_63 (I := I) (J := J) (R := R)  h hQ)
        · rw [if_neg hc_4] at h
          refine az_E.sn 1 (pc' := 22) (L' := [.ref 3, .ref 63, .int a2, .retAddr 0, .retAddr 0, .retAddr 0, .retAddr 0]) (S' := [.int (0 : Int32)]) (σ' := (97, I, J, R)) rfl ?_
          have h := Option.some.inj h
          subst h
          exact az_E.ret (v := some (.int (0 : Int32))) (σ' := (97, I, J, R)) rfl hQ
set_option maxRecDepth 100000 in
set_option maxHeartbeats 4000000 in
theorem re_X_addFromRow_84_65 {ex : az_X} {I : Nat → Nat → Int32} {J : Nat → Nat → Int64} {R : Nat → Nat → Option Nat} {v3 : Int32} {v4 : Int32} {v5 : Int32} {s0 : Int32} {x : Int32 × (Nat → Nat → Int32)} (h : rs_X_addFromRow_84 65 I J v3 v4 v5 s0 = some x) {Q : Option Value → az_S → Prop} (hQ : Q (some (.int x.1)) (97, x.2, J, R)) : az_E az_F ex 3 143 84 [.ref 3, .retAddr 0, .retAddr 0, .int v3, .int v4, .int v5, .retAddr 0] [.int s0] (97, I, J, R) Q := by
  unfold rs_X_addFromRow_84 at h
  refine az_E.sn 2 (pc' := 88) (L' := [.ref 3, .retAddr 0, .retAddr 0, .int v3, .int v4, .int v5, .int s0]) (S' := [.int s0]) (σ' := (97, I, J, R)) rfl ?_
  refine az_E.br (c := s0 = 0) (tt := 110) (ff := 91) (L' := [.ref 3, .retAddr 0, .retAddr 0, .int v3, .int v4, .int v5, .int s0]) (S' := []) (σ' := (97, I, J, R)) rfl (fun hc_11 => ?_) (fun hc_11 => ?_)
  · rw [if_pos hc_11] at h
    refine az_E.sn 1 (pc' := 111) (L' := [.ref 3, .retAddr 0, .retAddr 0, .int v3, .int v4, .int v5, .int s0]) (S' := [.int (0 : Int32)]) (σ' := (97, I, J, R)) rfl ?_
    have h := Option.some.inj h
    subst h
    exact az_E.ret (v := some (.int (0 : Int32))) (σ' := (97, I, J, R)) rfl hQ
  · rw [if_neg hc_11] at h
    refine az_E.sn 5 (pc' := 100) (L' := [.ref 3, .retAddr 0, .retAddr 0, .int v3, .int v4, .int v5, .int s0]) (S' := [.int v5, .int v4, .int v3, .ref 4]) (σ' := (97, I, J, R)) rfl ?_
    cases hx_14 : rs_Mo_addWalker I v3 v4 v5 with
    | none => rw [hx_14] at h; cases h
    | some o =>
      rw [hx_14] at h
      obtain ⟨x_12, I_13⟩ := o
      dsimp only at h
      refine az_E.call (d := 2) (k' := 36) (vs := [.ref 4, .int v3, .int v4, .int v5]) (pc' := 103) (S' := []) (Q1 := fun v s => v = some (.int x_12) ∧ s = (97, I_13, J, R)) rfl (az_E.deep (by omega) (re_Mo_addWalker (J := J) (R := R)  hx_14 ⟨rfl, rfl⟩)) (fun v s hq => ?_)
      obtain ⟨rfl, rfl⟩ := hq
      show az_E az_F ex 3 143 103 [.ref 3, .retAddr 0, .retAddr 0, .int v3, .int v4, .int v5, .int s0] [.int x_12] (97, I_13, J, R) _
      refine az_E.br (c := x_12 < 0) (tt := 110) (ff := 106) (L' := [.ref 3, .retAddr 0, .retAddr 0, .int v3, .int v4, .int v5, .int s0]) (S' := []) (σ' := (97, I_13, J, R)) rfl (fun hc_15 => ?_) (fun hc_15 => ?_)
      · rw [if_pos hc_15] at h
        refine az_E.sn 1 (pc' := 111) (L' := [.ref 3, .retAddr 0, .retAddr 0, .int v3, .int v4, .int v5, .int s0]) (S' := [.int (0 : Int32)]) (σ' := (97, I_13, J, R)) rfl ?_
        have h := Option.some.inj h
        subst h
        exact az_E.ret (v := some (.int (0 : Int32))) (σ' := (97, I_13, J, R)) rfl hQ
      · rw [if_neg hc_15] at h
        refine az_E.sn 2 (pc' := 111) (L' := [.ref 3, .retAddr 0, .retAddr 0, .int v3, .int v4, .int v5, .int s0]) (S' := [.int (1 : Int32)]) (σ' := (97, I_13, J, R)) rfl ?_
        have h := Option.some.inj h
        subst h
        exact az_E.ret (v := some (.int (1 : Int32))) (σ' := (97, I_13, J, R)) rfl hQ
set_option maxRecDepth 100000 in
set_option maxHeartbeats 4000000 in
theorem re_X_addFromRow_83_65 {ex : az_X} {I : Nat → Nat → Int32} {J : Nat → Nat → Int64} {R : Nat → Nat → Option Nat} {v3 : Int32} {v4 : Int32} {v5 : Int32} {x : Int32 × (Nat → Nat → Int32)} (h : rs_X_addFromRow_83 65 I J v3 v4 v5 = some x) {Q : Option Value → az_S → Prop} (hQ : Q (some (.int x.1)) (97, x.2, J, R)) : az_E az_F ex 3 143 83 [.ref 3, .retAddr 0, .retAddr 0, .int v3, .int v4, .int v5, .retAddr 0] [] (97, I, J, R) Q := by
  unfold rs_X_addFromRow_83 at h
  refine az_E.sn 1 (pc' := 84) (L' := [.ref 3, .retAddr 0, .retAddr 0, .int v3, .int v4, .int v5, .retAddr 0]) (S' := [.int (0 : Int32)]) (σ' := (97, I, J, R)) rfl ?_
  exact az_E.forget (L := [.ref 3, .retAddr 0, .retAddr 0, .int v3, .int v4, .int v5, .retAddr 0]) ⟨rfl, trivial, trivial, rfl, rfl, rfl, trivial, trivial⟩ (re_X_addFromRow_84_65 (I := I) (J := J) (R := R)  h hQ)
set_option maxRecDepth 100000 in
set_option maxHeartbeats 4000000 in
theorem re_X_addFromRow_65 {ex : az_X} {I : Nat → Nat → Int32} {J : Nat → Nat → Int64} {R : Nat → Nat → Option Nat} {a2 : Int32} {o : Int32 × (Nat → Nat → Int32)} (h : rs_X_addFromRow 65 I J a2 = some o) {Q : Option Value → az_S → Prop} (hQ : Q (some (.int o.1)) (97, o.2, J, R)) : az_E az_F ex 3 143 0 [.ref 3, .ref 65, .int a2, .retAddr 0, .retAddr 0, .retAddr 0, .retAddr 0] [] (97, I, J, R) Q := by
  unfold rs_X_addFromRow at h
  refine az_E.sn 3 (pc' := 3) (L' := [.ref 3, .ref 65, .int a2, .retAddr 0, .retAddr 0, .retAddr 0, .retAddr 0]) (S' := [.int (3 : Int32), .int a2, .ref 65]) (σ' := (97, I, J, R)) rfl ?_
  refine az_E.call (d := 2) (k' := 60) (vs := [.ref 65, .int a2, .int (3 : Int32)]) (pc' := 6) (S' := []) rfl ?_ (fun _ _ hq => hq)
  show az_E az_F ex 2 60 0 [.ref 65, .int a2, .int (3 : Int32)] [] (97, I, J, R) _
  refine az_E.sn 1 (pc' := 1) (L' := [.ref 65, .int a2, .int (3 : Int32)]) (S' := [.int a2]) (σ' := (97, I, J, R)) rfl ?_
  refine az_E.br (c := a2 < 0) (tt := 30) (ff := 4) (L' := [.ref 65, .int a2, .int (3 : Int32)]) (S' := []) (σ' := (97, I, J, R)) rfl (fun hc_1 => ?_) (fun hc_1 => ?_)
  · rw [if_pos hc_1] at h
    refine az_E.sn 1 (pc' := 31) (L' := [.ref 65, .int a2, .int (3 : Int32)]) (S' := [.int (0 : Int32)]) (σ' := (97, I, J, R)) rfl ?_
    refine az_E.ret (v := some (.int (0 : Int32))) (σ' := (97, I, J, R)) rfl ?_
    show az_E az_F ex 3 143 6 [.ref 3, .ref 65, .int a2, .retAddr 0, .retAddr 0, .retAddr 0, .retAddr 0] [.int (0 : Int32)] (97, I, J, R) _
    refine az_E.br (c := (0 : Int32) = 0) (tt := 21) (ff := 9) (L' := [.ref 3, .ref 65, .int a2, .retAddr 0, .retAddr 0, .retAddr 0, .retAddr 0]) (S' := []) (σ' := (97, I, J, R)) rfl (fun _ => ?_) (fun hn => absurd (by decide) hn)
    refine az_E.sn 1 (pc' := 22) (L' := [.ref 3, .ref 65, .int a2, .retAddr 0, .retAddr 0, .retAddr 0, .retAddr 0]) (S' := [.int (0 : Int32)]) (σ' := (97, I, J, R)) rfl ?_
    have h := Option.some.inj h
    subst h
    exact az_E.ret (v := some (.int (0 : Int32))) (σ' := (97, I, J, R)) rfl hQ
  · rw [if_neg hc_1] at h
    refine az_E.sn 1 (pc' := 5) (L' := [.ref 65, .int a2, .int (3 : Int32)]) (S' := [.int (3 : Int32)]) (σ' := (97, I, J, R)) rfl ?_
    refine az_E.br (c := (3 : Int32) < 0) (tt := 30) (ff := 8) (L' := [.ref 65, .int a2, .int (3 : Int32)]) (S' := []) (σ' := (97, I, J, R)) rfl (fun hn => absurd hn (by decide)) (fun _ => ?_)
    refine az_E.sn 3 (pc' := 13) (L' := [.ref 65, .int a2, .int (3 : Int32)]) (S' := [.int (I 65 2), .int a2]) (σ' := (97, I, J, R)) rfl ?_
    refine az_E.br (c := (I 65 2) < a2) (tt := 30) (ff := 16) (L' := [.ref 65, .int a2, .int (3 : Int32)]) (S' := []) (σ' := (97, I, J, R)) rfl (fun hc_2 => ?_) (fun hc_2 => ?_)
    · rw [if_pos hc_2] at h
      refine az_E.sn 1 (pc' := 31) (L' := [.ref 65, .int a2, .int (3 : Int32)]) (S' := [.int (0 : Int32)]) (σ' := (97, I, J, R)) rfl ?_
      refine az_E.ret (v := some (.int (0 : Int32))) (σ' := (97, I, J, R)) rfl ?_
      show az_E az_F ex 3 143 6 [.ref 3, .ref 65, .int a2, .retAddr 0, .retAddr 0, .retAddr 0, .retAddr 0] [.int (0 : Int32)] (97, I, J, R) _
      refine az_E.br (c := (0 : Int32) = 0) (tt := 21) (ff := 9) (L' := [.ref 3, .ref 65, .int a2, .retAddr 0, .retAddr 0, .retAddr 0, .retAddr 0]) (S' := []) (σ' := (97, I, J, R)) rfl (fun _ => ?_) (fun hn => absurd (by decide) hn)
      refine az_E.sn 1 (pc' := 22) (L' := [.ref 3, .ref 65, .int a2, .retAddr 0, .retAddr 0, .retAddr 0, .retAddr 0]) (S' := [.int (0 : Int32)]) (σ' := (97, I, J, R)) rfl ?_
      have h := Option.some.inj h
      subst h
      exact az_E.ret (v := some (.int (0 : Int32))) (σ' := (97, I, J, R)) rfl hQ
    · rw [if_neg hc_2] at h
      refine az_E.sn 5 (pc' := 23) (L' := [.ref 65, .int a2, .int (3 : Int32)]) (S' := [.int ((I 65 2) - a2), .int (3 : Int32)]) (σ' := (97, I, J, R)) rfl ?_
      refine az_E.br (c := ((I 65 2) - a2) < (3 : Int32)) (tt := 30) (ff := 26) (L' := [.ref 65, .int a2, .int (3 : Int32)]) (S' := []) (σ' := (97, I, J, R)) rfl (fun hc_3 => ?_) (fun hc_3 => ?_)
      · rw [if_pos hc_3] at h
        refine az_E.sn 1 (pc' := 31) (L' := [.ref 65, .int a2, .int (3 : Int32)]) (S' := [.int (0 : Int32)]) (σ' := (97, I, J, R)) rfl ?_
        refine az_E.ret (v := some (.int (0 : Int32))) (σ' := (97, I, J, R)) rfl ?_
        show az_E az_F ex 3 143 6 [.ref 3, .ref 65, .int a2, .retAddr 0, .retAddr 0, .retAddr 0, .retAddr 0] [.int (0 : Int32)] (97, I, J, R) _
        refine az_E.br (c := (0 : Int32) = 0) (tt := 21) (ff := 9) (L' := [.ref 3, .ref 65, .int a2, .retAddr 0, .retAddr 0, .retAddr 0, .retAddr 0]) (S' := []) (σ' := (97, I, J, R)) rfl (fun _ => ?_) (fun hn => absurd (by decide) hn)
        refine az_E.sn 1 (pc' := 22) (L' := [.ref 3, .ref 65, .int a2, .retAddr 0, .retAddr 0, .retAddr 0, .retAddr 0]) (S' := [.int (0 : Int32)]) (σ' := (97, I, J, R)) rfl ?_
        have h := Option.some.inj h
        subst h
        exact az_E.ret (v := some (.int (0 : Int32))) (σ' := (97, I, J, R)) rfl hQ
      · rw [if_neg hc_3] at h
        refine az_E.sn 2 (pc' := 31) (L' := [.ref 65, .int a2, .int (3 : Int32)]) (S' := [.int (1 : Int32)]) (σ' := (97, I, J, R)) rfl ?_
        refine az_E.ret (v := some (.int (1 : Int32))) (σ' := (97, I, J, R)) rfl ?_
        show az_E az_F ex 3 143 6 [.ref 3, .ref 65, .int a2, .retAddr 0, .retAddr 0, .retAddr 0, .retAddr 0] [.int (1 : Int32)] (97, I, J, R) _
        refine az_E.br (c := (1 : Int32) = 0) (tt := 21) (ff := 9) (L' := [.ref 3, .ref 65, .int a2, .retAddr 0, .retAddr 0, .retAddr 0, .retAddr 0]) (S' := []) (σ' := (97, I, J, R)) rfl (fun hn => absurd hn (by decide)) (fun _ => ?_)
        refine az_E.sn 4 (pc' := 18) (L' := [.ref 3, .ref 65, .int a2, .retAddr 0, .retAddr 0, .retAddr 0, .retAddr 0]) (S' := [.int (6 : Int32), .int (I 4 9)]) (σ' := (97, I, J, R)) rfl ?_
        refine az_E.br (c := (I 4 9) < (6 : Int32)) (tt := 23) (ff := 21) (L' := [.ref 3, .ref 65, .int a2, .retAddr 0, .retAddr 0, .retAddr 0, .retAddr 0]) (S' := []) (σ' := (97, I, J, R)) rfl (fun hc_4 => ?_) (fun hc_4 => ?_)
        · rw [if_pos hc_4] at h
          refine az_E.sn 3 (pc' := 28) (L' := [.ref 3, .ref 65, .int a2, .retAddr 0, .retAddr 0, .retAddr 0, .retAddr 0]) (S' := [.int a2, .ref (65 + 1)]) (σ' := (97, I, J, R)) rfl ?_
          by_cases hc_5 : a2 < 0 ∨ 60 ≤ a2.toNatClampNeg
          · rw [if_pos hc_5] at h; cases h
          · rw [if_neg hc_5] at h
            refine az_E.ol (o := az_al az_F (97, I, J, R) (65 + 1) a2) (pc' := 29) (L' := [.ref 3, .ref 65, .int a2, .retAddr 0, .retAddr 0, .retAddr 0, .retAddr 0]) (S' := []) (σ' := (97, I, J, R)) (x := (J (65 + 1) a2.toNatClampNeg)) rfl (if_neg hc_5) ?_
            refine az_E.sn 7 (pc' := 38) (L' := [.ref 3, .ref 65, .int a2, .int (J (65 + 1) a2.toNatClampNeg).toInt32, .retAddr 0, .retAddr 0, .retAddr 0]) (S' := [.int (a2 + (1 : Int32)), .ref (65 + 1)]) (σ' := (97, I, J, R)) rfl ?_
            by_cases hc_6 : (a2 + (1 : Int32)) < 0 ∨ 60 ≤ (a2 + (1 : Int32)).toNatClampNeg
            · rw [if_pos hc_6] at h; cases h
            · rw [if_neg hc_6] at h
              refine az_E.ol (o := az_al az_F (97, I, J, R) (65 + 1) (a2 + (1 : Int32))) (pc' := 39) (L' := [.ref 3, .ref 65, .int a2, .int (J (65 + 1) a2.toNatClampNeg).toInt32, .retAddr 0, .retAddr 0, .retAddr 0]) (S' := []) (σ' := (97, I, J, R)) (x := (J (65 + 1) (a2 + (1 : Int32)).toNatClampNeg)) rfl (if_neg hc_6) ?_
              refine az_E.sn 7 (pc' := 49) (L' := [.ref 3, .ref 65, .int a2, .int (J (65 + 1) a2.toNatClampNeg).toInt32, .int (J (65 + 1) (a2 + (1 : Int32)).toNatClampNeg).toInt32, .retAddr 0, .retAddr 0]) (S' := [.int (a2 + (2 : Int32)), .ref (65 + 1)]) (σ' := (97, I, J, R)) rfl ?_
              by_cases hc_7 : (a2 + (2 : Int32)) < 0 ∨ 60 ≤ (a2 + (2 : Int32)).toNatClampNeg
              · rw [if_pos hc_7] at h; cases h
              · rw [if_neg hc_7] at h
                refine az_E.ol (o := az_al az_F (97, I, J, R) (65 + 1) (a2 + (2 : Int32))) (pc' := 50) (L' := [.ref 3, .ref 65, .int a2, .int (J (65 + 1) a2.toNatClampNeg).toInt32, .int (J (65 + 1) (a2 + (1 : Int32)).toNatClampNeg).toInt32, .retAddr 0, .retAddr 0]) (S' := []) (σ' := (97, I, J, R)) (x := (J (65 + 1) (a2 + (2 : Int32)).toNatClampNeg)) rfl (if_neg hc_7) ?_
                refine az_E.sn 4 (pc' := 55) (L' := [.ref 3, .ref 65, .int a2, .int (J (65 + 1) a2.toNatClampNeg).toInt32, .int (J (65 + 1) (a2 + (1 : Int32)).toNatClampNeg).toInt32, .int (J (65 + 1) (a2 + (2 : Int32)).toNatClampNeg).toInt32, .retAddr 0]) (S' := [.int (J (65 + 1) a2.toNatClampNeg).toInt32, .int (3 : Int32)]) (σ' := (97, I, J, R)) rfl ?_
                cases hx_9 : rs_Mo_isFit (3 : Int32) (J (65 + 1) a2.toNatClampNeg).toInt32 with
                | none => rw [hx_9] at h; cases h
                | some x_8 =>
                  rw [hx_9] at h
                  dsimp only at h
                  refine az_E.call (d := 2) (k' := 38) (vs := [.int (3 : Int32), .int (J (65 + 1) a2.toNatClampNeg).toInt32]) (pc' := 58) (S' := []) (Q1 := fun v s => v = some (.int x_8) ∧ s = (97, I, J, R)) rfl (az_E.deep (by omega) (re_Mo_isFit (J := J) (R := R)  hx_9 ⟨rfl, rfl⟩)) (fun v s hq => ?_)
                  obtain ⟨rfl, rfl⟩ := hq
                  show az_E az_F ex 3 143 58 [.ref 3, .ref 65, .int a2, .int (J (65 + 1) a2.toNatClampNeg).toInt32, .int (J (65 + 1) (a2 + (1 : Int32)).toNatClampNeg).toInt32, .int (J (65 + 1) (a2 + (2 : Int32)).toNatClampNeg).toInt32, .retAddr 0] [.int x_8] (97, I, J, R) _
                  refine az_E.br (c := x_8 = 0) (tt := 83) (ff := 61) (L' := [.ref 3, .ref 65, .int a2, .int (J (65 + 1) a2.toNatClampNeg).toInt32, .int (J (65 + 1) (a2 + (1 : Int32)).toNatClampNeg).toInt32, .int (J (65 + 1) (a2 + (2 : Int32)).toNatClampNeg).toInt32, .retAddr 0]) (S' := []) (σ' := (97, I, J, R)) rfl (fun hc_10 => ?_) (fun hc_10 => ?_)
                  · rw [if_pos hc_10] at h
                    exact az_E.forget (L := [.ref 3, .retAddr 0, .retAddr 0, .int (J (65 + 1) a2.toNatClampNeg).toInt32, .int (J (65 + 1) (a2 + (1 : Int32)).toNatClampNeg).toInt32, .int (J (65 + 1) (a2 + (2 : Int32)).toNatClampNeg).toInt32, .retAddr 0]) ⟨rfl, trivial, trivial, rfl, rfl, rfl, trivial, trivial⟩ (re_X_addFromRow_83_65 (I := I) (J := J) (R := R)  h hQ)
                  · rw [if_neg hc_10] at h
                    refine az_E.sn 2 (pc' := 64) (L' := [.ref 3, .ref 65, .int a2, .int (J (65 + 1) a2.toNatClampNeg).toInt32, .int (J (65 + 1) (a2 + (1 : Int32)).toNatClampNeg).toInt32, .int (J (65 + 1) (a2 + (2 : Int32)).toNatClampNeg).toInt32, .retAddr 0]) (S' := [.int (J (65 + 1) (a2 + (1 : Int32)).toNatClampNeg).toInt32, .int (4 : Int32)]) (σ' := (97, I, J, R)) rfl ?_
                    cases hx_17 : rs_Mo_isFit (4 : Int32) (J (65 + 1) (a2 + (1 : Int32)).toNatClampNeg).toInt32 with
                    | none => rw [hx_17] at h; cases h
                    | some x_16 =>
                      rw [hx_17] at h
                      dsimp only at h
                      refine az_E.call (d := 2) (k' := 38) (vs := [.int (4 : Int32), .int (J (65 + 1) (a2 + (1 : Int32)).toNatClampNeg).toInt32]) (pc' := 67) (S' := []) (Q1 := fun v s => v = some (.int x_16) ∧ s = (97, I, J, R)) rfl (az_E.deep (by omega) (re_Mo_isFit (J := J) (R := R)  hx_17 ⟨rfl, rfl⟩)) (fun v s hq => ?_)
                      obtain ⟨rfl, rfl⟩ := hq
                      show az_E az_F ex 3 143 67 [.ref 3, .ref 65, .int a2, .int (J (65 + 1) a2.toNatClampNeg).toInt32, .int (J (65 + 1) (a2 + (1 : Int32)).toNatClampNeg).toInt32, .int (J (65 + 1) (a2 + (2 : Int32)).toNatClampNeg).toInt32, .retAddr 0] [.int x_16] (97, I, J, R) _
                      refine az_E.br (c := x_16 = 0) (tt := 83) (ff := 70) (L' := [.ref 3, .ref 65, .int a2, .int (J (65 + 1) a2.toNatClampNeg).toInt32, .int (J (65 + 1) (a2 + (1 : Int32)).toNatClampNeg).toInt32, .int (J (65 + 1) (a2 + (2 : Int32)).toNatClampNeg).toInt32, .retAddr 0]) (S' := []) (σ' := (97, I, J, R)) rfl (fun hc_18 => ?_) (fun hc_18 => ?_)
                      · rw [if_pos hc_18] at h
                        exact az_E.forget (L := [.ref 3, .retAddr 0, .retAddr 0, .int (J (65 + 1) a2.toNatClampNeg).toInt32, .int (J (65 + 1) (a2 + (1 : Int32)).toNatClampNeg).toInt32, .int (J (65 + 1) (a2 + (2 : Int32)).toNatClampNeg).toInt32, .retAddr 0]) ⟨rfl, trivial, trivial, rfl, rfl, rfl, trivial, trivial⟩ (re_X_addFromRow_83_65 (I := I) (J := J) (R := R)  h hQ)
                      · rw [if_neg hc_18] at h
                        refine az_E.sn 2 (pc' := 73) (L' := [.ref 3, .ref 65, .int a2, .int (J (65 + 1) a2.toNatClampNeg).toInt32, .int (J (65 + 1) (a2 + (1 : Int32)).toNatClampNeg).toInt32, .int (J (65 + 1) (a2 + (2 : Int32)).toNatClampNeg).toInt32, .retAddr 0]) (S' := [.int (J (65 + 1) (a2 + (2 : Int32)).toNatClampNeg).toInt32, .int (5 : Int32)]) (σ' := (97, I, J, R)) rfl ?_
                        cases hx_20 : rs_Mo_isFit (5 : Int32) (J (65 + 1) (a2 + (2 : Int32)).toNatClampNeg).toInt32 with
                        | none => rw [hx_20] at h; cases h
                        | some x_19 =>
                          rw [hx_20] at h
                          dsimp only at h
                          refine az_E.call (d := 2) (k' := 38) (vs := [.int (5 : Int32), .int (J (65 + 1) (a2 + (2 : Int32)).toNatClampNeg).toInt32]) (pc' := 76) (S' := []) (Q1 := fun v s => v = some (.int x_19) ∧ s = (97, I, J, R)) rfl (az_E.deep (by omega) (re_Mo_isFit (J := J) (R := R)  hx_20 ⟨rfl, rfl⟩)) (fun v s hq => ?_)
                          obtain ⟨rfl, rfl⟩ := hq
                          show az_E az_F ex 3 143 76 [.ref 3, .ref 65, .int a2, .int (J (65 + 1) a2.toNatClampNeg).toInt32, .int (J (65 + 1) (a2 + (1 : Int32)).toNatClampNeg).toInt32, .int (J (65 + 1) (a2 + (2 : Int32)).toNatClampNeg).toInt32, .retAddr 0] [.int x_19] (97, I, J, R) _
                          refine az_E.br (c := x_19 = 0) (tt := 83) (ff := 79) (L' := [.ref 3, .ref 65, .int a2, .int (J (65 + 1) a2.toNatClampNeg).toInt32, .int (J (65 + 1) (a2 + (1 : Int32)).toNatClampNeg).toInt32, .int (J (65 + 1) (a2 + (2 : Int32)).toNatClampNeg).toInt32, .retAddr 0]) (S' := []) (σ' := (97, I, J, R)) rfl (fun hc_21 => ?_) (fun hc_21 => ?_)
                          · rw [if_pos hc_21] at h
                            exact az_E.forget (L := [.ref 3, .retAddr 0, .retAddr 0, .int (J (65 + 1) a2.toNatClampNeg).toInt32, .int (J (65 + 1) (a2 + (1 : Int32)).toNatClampNeg).toInt32, .int (J (65 + 1) (a2 + (2 : Int32)).toNatClampNeg).toInt32, .retAddr 0]) ⟨rfl, trivial, trivial, rfl, rfl, rfl, trivial, trivial⟩ (re_X_addFromRow_83_65 (I := I) (J := J) (R := R)  h hQ)
                          · rw [if_neg hc_21] at h
                            refine az_E.sn 2 (pc' := 84) (L' := [.ref 3, .ref 65, .int a2, .int (J (65 + 1) a2.toNatClampNeg).toInt32, .int (J (65 + 1) (a2 + (1 : Int32)).toNatClampNeg).toInt32, .int (J (65 + 1) (a2 + (2 : Int32)).toNatClampNeg).toInt32, .retAddr 0]) (S' := [.int (1 : Int32)]) (σ' := (97, I, J, R)) rfl ?_
                            exact az_E.forget (L := [.ref 3, .retAddr 0, .retAddr 0, .int (J (65 + 1) a2.toNatClampNeg).toInt32, .int (J (65 + 1) (a2 + (1 : Int32)).toNatClampNeg).toInt32, .int (J (65 + 1) (a2 + (2 : Int32)).toNatClampNeg).toInt32, .retAddr 0]) ⟨rfl, trivial, trivial, rfl, rfl, rfl, trivial, trivial⟩ (re_X_addFromRow_84_65 (I := I) (J := J) (R := R)  h hQ)
        · rw [if_neg hc_4] at h
          refine az_E.sn 1 (pc' := 22) (L' := [.ref 3, .ref 65, .int a2, .retAddr 0, .retAddr 0, .retAddr 0, .retAddr 0]) (S' := [.int (0 : Int32)]) (σ' := (97, I, J, R)) rfl ?_
          have h := Option.some.inj h
          subst h
          exact az_E.ret (v := some (.int (0 : Int32))) (σ' := (97, I, J, R)) rfl hQ
set_option maxRecDepth 100000 in
set_option maxHeartbeats 4000000 in
theorem re_X_addFromRow_84_67 {ex : az_X} {I : Nat → Nat → Int32} {J : Nat → Nat → Int64} {R : Nat → Nat → Option Nat} {v3 : Int32} {v4 : Int32} {v5 : Int32} {s0 : Int32} {x : Int32 × (Nat → Nat → Int32)} (h : rs_X_addFromRow_84 67 I J v3 v4 v5 s0 = some x) {Q : Option Value → az_S → Prop} (hQ : Q (some (.int x.1)) (97, x.2, J, R)) : az_E az_F ex 3 143 84 [.ref 3, .retAddr 0, .retAddr 0, .int v3, .int v4, .int v5, .retAddr 0] [.int s0] (97, I, J, R) Q := by
  unfold rs_X_addFromRow_84 at h
  refine az_E.sn 2 (pc' := 88) (L' := [.ref 3, .retAddr 0, .retAddr 0, .int v3, .int v4, .int v5, .int s0]) (S' := [.int s0]) (σ' := (97, I, J, R)) rfl ?_
  refine az_E.br (c := s0 = 0) (tt := 110) (ff := 91) (L' := [.ref 3, .retAddr 0, .retAddr 0, .int v3, .int v4, .int v5, .int s0]) (S' := []) (σ' := (97, I, J, R)) rfl (fun hc_11 => ?_) (fun hc_11 => ?_)
  · rw [if_pos hc_11] at h
    refine az_E.sn 1 (pc' := 111) (L' := [.ref 3, .retAddr 0, .retAddr 0, .int v3, .int v4, .int v5, .int s0]) (S' := [.int (0 : Int32)]) (σ' := (97, I, J, R)) rfl ?_
    have h := Option.some.inj h
    subst h
    exact az_E.ret (v := some (.int (0 : Int32))) (σ' := (97, I, J, R)) rfl hQ
  · rw [if_neg hc_11] at h
    refine az_E.sn 5 (pc' := 100) (L' := [.ref 3, .retAddr 0, .retAddr 0, .int v3, .int v4, .int v5, .int s0]) (S' := [.int v5, .int v4, .int v3, .ref 4]) (σ' := (97, I, J, R)) rfl ?_
    cases hx_14 : rs_Mo_addWalker I v3 v4 v5 with
    | none => rw [hx_14] at h; cases h
    | some o =>
      rw [hx_14] at h
      obtain ⟨x_12, I_13⟩ := o
      dsimp only at h
      refine az_E.call (d := 2) (k' := 36) (vs := [.ref 4, .int v3, .int v4, .int v5]) (pc' := 103) (S' := []) (Q1 := fun v s => v = some (.int x_12) ∧ s = (97, I_13, J, R)) rfl (az_E.deep (by omega) (re_Mo_addWalker (J := J) (R := R)  hx_14 ⟨rfl, rfl⟩)) (fun v s hq => ?_)
      obtain ⟨rfl, rfl⟩ := hq
      show az_E az_F ex 3 143 103 [.ref 3, .retAddr 0, .retAddr 0, .int v3, .int v4, .int v5, .int s0] [.int x_12] (97, I_13, J, R) _
      refine az_E.br (c := x_12 < 0) (tt := 110) (ff := 106) (L' := [.ref 3, .retAddr 0, .retAddr 0, .int v3, .int v4, .int v5, .int s0]) (S' := []) (σ' := (97, I_13, J, R)) rfl (fun hc_15 => ?_) (fun hc_15 => ?_)
      · rw [if_pos hc_15] at h
        refine az_E.sn 1 (pc' := 111) (L' := [.ref 3, .retAddr 0, .retAddr 0, .int v3, .int v4, .int v5, .int s0]) (S' := [.int (0 : Int32)]) (σ' := (97, I_13, J, R)) rfl ?_
        have h := Option.some.inj h
        subst h
        exact az_E.ret (v := some (.int (0 : Int32))) (σ' := (97, I_13, J, R)) rfl hQ
      · rw [if_neg hc_15] at h
        refine az_E.sn 2 (pc' := 111) (L' := [.ref 3, .retAddr 0, .retAddr 0, .int v3, .int v4, .int v5, .int s0]) (S' := [.int (1 : Int32)]) (σ' := (97, I_13, J, R)) rfl ?_
        have h := Option.some.inj h
        subst h
        exact az_E.ret (v := some (.int (1 : Int32))) (σ' := (97, I_13, J, R)) rfl hQ
set_option maxRecDepth 100000 in
set_option maxHeartbeats 4000000 in
theorem re_X_addFromRow_83_67 {ex : az_X} {I : Nat → Nat → Int32} {J : Nat → Nat → Int64} {R : Nat → Nat → Option Nat} {v3 : Int32} {v4 : Int32} {v5 : Int32} {x : Int32 × (Nat → Nat → Int32)} (h : rs_X_addFromRow_83 67 I J v3 v4 v5 = some x) {Q : Option Value → az_S → Prop} (hQ : Q (some (.int x.1)) (97, x.2, J, R)) : az_E az_F ex 3 143 83 [.ref 3, .retAddr 0, .retAddr 0, .int v3, .int v4, .int v5, .retAddr 0] [] (97, I, J, R) Q := by
  unfold rs_X_addFromRow_83 at h
  refine az_E.sn 1 (pc' := 84) (L' := [.ref 3, .retAddr 0, .retAddr 0, .int v3, .int v4, .int v5, .retAddr 0]) (S' := [.int (0 : Int32)]) (σ' := (97, I, J, R)) rfl ?_
  exact az_E.forget (L := [.ref 3, .retAddr 0, .retAddr 0, .int v3, .int v4, .int v5, .retAddr 0]) ⟨rfl, trivial, trivial, rfl, rfl, rfl, trivial, trivial⟩ (re_X_addFromRow_84_67 (I := I) (J := J) (R := R)  h hQ)
set_option maxRecDepth 100000 in
set_option maxHeartbeats 4000000 in
theorem re_X_addFromRow_67 {ex : az_X} {I : Nat → Nat → Int32} {J : Nat → Nat → Int64} {R : Nat → Nat → Option Nat} {a2 : Int32} {o : Int32 × (Nat → Nat → Int32)} (h : rs_X_addFromRow 67 I J a2 = some o) {Q : Option Value → az_S → Prop} (hQ : Q (some (.int o.1)) (97, o.2, J, R)) : az_E az_F ex 3 143 0 [.ref 3, .ref 67, .int a2, .retAddr 0, .retAddr 0, .retAddr 0, .retAddr 0] [] (97, I, J, R) Q := by
  unfold rs_X_addFromRow at h
  refine az_E.sn 3 (pc' := 3) (L' := [.ref 3, .ref 67, .int a2, .retAddr 0, .retAddr 0, .retAddr 0, .retAddr 0]) (S' := [.int (3 : Int32), .int a2, .ref 67]) (σ' := (97, I, J, R)) rfl ?_
  refine az_E.call (d := 2) (k' := 60) (vs := [.ref 67, .int a2, .int (3 : Int32)]) (pc' := 6) (S' := []) rfl ?_ (fun _ _ hq => hq)
  show az_E az_F ex 2 60 0 [.ref 67, .int a2, .int (3 : Int32)] [] (97, I, J, R) _
  refine az_E.sn 1 (pc' := 1) (L' := [.ref 67, .int a2, .int (3 : Int32)]) (S' := [.int a2]) (σ' := (97, I, J, R)) rfl ?_
  refine az_E.br (c := a2 < 0) (tt := 30) (ff := 4) (L' := [.ref 67, .int a2, .int (3 : Int32)]) (S' := []) (σ' := (97, I, J, R)) rfl (fun hc_1 => ?_) (fun hc_1 => ?_)
  · rw [if_pos hc_1] at h
    refine az_E.sn 1 (pc' := 31) (L' := [.ref 67, .int a2, .int (3 : Int32)]) (S' := [.int (0 : Int32)]) (σ' := (97, I, J, R)) rfl ?_
    refine az_E.ret (v := some (.int (0 : Int32))) (σ' := (97, I, J, R)) rfl ?_
    show az_E az_F ex 3 143 6 [.ref 3, .ref 67, .int a2, .retAddr 0, .retAddr 0, .retAddr 0, .retAddr 0] [.int (0 : Int32)] (97, I, J, R) _
    refine az_E.br (c := (0 : Int32) = 0) (tt := 21) (ff := 9) (L' := [.ref 3, .ref 67, .int a2, .retAddr 0, .retAddr 0, .retAddr 0, .retAddr 0]) (S' := []) (σ' := (97, I, J, R)) rfl (fun _ => ?_) (fun hn => absurd (by decide) hn)
    refine az_E.sn 1 (pc' := 22) (L' := [.ref 3, .ref 67, .int a2, .retAddr 0, .retAddr 0, .retAddr 0, .retAddr 0]) (S' := [.int (0 : Int32)]) (σ' := (97, I, J, R)) rfl ?_
    have h := Option.some.inj h
    subst h
    exact az_E.ret (v := some (.int (0 : Int32))) (σ' := (97, I, J, R)) rfl hQ
  · rw [if_neg hc_1] at h
    refine az_E.sn 1 (pc' := 5) (L' := [.ref 67, .int a2, .int (3 : Int32)]) (S' := [.int (3 : Int32)]) (σ' := (97, I, J, R)) rfl ?_
    refine az_E.br (c := (3 : Int32) < 0) (tt := 30) (ff := 8) (L' := [.ref 67, .int a2, .int (3 : Int32)]) (S' := []) (σ' := (97, I, J, R)) rfl (fun hn => absurd hn (by decide)) (fun _ => ?_)
    refine az_E.sn 3 (pc' := 13) (L' := [.ref 67, .int a2, .int (3 : Int32)]) (S' := [.int (I 67 2), .int a2]) (σ' := (97, I, J, R)) rfl ?_
    refine az_E.br (c := (I 67 2) < a2) (tt := 30) (ff := 16) (L' := [.ref 67, .int a2, .int (3 : Int32)]) (S' := []) (σ' := (97, I, J, R)) rfl (fun hc_2 => ?_) (fun hc_2 => ?_)
    · rw [if_pos hc_2] at h
      refine az_E.sn 1 (pc' := 31) (L' := [.ref 67, .int a2, .int (3 : Int32)]) (S' := [.int (0 : Int32)]) (σ' := (97, I, J, R)) rfl ?_
      refine az_E.ret (v := some (.int (0 : Int32))) (σ' := (97, I, J, R)) rfl ?_
      show az_E az_F ex 3 143 6 [.ref 3, .ref 67, .int a2, .retAddr 0, .retAddr 0, .retAddr 0, .retAddr 0] [.int (0 : Int32)] (97, I, J, R) _
      refine az_E.br (c := (0 : Int32) = 0) (tt := 21) (ff := 9) (L' := [.ref 3, .ref 67, .int a2, .retAddr 0, .retAddr 0, .retAddr 0, .retAddr 0]) (S' := []) (σ' := (97, I, J, R)) rfl (fun _ => ?_) (fun hn => absurd (by decide) hn)
      refine az_E.sn 1 (pc' := 22) (L' := [.ref 3, .ref 67, .int a2, .retAddr 0, .retAddr 0, .retAddr 0, .retAddr 0]) (S' := [.int (0 : Int32)]) (σ' := (97, I, J, R)) rfl ?_
      have h := Option.some.inj h
      subst h
      exact az_E.ret (v := some (.int (0 : Int32))) (σ' := (97, I, J, R)) rfl hQ
    · rw [if_neg hc_2] at h
      refine az_E.sn 5 (pc' := 23) (L' := [.ref 67, .int a2, .int (3 : Int32)]) (S' := [.int ((I 67 2) - a2), .int (3 : Int32)]) (σ' := (97, I, J, R)) rfl ?_
      refine az_E.br (c := ((I 67 2) - a2) < (3 : Int32)) (tt := 30) (ff := 26) (L' := [.ref 67, .int a2, .int (3 : Int32)]) (S' := []) (σ' := (97, I, J, R)) rfl (fun hc_3 => ?_) (fun hc_3 => ?_)
      · rw [if_pos hc_3] at h
        refine az_E.sn 1 (pc' := 31) (L' := [.ref 67, .int a2, .int (3 : Int32)]) (S' := [.int (0 : Int32)]) (σ' := (97, I, J, R)) rfl ?_
        refine az_E.ret (v := some (.int (0 : Int32))) (σ' := (97, I, J, R)) rfl ?_
        show az_E az_F ex 3 143 6 [.ref 3, .ref 67, .int a2, .retAddr 0, .retAddr 0, .retAddr 0, .retAddr 0] [.int (0 : Int32)] (97, I, J, R) _
        refine az_E.br (c := (0 : Int32) = 0) (tt := 21) (ff := 9) (L' := [.ref 3, .ref 67, .int a2, .retAddr 0, .retAddr 0, .retAddr 0, .retAddr 0]) (S' := []) (σ' := (97, I, J, R)) rfl (fun _ => ?_) (fun hn => absurd (by decide) hn)
        refine az_E.sn 1 (pc' := 22) (L' := [.ref 3, .ref 67, .int a2, .retAddr 0, .retAddr 0, .retAddr 0, .retAddr 0]) (S' := [.int (0 : Int32)]) (σ' := (97, I, J, R)) rfl ?_
        have h := Option.some.inj h
        subst h
        exact az_E.ret (v := some (.int (0 : Int32))) (σ' := (97, I, J, R)) rfl hQ
      · rw [if_neg hc_3] at h
        refine az_E.sn 2 (pc' := 31) (L' := [.ref 67, .int a2, .int (3 : Int32)]) (S' := [.int (1 : Int32)]) (σ' := (97, I, J, R)) rfl ?_
        refine az_E.ret (v := some (.int (1 : Int32))) (σ' := (97, I, J, R)) rfl ?_
        show az_E az_F ex 3 143 6 [.ref 3, .ref 67, .int a2, .retAddr 0, .retAddr 0, .retAddr 0, .retAddr 0] [.int (1 : Int32)] (97, I, J, R) _
        refine az_E.br (c := (1 : Int32) = 0) (tt := 21) (ff := 9) (L' := [.ref 3, .ref 67, .int a2, .retAddr 0, .retAddr 0, .retAddr 0, .retAddr 0]) (S' := []) (σ' := (97, I, J, R)) rfl (fun hn => absurd hn (by decide)) (fun _ => ?_)
        refine az_E.sn 4 (pc' := 18) (L' := [.ref 3, .ref 67, .int a2, .retAddr 0, .retAddr 0, .retAddr 0, .retAddr 0]) (S' := [.int (6 : Int32), .int (I 4 9)]) (σ' := (97, I, J, R)) rfl ?_
        refine az_E.br (c := (I 4 9) < (6 : Int32)) (tt := 23) (ff := 21) (L' := [.ref 3, .ref 67, .int a2, .retAddr 0, .retAddr 0, .retAddr 0, .retAddr 0]) (S' := []) (σ' := (97, I, J, R)) rfl (fun hc_4 => ?_) (fun hc_4 => ?_)
        · rw [if_pos hc_4] at h
          refine az_E.sn 3 (pc' := 28) (L' := [.ref 3, .ref 67, .int a2, .retAddr 0, .retAddr 0, .retAddr 0, .retAddr 0]) (S' := [.int a2, .ref (67 + 1)]) (σ' := (97, I, J, R)) rfl ?_
          by_cases hc_5 : a2 < 0 ∨ 60 ≤ a2.toNatClampNeg
          · rw [if_pos hc_5] at h; cases h
          · rw [if_neg hc_5] at h
            refine az_E.ol (o := az_al az_F (97, I, J, R) (67 + 1) a2) (pc' := 29) (L' := [.ref 3, .ref 67, .int a2, .retAddr 0, .retAddr 0, .retAddr 0, .retAddr 0]) (S' := []) (σ' := (97, I, J, R)) (x := (J (67 + 1) a2.toNatClampNeg)) rfl (if_neg hc_5) ?_
            refine az_E.sn 7 (pc' := 38) (L' := [.ref 3, .ref 67, .int a2, .int (J (67 + 1) a2.toNatClampNeg).toInt32, .retAddr 0, .retAddr 0, .retAddr 0]) (S' := [.int (a2 + (1 : Int32)), .ref (67 + 1)]) (σ' := (97, I, J, R)) rfl ?_
            by_cases hc_6 : (a2 + (1 : Int32)) < 0 ∨ 60 ≤ (a2 + (1 : Int32)).toNatClampNeg
            · rw [if_pos hc_6] at h; cases h
            · rw [if_neg hc_6] at h
              refine az_E.ol (o := az_al az_F (97, I, J, R) (67 + 1) (a2 + (1 : Int32))) (pc' := 39) (L' := [.ref 3, .ref 67, .int a2, .int (J (67 + 1) a2.toNatClampNeg).toInt32, .retAddr 0, .retAddr 0, .retAddr 0]) (S' := []) (σ' := (97, I, J, R)) (x := (J (67 + 1) (a2 + (1 : Int32)).toNatClampNeg)) rfl (if_neg hc_6) ?_
              refine az_E.sn 7 (pc' := 49) (L' := [.ref 3, .ref 67, .int a2, .int (J (67 + 1) a2.toNatClampNeg).toInt32, .int (J (67 + 1) (a2 + (1 : Int32)).toNatClampNeg).toInt32, .retAddr 0, .retAddr 0]) (S' := [.int (a2 + (2 : Int32)), .ref (67 + 1)]) (σ' := (97, I, J, R)) rfl ?_
              by_cases hc_7 : (a2 + (2 : Int32)) < 0 ∨ 60 ≤ (a2 + (2 : Int32)).toNatClampNeg
              · rw [if_pos hc_7] at h; cases h
              · rw [if_neg hc_7] at h
                refine az_E.ol (o := az_al az_F (97, I, J, R) (67 + 1) (a2 + (2 : Int32))) (pc' := 50) (L' := [.ref 3, .ref 67, .int a2, .int (J (67 + 1) a2.toNatClampNeg).toInt32, .int (J (67 + 1) (a2 + (1 : Int32)).toNatClampNeg).toInt32, .retAddr 0, .retAddr 0]) (S' := []) (σ' := (97, I, J, R)) (x := (J (67 + 1) (a2 + (2 : Int32)).toNatClampNeg)) rfl (if_neg hc_7) ?_
                refine az_E.sn 4 (pc' := 55) (L' := [.ref 3, .ref 67, .int a2, .int (J (67 + 1) a2.toNatClampNeg).toInt32, .int (J (67 + 1) (a2 + (1 : Int32)).toNatClampNeg).toInt32, .int (J (67 + 1) (a2 + (2 : Int32)).toNatClampNeg).toInt32, .retAddr 0]) (S' := [.int (J (67 + 1) a2.toNatClampNeg).toInt32, .int (3 : Int32)]) (σ' := (97, I, J, R)) rfl ?_
                cases hx_9 : rs_Mo_isFit (3 : Int32) (J (67 + 1) a2.toNatClampNeg).toInt32 with
                | none => rw [hx_9] at h; cases h
                | some x_8 =>
                  rw [hx_9] at h
                  dsimp only at h
                  refine az_E.call (d := 2) (k' := 38) (vs := [.int (3 : Int32), .int (J (67 + 1) a2.toNatClampNeg).toInt32]) (pc' := 58) (S' := []) (Q1 := fun v s => v = some (.int x_8) ∧ s = (97, I, J, R)) rfl (az_E.deep (by omega) (re_Mo_isFit (J := J) (R := R)  hx_9 ⟨rfl, rfl⟩)) (fun v s hq => ?_)
                  obtain ⟨rfl, rfl⟩ := hq
                  show az_E az_F ex 3 143 58 [.ref 3, .ref 67, .int a2, .int (J (67 + 1) a2.toNatClampNeg).toInt32, .int (J (67 + 1) (a2 + (1 : Int32)).toNatClampNeg).toInt32, .int (J (67 + 1) (a2 + (2 : Int32)).toNatClampNeg).toInt32, .retAddr 0] [.int x_8] (97, I, J, R) _
                  refine az_E.br (c := x_8 = 0) (tt := 83) (ff := 61) (L' := [.ref 3, .ref 67, .int a2, .int (J (67 + 1) a2.toNatClampNeg).toInt32, .int (J (67 + 1) (a2 + (1 : Int32)).toNatClampNeg).toInt32, .int (J (67 + 1) (a2 + (2 : Int32)).toNatClampNeg).toInt32, .retAddr 0]) (S' := []) (σ' := (97, I, J, R)) rfl (fun hc_10 => ?_) (fun hc_10 => ?_)
                  · rw [if_pos hc_10] at h
                    exact az_E.forget (L := [.ref 3, .retAddr 0, .retAddr 0, .int (J (67 + 1) a2.toNatClampNeg).toInt32, .int (J (67 + 1) (a2 + (1 : Int32)).toNatClampNeg).toInt32, .int (J (67 + 1) (a2 + (2 : Int32)).toNatClampNeg).toInt32, .retAddr 0]) ⟨rfl, trivial, trivial, rfl, rfl, rfl, trivial, trivial⟩ (re_X_addFromRow_83_67 (I := I) (J := J) (R := R)  h hQ)
                  · rw [if_neg hc_10] at h
                    refine az_E.sn 2 (pc' := 64) (L' := [.ref 3, .ref 67, .int a2, .int (J (67 + 1) a2.toNatClampNeg).toInt32, .int (J (67 + 1) (a2 + (1 : Int32)).toNatClampNeg).toInt32, .int (J (67 + 1) (a2 + (2 : Int32)).toNatClampNeg).toInt32, .retAddr 0]) (S' := [.int (J (67 + 1) (a2 + (1 : Int32)).toNatClampNeg).toInt32, .int (4 : Int32)]) (σ' := (97, I, J, R)) rfl ?_
                    cases hx_17 : rs_Mo_isFit (4 : Int32) (J (67 + 1) (a2 + (1 : Int32)).toNatClampNeg).toInt32 with
                    | none => rw [hx_17] at h; cases h
                    | some x_16 =>
                      rw [hx_17] at h
                      dsimp only at h
                      refine az_E.call (d := 2) (k' := 38) (vs := [.int (4 : Int32), .int (J (67 + 1) (a2 + (1 : Int32)).toNatClampNeg).toInt32]) (pc' := 67) (S' := []) (Q1 := fun v s => v = some (.int x_16) ∧ s = (97, I, J, R)) rfl (az_E.deep (by omega) (re_Mo_isFit (J := J) (R := R)  hx_17 ⟨rfl, rfl⟩)) (fun v s hq => ?_)
                      obtain ⟨rfl, rfl⟩ := hq
                      show az_E az_F ex 3 143 67 [.ref 3, .ref 67, .int a2, .int (J (67 + 1) a2.toNatClampNeg).toInt32, .int (J (67 + 1) (a2 + (1 : Int32)).toNatClampNeg).toInt32, .int (J (67 + 1) (a2 + (2 : Int32)).toNatClampNeg).toInt32, .retAddr 0] [.int x_16] (97, I, J, R) _
                      refine az_E.br (c := x_16 = 0) (tt := 83) (ff := 70) (L' := [.ref 3, .ref 67, .int a2, .int (J (67 + 1) a2.toNatClampNeg).toInt32, .int (J (67 + 1) (a2 + (1 : Int32)).toNatClampNeg).toInt32, .int (J (67 + 1) (a2 + (2 : Int32)).toNatClampNeg).toInt32, .retAddr 0]) (S' := []) (σ' := (97, I, J, R)) rfl (fun hc_18 => ?_) (fun hc_18 => ?_)
                      · rw [if_pos hc_18] at h
                        exact az_E.forget (L := [.ref 3, .retAddr 0, .retAddr 0, .int (J (67 + 1) a2.toNatClampNeg).toInt32, .int (J (67 + 1) (a2 + (1 : Int32)).toNatClampNeg).toInt32, .int (J (67 + 1) (a2 + (2 : Int32)).toNatClampNeg).toInt32, .retAddr 0]) ⟨rfl, trivial, trivial, rfl, rfl, rfl, trivial, trivial⟩ (re_X_addFromRow_83_67 (I := I) (J := J) (R := R)  h hQ)
                      · rw [if_neg hc_18] at h
                        refine az_E.sn 2 (pc' := 73) (L' := [.ref 3, .ref 67, .int a2, .int (J (67 + 1) a2.toNatClampNeg).toInt32, .int (J (67 + 1) (a2 + (1 : Int32)).toNatClampNeg).toInt32, .int (J (67 + 1) (a2 + (2 : Int32)).toNatClampNeg).toInt32, .retAddr 0]) (S' := [.int (J (67 + 1) (a2 + (2 : Int32)).toNatClampNeg).toInt32, .int (5 : Int32)]) (σ' := (97, I, J, R)) rfl ?_
                        cases hx_20 : rs_Mo_isFit (5 : Int32) (J (67 + 1) (a2 + (2 : Int32)).toNatClampNeg).toInt32 with
                        | none => rw [hx_20] at h; cases h
                        | some x_19 =>
                          rw [hx_20] at h
                          dsimp only at h
                          refine az_E.call (d := 2) (k' := 38) (vs := [.int (5 : Int32), .int (J (67 + 1) (a2 + (2 : Int32)).toNatClampNeg).toInt32]) (pc' := 76) (S' := []) (Q1 := fun v s => v = some (.int x_19) ∧ s = (97, I, J, R)) rfl (az_E.deep (by omega) (re_Mo_isFit (J := J) (R := R)  hx_20 ⟨rfl, rfl⟩)) (fun v s hq => ?_)
                          obtain ⟨rfl, rfl⟩ := hq
                          show az_E az_F ex 3 143 76 [.ref 3, .ref 67, .int a2, .int (J (67 + 1) a2.toNatClampNeg).toInt32, .int (J (67 + 1) (a2 + (1 : Int32)).toNatClampNeg).toInt32, .int (J (67 + 1) (a2 + (2 : Int32)).toNatClampNeg).toInt32, .retAddr 0] [.int x_19] (97, I, J, R) _
                          refine az_E.br (c := x_19 = 0) (tt := 83) (ff := 79) (L' := [.ref 3, .ref 67, .int a2, .int (J (67 + 1) a2.toNatClampNeg).toInt32, .int (J (67 + 1) (a2 + (1 : Int32)).toNatClampNeg).toInt32, .int (J (67 + 1) (a2 + (2 : Int32)).toNatClampNeg).toInt32, .retAddr 0]) (S' := []) (σ' := (97, I, J, R)) rfl (fun hc_21 => ?_) (fun hc_21 => ?_)
                          · rw [if_pos hc_21] at h
                            exact az_E.forget (L := [.ref 3, .retAddr 0, .retAddr 0, .int (J (67 + 1) a2.toNatClampNeg).toInt32, .int (J (67 + 1) (a2 + (1 : Int32)).toNatClampNeg).toInt32, .int (J (67 + 1) (a2 + (2 : Int32)).toNatClampNeg).toInt32, .retAddr 0]) ⟨rfl, trivial, trivial, rfl, rfl, rfl, trivial, trivial⟩ (re_X_addFromRow_83_67 (I := I) (J := J) (R := R)  h hQ)
                          · rw [if_neg hc_21] at h
                            refine az_E.sn 2 (pc' := 84) (L' := [.ref 3, .ref 67, .int a2, .int (J (67 + 1) a2.toNatClampNeg).toInt32, .int (J (67 + 1) (a2 + (1 : Int32)).toNatClampNeg).toInt32, .int (J (67 + 1) (a2 + (2 : Int32)).toNatClampNeg).toInt32, .retAddr 0]) (S' := [.int (1 : Int32)]) (σ' := (97, I, J, R)) rfl ?_
                            exact az_E.forget (L := [.ref 3, .retAddr 0, .retAddr 0, .int (J (67 + 1) a2.toNatClampNeg).toInt32, .int (J (67 + 1) (a2 + (1 : Int32)).toNatClampNeg).toInt32, .int (J (67 + 1) (a2 + (2 : Int32)).toNatClampNeg).toInt32, .retAddr 0]) ⟨rfl, trivial, trivial, rfl, rfl, rfl, trivial, trivial⟩ (re_X_addFromRow_84_67 (I := I) (J := J) (R := R)  h hQ)
        · rw [if_neg hc_4] at h
          refine az_E.sn 1 (pc' := 22) (L' := [.ref 3, .ref 67, .int a2, .retAddr 0, .retAddr 0, .retAddr 0, .retAddr 0]) (S' := [.int (0 : Int32)]) (σ' := (97, I, J, R)) rfl ?_
          have h := Option.some.inj h
          subst h
          exact az_E.ret (v := some (.int (0 : Int32))) (σ' := (97, I, J, R)) rfl hQ
set_option maxRecDepth 100000 in
set_option maxHeartbeats 4000000 in
theorem re_X_addFromRow_84_69 {ex : az_X} {I : Nat → Nat → Int32} {J : Nat → Nat → Int64} {R : Nat → Nat → Option Nat} {v3 : Int32} {v4 : Int32} {v5 : Int32} {s0 : Int32} {x : Int32 × (Nat → Nat → Int32)} (h : rs_X_addFromRow_84 69 I J v3 v4 v5 s0 = some x) {Q : Option Value → az_S → Prop} (hQ : Q (some (.int x.1)) (97, x.2, J, R)) : az_E az_F ex 3 143 84 [.ref 3, .retAddr 0, .retAddr 0, .int v3, .int v4, .int v5, .retAddr 0] [.int s0] (97, I, J, R) Q := by
  unfold rs_X_addFromRow_84 at h
  refine az_E.sn 2 (pc' := 88) (L' := [.ref 3, .retAddr 0, .retAddr 0, .int v3, .int v4, .int v5, .int s0]) (S' := [.int s0]) (σ' := (97, I, J, R)) rfl ?_
  refine az_E.br (c := s0 = 0) (tt := 110) (ff := 91) (L' := [.ref 3, .retAddr 0, .retAddr 0, .int v3, .int v4, .int v5, .int s0]) (S' := []) (σ' := (97, I, J, R)) rfl (fun hc_11 => ?_) (fun hc_11 => ?_)
  · rw [if_pos hc_11] at h
    refine az_E.sn 1 (pc' := 111) (L' := [.ref 3, .retAddr 0, .retAddr 0, .int v3, .int v4, .int v5, .int s0]) (S' := [.int (0 : Int32)]) (σ' := (97, I, J, R)) rfl ?_
    have h := Option.some.inj h
    subst h
    exact az_E.ret (v := some (.int (0 : Int32))) (σ' := (97, I, J, R)) rfl hQ
  · rw [if_neg hc_11] at h
    refine az_E.sn 5 (pc' := 100) (L' := [.ref 3, .retAddr 0, .retAddr 0, .int v3, .int v4, .int v5, .int s0]) (S' := [.int v5, .int v4, .int v3, .ref 4]) (σ' := (97, I, J, R)) rfl ?_
    cases hx_14 : rs_Mo_addWalker I v3 v4 v5 with
    | none => rw [hx_14] at h; cases h
    | some o =>
      rw [hx_14] at h
      obtain ⟨x_12, I_13⟩ := o
      dsimp only at h
      refine az_E.call (d := 2) (k' := 36) (vs := [.ref 4, .int v3, .int v4, .int v5]) (pc' := 103) (S' := []) (Q1 := fun v s => v = some (.int x_12) ∧ s = (97, I_13, J, R)) rfl (az_E.deep (by omega) (re_Mo_addWalker (J := J) (R := R)  hx_14 ⟨rfl, rfl⟩)) (fun v s hq => ?_)
      obtain ⟨rfl, rfl⟩ := hq
      show az_E az_F ex 3 143 103 [.ref 3, .retAddr 0, .retAddr 0, .int v3, .int v4, .int v5, .int s0] [.int x_12] (97, I_13, J, R) _
      refine az_E.br (c := x_12 < 0) (tt := 110) (ff := 106) (L' := [.ref 3, .retAddr 0, .retAddr 0, .int v3, .int v4, .int v5, .int s0]) (S' := []) (σ' := (97, I_13, J, R)) rfl (fun hc_15 => ?_) (fun hc_15 => ?_)
      · rw [if_pos hc_15] at h
        refine az_E.sn 1 (pc' := 111) (L' := [.ref 3, .retAddr 0, .retAddr 0, .int v3, .int v4, .int v5, .int s0]) (S' := [.int (0 : Int32)]) (σ' := (97, I_13, J, R)) rfl ?_
        have h := Option.some.inj h
        subst h
        exact az_E.ret (v := some (.int (0 : Int32))) (σ' := (97, I_13, J, R)) rfl hQ
      · rw [if_neg hc_15] at h
        refine az_E.sn 2 (pc' := 111) (L' := [.ref 3, .retAddr 0, .retAddr 0, .int v3, .int v4, .int v5, .int s0]) (S' := [.int (1 : Int32)]) (σ' := (97, I_13, J, R)) rfl ?_
        have h := Option.some.inj h
        subst h
        exact az_E.ret (v := some (.int (1 : Int32))) (σ' := (97, I_13, J, R)) rfl hQ
set_option maxRecDepth 100000 in
set_option maxHeartbeats 4000000 in
theorem re_X_addFromRow_83_69 {ex : az_X} {I : Nat → Nat → Int32} {J : Nat → Nat → Int64} {R : Nat → Nat → Option Nat} {v3 : Int32} {v4 : Int32} {v5 : Int32} {x : Int32 × (Nat → Nat → Int32)} (h : rs_X_addFromRow_83 69 I J v3 v4 v5 = some x) {Q : Option Value → az_S → Prop} (hQ : Q (some (.int x.1)) (97, x.2, J, R)) : az_E az_F ex 3 143 83 [.ref 3, .retAddr 0, .retAddr 0, .int v3, .int v4, .int v5, .retAddr 0] [] (97, I, J, R) Q := by
  unfold rs_X_addFromRow_83 at h
  refine az_E.sn 1 (pc' := 84) (L' := [.ref 3, .retAddr 0, .retAddr 0, .int v3, .int v4, .int v5, .retAddr 0]) (S' := [.int (0 : Int32)]) (σ' := (97, I, J, R)) rfl ?_
  exact az_E.forget (L := [.ref 3, .retAddr 0, .retAddr 0, .int v3, .int v4, .int v5, .retAddr 0]) ⟨rfl, trivial, trivial, rfl, rfl, rfl, trivial, trivial⟩ (re_X_addFromRow_84_69 (I := I) (J := J) (R := R)  h hQ)
set_option maxRecDepth 100000 in
set_option maxHeartbeats 4000000 in
theorem re_X_addFromRow_69 {ex : az_X} {I : Nat → Nat → Int32} {J : Nat → Nat → Int64} {R : Nat → Nat → Option Nat} {a2 : Int32} {o : Int32 × (Nat → Nat → Int32)} (h : rs_X_addFromRow 69 I J a2 = some o) {Q : Option Value → az_S → Prop} (hQ : Q (some (.int o.1)) (97, o.2, J, R)) : az_E az_F ex 3 143 0 [.ref 3, .ref 69, .int a2, .retAddr 0, .retAddr 0, .retAddr 0, .retAddr 0] [] (97, I, J, R) Q := by
  unfold rs_X_addFromRow at h
  refine az_E.sn 3 (pc' := 3) (L' := [.ref 3, .ref 69, .int a2, .retAddr 0, .retAddr 0, .retAddr 0, .retAddr 0]) (S' := [.int (3 : Int32), .int a2, .ref 69]) (σ' := (97, I, J, R)) rfl ?_
  refine az_E.call (d := 2) (k' := 60) (vs := [.ref 69, .int a2, .int (3 : Int32)]) (pc' := 6) (S' := []) rfl ?_ (fun _ _ hq => hq)
  show az_E az_F ex 2 60 0 [.ref 69, .int a2, .int (3 : Int32)] [] (97, I, J, R) _
  refine az_E.sn 1 (pc' := 1) (L' := [.ref 69, .int a2, .int (3 : Int32)]) (S' := [.int a2]) (σ' := (97, I, J, R)) rfl ?_
  refine az_E.br (c := a2 < 0) (tt := 30) (ff := 4) (L' := [.ref 69, .int a2, .int (3 : Int32)]) (S' := []) (σ' := (97, I, J, R)) rfl (fun hc_1 => ?_) (fun hc_1 => ?_)
  · rw [if_pos hc_1] at h
    refine az_E.sn 1 (pc' := 31) (L' := [.ref 69, .int a2, .int (3 : Int32)]) (S' := [.int (0 : Int32)]) (σ' := (97, I, J, R)) rfl ?_
    refine az_E.ret (v := some (.int (0 : Int32))) (σ' := (97, I, J, R)) rfl ?_
    show az_E az_F ex 3 143 6 [.ref 3, .ref 69, .int a2, .retAddr 0, .retAddr 0, .retAddr 0, .retAddr 0] [.int (0 : Int32)] (97, I, J, R) _
    refine az_E.br (c := (0 : Int32) = 0) (tt := 21) (ff := 9) (L' := [.ref 3, .ref 69, .int a2, .retAddr 0, .retAddr 0, .retAddr 0, .retAddr 0]) (S' := []) (σ' := (97, I, J, R)) rfl (fun _ => ?_) (fun hn => absurd (by decide) hn)
    refine az_E.sn 1 (pc' := 22) (L' := [.ref 3, .ref 69, .int a2, .retAddr 0, .retAddr 0, .retAddr 0, .retAddr 0]) (S' := [.int (0 : Int32)]) (σ' := (97, I, J, R)) rfl ?_
    have h := Option.some.inj h
    subst h
    exact az_E.ret (v := some (.int (0 : Int32))) (σ' := (97, I, J, R)) rfl hQ
  · rw [if_neg hc_1] at h
    refine az_E.sn 1 (pc' := 5) (L' := [.ref 69, .int a2, .int (3 : Int32)]) (S' := [.int (3 : Int32)]) (σ' := (97, I, J, R)) rfl ?_
    refine az_E.br (c := (3 : Int32) < 0) (tt := 30) (ff := 8) (L' := [.ref 69, .int a2, .int (3 : Int32)]) (S' := []) (σ' := (97, I, J, R)) rfl (fun hn => absurd hn (by decide)) (fun _ => ?_)
    refine az_E.sn 3 (pc' := 13) (L' := [.ref 69, .int a2, .int (3 : Int32)]) (S' := [.int (I 69 2), .int a2]) (σ' := (97, I, J, R)) rfl ?_
    refine az_E.br (c := (I 69 2) < a2) (tt := 30) (ff := 16) (L' := [.ref 69, .int a2, .int (3 : Int32)]) (S' := []) (σ' := (97, I, J, R)) rfl (fun hc_2 => ?_) (fun hc_2 => ?_)
    · rw [if_pos hc_2] at h
      refine az_E.sn 1 (pc' := 31) (L' := [.ref 69, .int a2, .int (3 : Int32)]) (S' := [.int (0 : Int32)]) (σ' := (97, I, J, R)) rfl ?_
      refine az_E.ret (v := some (.int (0 : Int32))) (σ' := (97, I, J, R)) rfl ?_
      show az_E az_F ex 3 143 6 [.ref 3, .ref 69, .int a2, .retAddr 0, .retAddr 0, .retAddr 0, .retAddr 0] [.int (0 : Int32)] (97, I, J, R) _
      refine az_E.br (c := (0 : Int32) = 0) (tt := 21) (ff := 9) (L' := [.ref 3, .ref 69, .int a2, .retAddr 0, .retAddr 0, .retAddr 0, .retAddr 0]) (S' := []) (σ' := (97, I, J, R)) rfl (fun _ => ?_) (fun hn => absurd (by decide) hn)
      refine az_E.sn 1 (pc' := 22) (L' := [.ref 3, .ref 69, .int a2, .retAddr 0, .retAddr 0, .retAddr 0, .retAddr 0]) (S' := [.int (0 : Int32)]) (σ' := (97, I, J, R)) rfl ?_
      have h := Option.some.inj h
      subst h
      exact az_E.ret (v := some (.int (0 : Int32))) (σ' := (97, I, J, R)) rfl hQ
    · rw [if_neg hc_2] at h
      refine az_E.sn 5 (pc' := 23) (L' := [.ref 69, .int a2, .int (3 : Int32)]) (S' := [.int ((I 69 2) - a2), .int (3 : Int32)]) (σ' := (97, I, J, R)) rfl ?_
      refine az_E.br (c := ((I 69 2) - a2) < (3 : Int32)) (tt := 30) (ff := 26) (L' := [.ref 69, .int a2, .int (3 : Int32)]) (S' := []) (σ' := (97, I, J, R)) rfl (fun hc_3 => ?_) (fun hc_3 => ?_)
      · rw [if_pos hc_3] at h
        refine az_E.sn 1 (pc' := 31) (L' := [.ref 69, .int a2, .int (3 : Int32)]) (S' := [.int (0 : Int32)]) (σ' := (97, I, J, R)) rfl ?_
        refine az_E.ret (v := some (.int (0 : Int32))) (σ' := (97, I, J, R)) rfl ?_
        show az_E az_F ex 3 143 6 [.ref 3, .ref 69, .int a2, .retAddr 0, .retAddr 0, .retAddr 0, .retAddr 0] [.int (0 : Int32)] (97, I, J, R) _
        refine az_E.br (c := (0 : Int32) = 0) (tt := 21) (ff := 9) (L' := [.ref 3, .ref 69, .int a2, .retAddr 0, .retAddr 0, .retAddr 0, .retAddr 0]) (S' := []) (σ' := (97, I, J, R)) rfl (fun _ => ?_) (fun hn => absurd (by decide) hn)
        refine az_E.sn 1 (pc' := 22) (L' := [.ref 3, .ref 69, .int a2, .retAddr 0, .retAddr 0, .retAddr 0, .retAddr 0]) (S' := [.int (0 : Int32)]) (σ' := (97, I, J, R)) rfl ?_
        have h := Option.some.inj h
        subst h
        exact az_E.ret (v := some (.int (0 : Int32))) (σ' := (97, I, J, R)) rfl hQ
      · rw [if_neg hc_3] at h
        refine az_E.sn 2 (pc' := 31) (L' := [.ref 69, .int a2, .int (3 : Int32)]) (S' := [.int (1 : Int32)]) (σ' := (97, I, J, R)) rfl ?_
        refine az_E.ret (v := some (.int (1 : Int32))) (σ' := (97, I, J, R)) rfl ?_
        show az_E az_F ex 3 143 6 [.ref 3, .ref 69, .int a2, .retAddr 0, .retAddr 0, .retAddr 0, .retAddr 0] [.int (1 : Int32)] (97, I, J, R) _
        refine az_E.br (c := (1 : Int32) = 0) (tt := 21) (ff := 9) (L' := [.ref 3, .ref 69, .int a2, .retAddr 0, .retAddr 0, .retAddr 0, .retAddr 0]) (S' := []) (σ' := (97, I, J, R)) rfl (fun hn => absurd hn (by decide)) (fun _ => ?_)
        refine az_E.sn 4 (pc' := 18) (L' := [.ref 3, .ref 69, .int a2, .retAddr 0, .retAddr 0, .retAddr 0, .retAddr 0]) (S' := [.int (6 : Int32), .int (I 4 9)]) (σ' := (97, I, J, R)) rfl ?_
        refine az_E.br (c := (I 4 9) < (6 : Int32)) (tt := 23) (ff := 21) (L' := [.ref 3, .ref 69, .int a2, .retAddr 0, .retAddr 0, .retAddr 0, .retAddr 0]) (S' := []) (σ' := (97, I, J, R)) rfl (fun hc_4 => ?_) (fun hc_4 => ?_)
        · rw [if_pos hc_4] at h
          refine az_E.sn 3 (pc' := 28) (L' := [.ref 3, .ref 69, .int a2, .retAddr 0, .retAddr 0, .retAddr 0, .retAddr 0]) (S' := [.int a2, .ref (69 + 1)]) (σ' := (97, I, J, R)) rfl ?_
          by_cases hc_5 : a2 < 0 ∨ 60 ≤ a2.toNatClampNeg
          · rw [if_pos hc_5] at h; cases h
          · rw [if_neg hc_5] at h
            refine az_E.ol (o := az_al az_F (97, I, J, R) (69 + 1) a2) (pc' := 29) (L' := [.ref 3, .ref 69, .int a2, .retAddr 0, .retAddr 0, .retAddr 0, .retAddr 0]) (S' := []) (σ' := (97, I, J, R)) (x := (J (69 + 1) a2.toNatClampNeg)) rfl (if_neg hc_5) ?_
            refine az_E.sn 7 (pc' := 38) (L' := [.ref 3, .ref 69, .int a2, .int (J (69 + 1) a2.toNatClampNeg).toInt32, .retAddr 0, .retAddr 0, .retAddr 0]) (S' := [.int (a2 + (1 : Int32)), .ref (69 + 1)]) (σ' := (97, I, J, R)) rfl ?_
            by_cases hc_6 : (a2 + (1 : Int32)) < 0 ∨ 60 ≤ (a2 + (1 : Int32)).toNatClampNeg
            · rw [if_pos hc_6] at h; cases h
            · rw [if_neg hc_6] at h
              refine az_E.ol (o := az_al az_F (97, I, J, R) (69 + 1) (a2 + (1 : Int32))) (pc' := 39) (L' := [.ref 3, .ref 69, .int a2, .int (J (69 + 1) a2.toNatClampNeg).toInt32, .retAddr 0, .retAddr 0, .retAddr 0]) (S' := []) (σ' := (97, I, J, R)) (x := (J (69 + 1) (a2 + (1 : Int32)).toNatClampNeg)) rfl (if_neg hc_6) ?_
              refine az_E.sn 7 (pc' := 49) (L' := [.ref 3, .ref 69, .int a2, .int (J (69 + 1) a2.toNatClampNeg).toInt32, .int (J (69 + 1) (a2 + (1 : Int32)).toNatClampNeg).toInt32, .retAddr 0, .retAddr 0]) (S' := [.int (a2 + (2 : Int32)), .ref (69 + 1)]) (σ' := (97, I, J, R)) rfl ?_
              by_cases hc_7 : (a2 + (2 : Int32)) < 0 ∨ 60 ≤ (a2 + (2 : Int32)).toNatClampNeg
              · rw [if_pos hc_7] at h; cases h
              · rw [if_neg hc_7] at h
                refine az_E.ol (o := az_al az_F (97, I, J, R) (69 + 1) (a2 + (2 : Int32))) (pc' := 50) (L' := [.ref 3, .ref 69, .int a2, .int (J (69 + 1) a2.toNatClampNeg).toInt32, .int (J (69 + 1) (a2 + (1 : Int32)).toNatClampNeg).toInt32, .retAddr 0, .retAddr 0]) (S' := []) (σ' := (97, I, J, R)) (x := (J (69 + 1) (a2 + (2 : Int32)).toNatClampNeg)) rfl (if_neg hc_7) ?_
                refine az_E.sn 4 (pc' := 55) (L' := [.ref 3, .ref 69, .int a2, .int (J (69 + 1) a2.toNatClampNeg).toInt32, .int (J (69 + 1) (a2 + (1 : Int32)).toNatClampNeg).toInt32, .int (J (69 + 1) (a2 + (2 : Int32)).toNatClampNeg).toInt32, .retAddr 0]) (S' := [.int (J (69 + 1) a2.toNatClampNeg).toInt32, .int (3 : Int32)]) (σ' := (97, I, J, R)) rfl ?_
                cases hx_9 : rs_Mo_isFit (3 : Int32) (J (69 + 1) a2.toNatClampNeg).toInt32 with
                | none => rw [hx_9] at h; cases h
                | some x_8 =>
                  rw [hx_9] at h
                  dsimp only at h
                  refine az_E.call (d := 2) (k' := 38) (vs := [.int (3 : Int32), .int (J (69 + 1) a2.toNatClampNeg).toInt32]) (pc' := 58) (S' := []) (Q1 := fun v s => v = some (.int x_8) ∧ s = (97, I, J, R)) rfl (az_E.deep (by omega) (re_Mo_isFit (J := J) (R := R)  hx_9 ⟨rfl, rfl⟩)) (fun v s hq => ?_)
                  obtain ⟨rfl, rfl⟩ := hq
                  show az_E az_F ex 3 143 58 [.ref 3, .ref 69, .int a2, .int (J (69 + 1) a2.toNatClampNeg).toInt32, .int (J (69 + 1) (a2 + (1 : Int32)).toNatClampNeg).toInt32, .int (J (69 + 1) (a2 + (2 : Int32)).toNatClampNeg).toInt32, .retAddr 0] [.int x_8] (97, I, J, R) _
                  refine az_E.br (c := x_8 = 0) (tt := 83) (ff := 61) (L' := [.ref 3, .ref 69, .int a2, .int (J (69 + 1) a2.toNatClampNeg).toInt32, .int (J (69 + 1) (a2 + (1 : Int32)).toNatClampNeg).toInt32, .int (J (69 + 1) (a2 + (2 : Int32)).toNatClampNeg).toInt32, .retAddr 0]) (S' := []) (σ' := (97, I, J, R)) rfl (fun hc_10 => ?_) (fun hc_10 => ?_)
                  · rw [if_pos hc_10] at h
                    exact az_E.forget (L := [.ref 3, .retAddr 0, .retAddr 0, .int (J (69 + 1) a2.toNatClampNeg).toInt32, .int (J (69 + 1) (a2 + (1 : Int32)).toNatClampNeg).toInt32, .int (J (69 + 1) (a2 + (2 : Int32)).toNatClampNeg).toInt32, .retAddr 0]) ⟨rfl, trivial, trivial, rfl, rfl, rfl, trivial, trivial⟩ (re_X_addFromRow_83_69 (I := I) (J := J) (R := R)  h hQ)
                  · rw [if_neg hc_10] at h
                    refine az_E.sn 2 (pc' := 64) (L' := [.ref 3, .ref 69, .int a2, .int (J (69 + 1) a2.toNatClampNeg).toInt32, .int (J (69 + 1) (a2 + (1 : Int32)).toNatClampNeg).toInt32, .int (J (69 + 1) (a2 + (2 : Int32)).toNatClampNeg).toInt32, .retAddr 0]) (S' := [.int (J (69 + 1) (a2 + (1 : Int32)).toNatClampNeg).toInt32, .int (4 : Int32)]) (σ' := (97, I, J, R)) rfl ?_
                    cases hx_17 : rs_Mo_isFit (4 : Int32) (J (69 + 1) (a2 + (1 : Int32)).toNatClampNeg).toInt32 with
                    | none => rw [hx_17] at h; cases h
                    | some x_16 =>
                      rw [hx_17] at h
                      dsimp only at h
                      refine az_E.call (d := 2) (k' := 38) (vs := [.int (4 : Int32), .int (J (69 + 1) (a2 + (1 : Int32)).toNatClampNeg).toInt32]) (pc' := 67) (S' := []) (Q1 := fun v s => v = some (.int x_16) ∧ s = (97, I, J, R)) rfl (az_E.deep (by omega) (re_Mo_isFit (J := J) (R := R)  hx_17 ⟨rfl, rfl⟩)) (fun v s hq => ?_)
                      obtain ⟨rfl, rfl⟩ := hq
                      show az_E az_F ex 3 143 67 [.ref 3, .ref 69, .int a2, .int (J (69 + 1) a2.toNatClampNeg).toInt32, .int (J (69 + 1) (a2 + (1 : Int32)).toNatClampNeg).toInt32, .int (J (69 + 1) (a2 + (2 : Int32)).toNatClampNeg).toInt32, .retAddr 0] [.int x_16] (97, I, J, R) _
                      refine az_E.br (c := x_16 = 0) (tt := 83) (ff := 70) (L' := [.ref 3, .ref 69, .int a2, .int (J (69 + 1) a2.toNatClampNeg).toInt32, .int (J (69 + 1) (a2 + (1 : Int32)).toNatClampNeg).toInt32, .int (J (69 + 1) (a2 + (2 : Int32)).toNatClampNeg).toInt32, .retAddr 0]) (S' := []) (σ' := (97, I, J, R)) rfl (fun hc_18 => ?_) (fun hc_18 => ?_)
                      · rw [if_pos hc_18] at h
                        exact az_E.forget (L := [.ref 3, .retAddr 0, .retAddr 0, .int (J (69 + 1) a2.toNatClampNeg).toInt32, .int (J (69 + 1) (a2 + (1 : Int32)).toNatClampNeg).toInt32, .int (J (69 + 1) (a2 + (2 : Int32)).toNatClampNeg).toInt32, .retAddr 0]) ⟨rfl, trivial, trivial, rfl, rfl, rfl, trivial, trivial⟩ (re_X_addFromRow_83_69 (I := I) (J := J) (R := R)  h hQ)
                      · rw [if_neg hc_18] at h
                        refine az_E.sn 2 (pc' := 73) (L' := [.ref 3, .ref 69, .int a2, .int (J (69 + 1) a2.toNatClampNeg).toInt32, .int (J (69 + 1) (a2 + (1 : Int32)).toNatClampNeg).toInt32, .int (J (69 + 1) (a2 + (2 : Int32)).toNatClampNeg).toInt32, .retAddr 0]) (S' := [.int (J (69 + 1) (a2 + (2 : Int32)).toNatClampNeg).toInt32, .int (5 : Int32)]) (σ' := (97, I, J, R)) rfl ?_
                        cases hx_20 : rs_Mo_isFit (5 : Int32) (J (69 + 1) (a2 + (2 : Int32)).toNatClampNeg).toInt32 with
                        | none => rw [hx_20] at h; cases h
                        | some x_19 =>
                          rw [hx_20] at h
                          dsimp only at h
                          refine az_E.call (d := 2) (k' := 38) (vs := [.int (5 : Int32), .int (J (69 + 1) (a2 + (2 : Int32)).toNatClampNeg).toInt32]) (pc' := 76) (S' := []) (Q1 := fun v s => v = some (.int x_19) ∧ s = (97, I, J, R)) rfl (az_E.deep (by omega) (re_Mo_isFit (J := J) (R := R)  hx_20 ⟨rfl, rfl⟩)) (fun v s hq => ?_)
                          obtain ⟨rfl, rfl⟩ := hq
                          show az_E az_F ex 3 143 76 [.ref 3, .ref 69, .int a2, .int (J (69 + 1) a2.toNatClampNeg).toInt32, .int (J (69 + 1) (a2 + (1 : Int32)).toNatClampNeg).toInt32, .int (J (69 + 1) (a2 + (2 : Int32)).toNatClampNeg).toInt32, .retAddr 0] [.int x_19] (97, I, J, R) _
                          refine az_E.br (c := x_19 = 0) (tt := 83) (ff := 79) (L' := [.ref 3, .ref 69, .int a2, .int (J (69 + 1) a2.toNatClampNeg).toInt32, .int (J (69 + 1) (a2 + (1 : Int32)).toNatClampNeg).toInt32, .int (J (69 + 1) (a2 + (2 : Int32)).toNatClampNeg).toInt32, .retAddr 0]) (S' := []) (σ' := (97, I, J, R)) rfl (fun hc_21 => ?_) (fun hc_21 => ?_)
                          · rw [if_pos hc_21] at h
                            exact az_E.forget (L := [.ref 3, .retAddr 0, .retAddr 0, .int (J (69 + 1) a2.toNatClampNeg).toInt32, .int (J (69 + 1) (a2 + (1 : Int32)).toNatClampNeg).toInt32, .int (J (69 + 1) (a2 + (2 : Int32)).toNatClampNeg).toInt32, .retAddr 0]) ⟨rfl, trivial, trivial, rfl, rfl, rfl, trivial, trivial⟩ (re_X_addFromRow_83_69 (I := I) (J := J) (R := R)  h hQ)
                          · rw [if_neg hc_21] at h
                            refine az_E.sn 2 (pc' := 84) (L' := [.ref 3, .ref 69, .int a2, .int (J (69 + 1) a2.toNatClampNeg).toInt32, .int (J (69 + 1) (a2 + (1 : Int32)).toNatClampNeg).toInt32, .int (J (69 + 1) (a2 + (2 : Int32)).toNatClampNeg).toInt32, .retAddr 0]) (S' := [.int (1 : Int32)]) (σ' := (97, I, J, R)) rfl ?_
                            exact az_E.forget (L := [.ref 3, .retAddr 0, .retAddr 0, .int (J (69 + 1) a2.toNatClampNeg).toInt32, .int (J (69 + 1) (a2 + (1 : Int32)).toNatClampNeg).toInt32, .int (J (69 + 1) (a2 + (2 : Int32)).toNatClampNeg).toInt32, .retAddr 0]) ⟨rfl, trivial, trivial, rfl, rfl, rfl, trivial, trivial⟩ (re_X_addFromRow_84_69 (I := I) (J := J) (R := R)  h hQ)
        · rw [if_neg hc_4] at h
          refine az_E.sn 1 (pc' := 22) (L' := [.ref 3, .ref 69, .int a2, .retAddr 0, .retAddr 0, .retAddr 0, .retAddr 0]) (S' := [.int (0 : Int32)]) (σ' := (97, I, J, R)) rfl ?_
          have h := Option.some.inj h
          subst h
          exact az_E.ret (v := some (.int (0 : Int32))) (σ' := (97, I, J, R)) rfl hQ
set_option maxRecDepth 100000 in
set_option maxHeartbeats 4000000 in
theorem re_X_addFromRow_84_71 {ex : az_X} {I : Nat → Nat → Int32} {J : Nat → Nat → Int64} {R : Nat → Nat → Option Nat} {v3 : Int32} {v4 : Int32} {v5 : Int32} {s0 : Int32} {x : Int32 × (Nat → Nat → Int32)} (h : rs_X_addFromRow_84 71 I J v3 v4 v5 s0 = some x) {Q : Option Value → az_S → Prop} (hQ : Q (some (.int x.1)) (97, x.2, J, R)) : az_E az_F ex 3 143 84 [.ref 3, .retAddr 0, .retAddr 0, .int v3, .int v4, .int v5, .retAddr 0] [.int s0] (97, I, J, R) Q := by
  unfold rs_X_addFromRow_84 at h
  refine az_E.sn 2 (pc' := 88) (L' := [.ref 3, .retAddr 0, .retAddr 0, .int v3, .int v4, .int v5, .int s0]) (S' := [.int s0]) (σ' := (97, I, J, R)) rfl ?_
  refine az_E.br (c := s0 = 0) (tt := 110) (ff := 91) (L' := [.ref 3, .retAddr 0, .retAddr 0, .int v3, .int v4, .int v5, .int s0]) (S' := []) (σ' := (97, I, J, R)) rfl (fun hc_11 => ?_) (fun hc_11 => ?_)
  · rw [if_pos hc_11] at h
    refine az_E.sn 1 (pc' := 111) (L' := [.ref 3, .retAddr 0, .retAddr 0, .int v3, .int v4, .int v5, .int s0]) (S' := [.int (0 : Int32)]) (σ' := (97, I, J, R)) rfl ?_
    have h := Option.some.inj h
    subst h
    exact az_E.ret (v := some (.int (0 : Int32))) (σ' := (97, I, J, R)) rfl hQ
  · rw [if_neg hc_11] at h
    refine az_E.sn 5 (pc' := 100) (L' := [.ref 3, .retAddr 0, .retAddr 0, .int v3, .int v4, .int v5, .int s0]) (S' := [.int v5, .int v4, .int v3, .ref 4]) (σ' := (97, I, J, R)) rfl ?_
    cases hx_14 : rs_Mo_addWalker I v3 v4 v5 with
    | none => rw [hx_14] at h; cases h
    | some o =>
      rw [hx_14] at h
      obtain ⟨x_12, I_13⟩ := o
      dsimp only at h
      refine az_E.call (d := 2) (k' := 36) (vs := [.ref 4, .int v3, .int v4, .int v5]) (pc' := 103) (S' := []) (Q1 := fun v s => v = some (.int x_12) ∧ s = (97, I_13, J, R)) rfl (az_E.deep (by omega) (re_Mo_addWalker (J := J) (R := R)  hx_14 ⟨rfl, rfl⟩)) (fun v s hq => ?_)
      obtain ⟨rfl, rfl⟩ := hq
      show az_E az_F ex 3 143 103 [.ref 3, .retAddr 0, .retAddr 0, .int v3, .int v4, .int v5, .int s0] [.int x_12] (97, I_13, J, R) _
      refine az_E.br (c := x_12 < 0) (tt := 110) (ff := 106) (L' := [.ref 3, .retAddr 0, .retAddr 0, .int v3, .int v4, .int v5, .int s0]) (S' := []) (σ' := (97, I_13, J, R)) rfl (fun hc_15 => ?_) (fun hc_15 => ?_)
      · rw [if_pos hc_15] at h
        refine az_E.sn 1 (pc' := 111) (L' := [.ref 3, .retAddr 0, .retAddr 0, .int v3, .int v4, .int v5, .int s0]) (S' := [.int (0 : Int32)]) (σ' := (97, I_13, J, R)) rfl ?_
        have h := Option.some.inj h
        subst h
        exact az_E.ret (v := some (.int (0 : Int32))) (σ' := (97, I_13, J, R)) rfl hQ
      · rw [if_neg hc_15] at h
        refine az_E.sn 2 (pc' := 111) (L' := [.ref 3, .retAddr 0, .retAddr 0, .int v3, .int v4, .int v5, .int s0]) (S' := [.int (1 : Int32)]) (σ' := (97, I_13, J, R)) rfl ?_
        have h := Option.some.inj h
        subst h
        exact az_E.ret (v := some (.int (1 : Int32))) (σ' := (97, I_13, J, R)) rfl hQ
set_option maxRecDepth 100000 in
set_option maxHeartbeats 4000000 in
theorem re_X_addFromRow_83_71 {ex : az_X} {I : Nat → Nat → Int32} {J : Nat → Nat → Int64} {R : Nat → Nat → Option Nat} {v3 : Int32} {v4 : Int32} {v5 : Int32} {x : Int32 × (Nat → Nat → Int32)} (h : rs_X_addFromRow_83 71 I J v3 v4 v5 = some x) {Q : Option Value → az_S → Prop} (hQ : Q (some (.int x.1)) (97, x.2, J, R)) : az_E az_F ex 3 143 83 [.ref 3, .retAddr 0, .retAddr 0, .int v3, .int v4, .int v5, .retAddr 0] [] (97, I, J, R) Q := by
  unfold rs_X_addFromRow_83 at h
  refine az_E.sn 1 (pc' := 84) (L' := [.ref 3, .retAddr 0, .retAddr 0, .int v3, .int v4, .int v5, .retAddr 0]) (S' := [.int (0 : Int32)]) (σ' := (97, I, J, R)) rfl ?_
  exact az_E.forget (L := [.ref 3, .retAddr 0, .retAddr 0, .int v3, .int v4, .int v5, .retAddr 0]) ⟨rfl, trivial, trivial, rfl, rfl, rfl, trivial, trivial⟩ (re_X_addFromRow_84_71 (I := I) (J := J) (R := R)  h hQ)
set_option maxRecDepth 100000 in
set_option maxHeartbeats 4000000 in
theorem re_X_addFromRow_71 {ex : az_X} {I : Nat → Nat → Int32} {J : Nat → Nat → Int64} {R : Nat → Nat → Option Nat} {a2 : Int32} {o : Int32 × (Nat → Nat → Int32)} (h : rs_X_addFromRow 71 I J a2 = some o) {Q : Option Value → az_S → Prop} (hQ : Q (some (.int o.1)) (97, o.2, J, R)) : az_E az_F ex 3 143 0 [.ref 3, .ref 71, .int a2, .retAddr 0, .retAddr 0, .retAddr 0, .retAddr 0] [] (97, I, J, R) Q := by
  unfold rs_X_addFromRow at h
  refine az_E.sn 3 (pc' := 3) (L' := [.ref 3, .ref 71, .int a2, .retAddr 0, .retAddr 0, .retAddr 0, .retAddr 0]) (S' := [.int (3 : Int32), .int a2, .ref 71]) (σ' := (97, I, J, R)) rfl ?_
  refine az_E.call (d := 2) (k' := 60) (vs := [.ref 71, .int a2, .int (3 : Int32)]) (pc' := 6) (S' := []) rfl ?_ (fun _ _ hq => hq)
  show az_E az_F ex 2 60 0 [.ref 71, .int a2, .int (3 : Int32)] [] (97, I, J, R) _
  refine az_E.sn 1 (pc' := 1) (L' := [.ref 71, .int a2, .int (3 : Int32)]) (S' := [.int a2]) (σ' := (97, I, J, R)) rfl ?_
  refine az_E.br (c := a2 < 0) (tt := 30) (ff := 4) (L' := [.ref 71, .int a2, .int (3 : Int32)]) (S' := []) (σ' := (97, I, J, R)) rfl (fun hc_1 => ?_) (fun hc_1 => ?_)
  · rw [if_pos hc_1] at h
    refine az_E.sn 1 (pc' := 31) (L' := [.ref 71, .int a2, .int (3 : Int32)]) (S' := [.int (0 : Int32)]) (σ' := (97, I, J, R)) rfl ?_
    refine az_E.ret (v := some (.int (0 : Int32))) (σ' := (97, I, J, R)) rfl ?_
    show az_E az_F ex 3 143 6 [.ref 3, .ref 71, .int a2, .retAddr 0, .retAddr 0, .retAddr 0, .retAddr 0] [.int (0 : Int32)] (97, I, J, R) _
    refine az_E.br (c := (0 : Int32) = 0) (tt := 21) (ff := 9) (L' := [.ref 3, .ref 71, .int a2, .retAddr 0, .retAddr 0, .retAddr 0, .retAddr 0]) (S' := []) (σ' := (97, I, J, R)) rfl (fun _ => ?_) (fun hn => absurd (by decide) hn)
    refine az_E.sn 1 (pc' := 22) (L' := [.ref 3, .ref 71, .int a2, .retAddr 0, .retAddr 0, .retAddr 0, .retAddr 0]) (S' := [.int (0 : Int32)]) (σ' := (97, I, J, R)) rfl ?_
    have h := Option.some.inj h
    subst h
    exact az_E.ret (v := some (.int (0 : Int32))) (σ' := (97, I, J, R)) rfl hQ
  · rw [if_neg hc_1] at h
    refine az_E.sn 1 (pc' := 5) (L' := [.ref 71, .int a2, .int (3 : Int32)]) (S' := [.int (3 : Int32)]) (σ' := (97, I, J, R)) rfl ?_
    refine az_E.br (c := (3 : Int32) < 0) (tt := 30) (ff := 8) (L' := [.ref 71, .int a2, .int (3 : Int32)]) (S' := []) (σ' := (97, I, J, R)) rfl (fun hn => absurd hn (by decide)) (fun _ => ?_)
    refine az_E.sn 3 (pc' := 13) (L' := [.ref 71, .int a2, .int (3 : Int32)]) (S' := [.int (I 71 2), .int a2]) (σ' := (97, I, J, R)) rfl ?_
    refine az_E.br (c := (I 71 2) < a2) (tt := 30) (ff := 16) (L' := [.ref 71, .int a2, .int (3 : Int32)]) (S' := []) (σ' := (97, I, J, R)) rfl (fun hc_2 => ?_) (fun hc_2 => ?_)
    · rw [if_pos hc_2] at h
      refine az_E.sn 1 (pc' := 31) (L' := [.ref 71, .int a2, .int (3 : Int32)]) (S' := [.int (0 : Int32)]) (σ' := (97, I, J, R)) rfl ?_
      refine az_E.ret (v := some (.int (0 : Int32))) (σ' := (97, I, J, R)) rfl ?_
      show az_E az_F ex 3 143 6 [.ref 3, .ref 71, .int a2, .retAddr 0, .retAddr 0, .retAddr 0, .retAddr 0] [.int (0 : Int32)] (97, I, J, R) _
      refine az_E.br (c := (0 : Int32) = 0) (tt := 21) (ff := 9) (L' := [.ref 3, .ref 71, .int a2, .retAddr 0, .retAddr 0, .retAddr 0, .retAddr 0]) (S' := []) (σ' := (97, I, J, R)) rfl (fun _ => ?_) (fun hn => absurd (by decide) hn)
      refine az_E.sn 1 (pc' := 22) (L' := [.ref 3, .ref 71, .int a2, .retAddr 0, .retAddr 0, .retAddr 0, .retAddr 0]) (S' := [.int (0 : Int32)]) (σ' := (97, I, J, R)) rfl ?_
      have h := Option.some.inj h
      subst h
      exact az_E.ret (v := some (.int (0 : Int32))) (σ' := (97, I, J, R)) rfl hQ
    · rw [if_neg hc_2] at h
      refine az_E.sn 5 (pc' := 23) (L' := [.ref 71, .int a2, .int (3 : Int32)]) (S' := [.int ((I 71 2) - a2), .int (3 : Int32)]) (σ' := (97, I, J, R)) rfl ?_
      refine az_E.br (c := ((I 71 2) - a2) < (3 : Int32)) (tt := 30) (ff := 26) (L' := [.ref 71, .int a2, .int (3 : Int32)]) (S' := []) (σ' := (97, I, J, R)) rfl (fun hc_3 => ?_) (fun hc_3 => ?_)
      · rw [if_pos hc_3] at h
        refine az_E.sn 1 (pc' := 31) (L' := [.ref 71, .int a2, .int (3 : Int32)]) (S' := [.int (0 : Int32)]) (σ' := (97, I, J, R)) rfl ?_
        refine az_E.ret (v := some (.int (0 : Int32))) (σ' := (97, I, J, R)) rfl ?_
        show az_E az_F ex 3 143 6 [.ref 3, .ref 71, .int a2, .retAddr 0, .retAddr 0, .retAddr 0, .retAddr 0] [.int (0 : Int32)] (97, I, J, R) _
        refine az_E.br (c := (0 : Int32) = 0) (tt := 21) (ff := 9) (L' := [.ref 3, .ref 71, .int a2, .retAddr 0, .retAddr 0, .retAddr 0, .retAddr 0]) (S' := []) (σ' := (97, I, J, R)) rfl (fun _ => ?_) (fun hn => absurd (by decide) hn)
        refine az_E.sn 1 (pc' := 22) (L' := [.ref 3, .ref 71, .int a2, .retAddr 0, .retAddr 0, .retAddr 0, .retAddr 0]) (S' := [.int (0 : Int32)]) (σ' := (97, I, J, R)) rfl ?_
        have h := Option.some.inj h
        subst h
        exact az_E.ret (v := some (.int (0 : Int32))) (σ' := (97, I, J, R)) rfl hQ
      · rw [if_neg hc_3] at h
        refine az_E.sn 2 (pc' := 31) (L' := [.ref 71, .int a2, .int (3 : Int32)]) (S' := [.int (1 : Int32)]) (σ' := (97, I, J, R)) rfl ?_
        refine az_E.ret (v := some (.int (1 : Int32))) (σ' := (97, I, J, R)) rfl ?_
        show az_E az_F ex 3 143 6 [.ref 3, .ref 71, .int a2, .retAddr 0, .retAddr 0, .retAddr 0, .retAddr 0] [.int (1 : Int32)] (97, I, J, R) _
        refine az_E.br (c := (1 : Int32) = 0) (tt := 21) (ff := 9) (L' := [.ref 3, .ref 71, .int a2, .retAddr 0, .retAddr 0, .retAddr 0, .retAddr 0]) (S' := []) (σ' := (97, I, J, R)) rfl (fun hn => absurd hn (by decide)) (fun _ => ?_)
        refine az_E.sn 4 (pc' := 18) (L' := [.ref 3, .ref 71, .int a2, .retAddr 0, .retAddr 0, .retAddr 0, .retAddr 0]) (S' := [.int (6 : Int32), .int (I 4 9)]) (σ' := (97, I, J, R)) rfl ?_
        refine az_E.br (c := (I 4 9) < (6 : Int32)) (tt := 23) (ff := 21) (L' := [.ref 3, .ref 71, .int a2, .retAddr 0, .retAddr 0, .retAddr 0, .retAddr 0]) (S' := []) (σ' := (97, I, J, R)) rfl (fun hc_4 => ?_) (fun hc_4 => ?_)
        · rw [if_pos hc_4] at h
          refine az_E.sn 3 (pc' := 28) (L' := [.ref 3, .ref 71, .int a2, .retAddr 0, .retAddr 0, .retAddr 0, .retAddr 0]) (S' := [.int a2, .ref (71 + 1)]) (σ' := (97, I, J, R)) rfl ?_
          by_cases hc_5 : a2 < 0 ∨ 60 ≤ a2.toNatClampNeg
          · rw [if_pos hc_5] at h; cases h
          · rw [if_neg hc_5] at h
            refine az_E.ol (o := az_al az_F (97, I, J, R) (71 + 1) a2) (pc' := 29) (L' := [.ref 3, .ref 71, .int a2, .retAddr 0, .retAddr 0, .retAddr 0, .retAddr 0]) (S' := []) (σ' := (97, I, J, R)) (x := (J (71 + 1) a2.toNatClampNeg)) rfl (if_neg hc_5) ?_
            refine az_E.sn 7 (pc' := 38) (L' := [.ref 3, .ref 71, .int a2, .int (J (71 + 1) a2.toNatClampNeg).toInt32, .retAddr 0, .retAddr 0, .retAddr 0]) (S' := [.int (a2 + (1 : Int32)), .ref (71 + 1)]) (σ' := (97, I, J, R)) rfl ?_
            by_cases hc_6 : (a2 + (1 : Int32)) < 0 ∨ 60 ≤ (a2 + (1 : Int32)).toNatClampNeg
            · rw [if_pos hc_6] at h; cases h
            · rw [if_neg hc_6] at h
              refine az_E.ol (o := az_al az_F (97, I, J, R) (71 + 1) (a2 + (1 : Int32))) (pc' := 39) (L' := [.ref 3, .ref 71, .int a2, .int (J (71 + 1) a2.toNatClampNeg).toInt32, .retAddr 0, .retAddr 0, .retAddr 0]) (S' := []) (σ' := (97, I, J, R)) (x := (J (71 + 1) (a2 + (1 : Int32)).toNatClampNeg)) rfl (if_neg hc_6) ?_
              refine az_E.sn 7 (pc' := 49) (L' := [.ref 3, .ref 71, .int a2, .int (J (71 + 1) a2.toNatClampNeg).toInt32, .int (J (71 + 1) (a2 + (1 : Int32)).toNatClampNeg).toInt32, .retAddr 0, .retAddr 0]) (S' := [.int (a2 + (2 : Int32)), .ref (71 + 1)]) (σ' := (97, I, J, R)) rfl ?_
              by_cases hc_7 : (a2 + (2 : Int32)) < 0 ∨ 60 ≤ (a2 + (2 : Int32)).toNatClampNeg
              · rw [if_pos hc_7] at h; cases h
              · rw [if_neg hc_7] at h
                refine az_E.ol (o := az_al az_F (97, I, J, R) (71 + 1) (a2 + (2 : Int32))) (pc' := 50) (L' := [.ref 3, .ref 71, .int a2, .int (J (71 + 1) a2.toNatClampNeg).toInt32, .int (J (71 + 1) (a2 + (1 : Int32)).toNatClampNeg).toInt32, .retAddr 0, .retAddr 0]) (S' := []) (σ' := (97, I, J, R)) (x := (J (71 + 1) (a2 + (2 : Int32)).toNatClampNeg)) rfl (if_neg hc_7) ?_
                refine az_E.sn 4 (pc' := 55) (L' := [.ref 3, .ref 71, .int a2, .int (J (71 + 1) a2.toNatClampNeg).toInt32, .int (J (71 + 1) (a2 + (1 : Int32)).toNatClampNeg).toInt32, .int (J (71 + 1) (a2 + (2 : Int32)).toNatClampNeg).toInt32, .retAddr 0]) (S' := [.int (J (71 + 1) a2.toNatClampNeg).toInt32, .int (3 : Int32)]) (σ' := (97, I, J, R)) rfl ?_
                cases hx_9 : rs_Mo_isFit (3 : Int32) (J (71 + 1) a2.toNatClampNeg).toInt32 with
                | none => rw [hx_9] at h; cases h
                | some x_8 =>
                  rw [hx_9] at h
                  dsimp only at h
                  refine az_E.call (d := 2) (k' := 38) (vs := [.int (3 : Int32), .int (J (71 + 1) a2.toNatClampNeg).toInt32]) (pc' := 58) (S' := []) (Q1 := fun v s => v = some (.int x_8) ∧ s = (97, I, J, R)) rfl (az_E.deep (by omega) (re_Mo_isFit (J := J) (R := R)  hx_9 ⟨rfl, rfl⟩)) (fun v s hq => ?_)
                  obtain ⟨rfl, rfl⟩ := hq
                  show az_E az_F ex 3 143 58 [.ref 3, .ref 71, .int a2, .int (J (71 + 1) a2.toNatClampNeg).toInt32, .int (J (71 + 1) (a2 + (1 : Int32)).toNatClampNeg).toInt32, .int (J (71 + 1) (a2 + (2 : Int32)).toNatClampNeg).toInt32, .retAddr 0] [.int x_8] (97, I, J, R) _
                  refine az_E.br (c := x_8 = 0) (tt := 83) (ff := 61) (L' := [.ref 3, .ref 71, .int a2, .int (J (71 + 1) a2.toNatClampNeg).toInt32, .int (J (71 + 1) (a2 + (1 : Int32)).toNatClampNeg).toInt32, .int (J (71 + 1) (a2 + (2 : Int32)).toNatClampNeg).toInt32, .retAddr 0]) (S' := []) (σ' := (97, I, J, R)) rfl (fun hc_10 => ?_) (fun hc_10 => ?_)
                  · rw [if_pos hc_10] at h
                    exact az_E.forget (L := [.ref 3, .retAddr 0, .retAddr 0, .int (J (71 + 1) a2.toNatClampNeg).toInt32, .int (J (71 + 1) (a2 + (1 : Int32)).toNatClampNeg).toInt32, .int (J (71 + 1) (a2 + (2 : Int32)).toNatClampNeg).toInt32, .retAddr 0]) ⟨rfl, trivial, trivial, rfl, rfl, rfl, trivial, trivial⟩ (re_X_addFromRow_83_71 (I := I) (J := J) (R := R)  h hQ)
                  · rw [if_neg hc_10] at h
                    refine az_E.sn 2 (pc' := 64) (L' := [.ref 3, .ref 71, .int a2, .int (J (71 + 1) a2.toNatClampNeg).toInt32, .int (J (71 + 1) (a2 + (1 : Int32)).toNatClampNeg).toInt32, .int (J (71 + 1) (a2 + (2 : Int32)).toNatClampNeg).toInt32, .retAddr 0]) (S' := [.int (J (71 + 1) (a2 + (1 : Int32)).toNatClampNeg).toInt32, .int (4 : Int32)]) (σ' := (97, I, J, R)) rfl ?_
                    cases hx_17 : rs_Mo_isFit (4 : Int32) (J (71 + 1) (a2 + (1 : Int32)).toNatClampNeg).toInt32 with
                    | none => rw [hx_17] at h; cases h
                    | some x_16 =>
                      rw [hx_17] at h
                      dsimp only at h
                      refine az_E.call (d := 2) (k' := 38) (vs := [.int (4 : Int32), .int (J (71 + 1) (a2 + (1 : Int32)).toNatClampNeg).toInt32]) (pc' := 67) (S' := []) (Q1 := fun v s => v = some (.int x_16) ∧ s = (97, I, J, R)) rfl (az_E.deep (by omega) (re_Mo_isFit (J := J) (R := R)  hx_17 ⟨rfl, rfl⟩)) (fun v s hq => ?_)
                      obtain ⟨rfl, rfl⟩ := hq
                      show az_E az_F ex 3 143 67 [.ref 3, .ref 71, .int a2, .int (J (71 + 1) a2.toNatClampNeg).toInt32, .int (J (71 + 1) (a2 + (1 : Int32)).toNatClampNeg).toInt32, .int (J (71 + 1) (a2 + (2 : Int32)).toNatClampNeg).toInt32, .retAddr 0] [.int x_16] (97, I, J, R) _
                      refine az_E.br (c := x_16 = 0) (tt := 83) (ff := 70) (L' := [.ref 3, .ref 71, .int a2, .int (J (71 + 1) a2.toNatClampNeg).toInt32, .int (J (71 + 1) (a2 + (1 : Int32)).toNatClampNeg).toInt32, .int (J (71 + 1) (a2 + (2 : Int32)).toNatClampNeg).toInt32, .retAddr 0]) (S' := []) (σ' := (97, I, J, R)) rfl (fun hc_18 => ?_) (fun hc_18 => ?_)
                      · rw [if_pos hc_18] at h
                        exact az_E.forget (L := [.ref 3, .retAddr 0, .retAddr 0, .int (J (71 + 1) a2.toNatClampNeg).toInt32, .int (J (71 + 1) (a2 + (1 : Int32)).toNatClampNeg).toInt32, .int (J (71 + 1) (a2 + (2 : Int32)).toNatClampNeg).toInt32, .retAddr 0]) ⟨rfl, trivial, trivial, rfl, rfl, rfl, trivial, trivial⟩ (re_X_addFromRow_83_71 (I := I) (J := J) (R := R)  h hQ)
                      · rw [if_neg hc_18] at h
                        refine az_E.sn 2 (pc' := 73) (L' := [.ref 3, .ref 71, .int a2, .int (J (71 + 1) a2.toNatClampNeg).toInt32, .int (J (71 + 1) (a2 + (1 : Int32)).toNatClampNeg).toInt32, .int (J (71 + 1) (a2 + (2 : Int32)).toNatClampNeg).toInt32, .retAddr 0]) (S' := [.int (J (71 + 1) (a2 + (2 : Int32)).toNatClampNeg).toInt32, .int (5 : Int32)]) (σ' := (97, I, J, R)) rfl ?_
                        cases hx_20 : rs_Mo_isFit (5 : Int32) (J (71 + 1) (a2 + (2 : Int32)).toNatClampNeg).toInt32 with
                        | none => rw [hx_20] at h; cases h
                        | some x_19 =>
                          rw [hx_20] at h
                          dsimp only at h
                          refine az_E.call (d := 2) (k' := 38) (vs := [.int (5 : Int32), .int (J (71 + 1) (a2 + (2 : Int32)).toNatClampNeg).toInt32]) (pc' := 76) (S' := []) (Q1 := fun v s => v = some (.int x_19) ∧ s = (97, I, J, R)) rfl (az_E.deep (by omega) (re_Mo_isFit (J := J) (R := R)  hx_20 ⟨rfl, rfl⟩)) (fun v s hq => ?_)
                          obtain ⟨rfl, rfl⟩ := hq
                          show az_E az_F ex 3 143 76 [.ref 3, .ref 71, .int a2, .int (J (71 + 1) a2.toNatClampNeg).toInt32, .int (J (71 + 1) (a2 + (1 : Int32)).toNatClampNeg).toInt32, .int (J (71 + 1) (a2 + (2 : Int32)).toNatClampNeg).toInt32, .retAddr 0] [.int x_19] (97, I, J, R) _
                          refine az_E.br (c := x_19 = 0) (tt := 83) (ff := 79) (L' := [.ref 3, .ref 71, .int a2, .int (J (71 + 1) a2.toNatClampNeg).toInt32, .int (J (71 + 1) (a2 + (1 : Int32)).toNatClampNeg).toInt32, .int (J (71 + 1) (a2 + (2 : Int32)).toNatClampNeg).toInt32, .retAddr 0]) (S' := []) (σ' := (97, I, J, R)) rfl (fun hc_21 => ?_) (fun hc_21 => ?_)
                          · rw [if_pos hc_21] at h
                            exact az_E.forget (L := [.ref 3, .retAddr 0, .retAddr 0, .int (J (71 + 1) a2.toNatClampNeg).toInt32, .int (J (71 + 1) (a2 + (1 : Int32)).toNatClampNeg).toInt32, .int (J (71 + 1) (a2 + (2 : Int32)).toNatClampNeg).toInt32, .retAddr 0]) ⟨rfl, trivial, trivial, rfl, rfl, rfl, trivial, trivial⟩ (re_X_addFromRow_83_71 (I := I) (J := J) (R := R)  h hQ)
                          · rw [if_neg hc_21] at h
                            refine az_E.sn 2 (pc' := 84) (L' := [.ref 3, .ref 71, .int a2, .int (J (71 + 1) a2.toNatClampNeg).toInt32, .int (J (71 + 1) (a2 + (1 : Int32)).toNatClampNeg).toInt32, .int (J (71 + 1) (a2 + (2 : Int32)).toNatClampNeg).toInt32, .retAddr 0]) (S' := [.int (1 : Int32)]) (σ' := (97, I, J, R)) rfl ?_
                            exact az_E.forget (L := [.ref 3, .retAddr 0, .retAddr 0, .int (J (71 + 1) a2.toNatClampNeg).toInt32, .int (J (71 + 1) (a2 + (1 : Int32)).toNatClampNeg).toInt32, .int (J (71 + 1) (a2 + (2 : Int32)).toNatClampNeg).toInt32, .retAddr 0]) ⟨rfl, trivial, trivial, rfl, rfl, rfl, trivial, trivial⟩ (re_X_addFromRow_84_71 (I := I) (J := J) (R := R)  h hQ)
        · rw [if_neg hc_4] at h
          refine az_E.sn 1 (pc' := 22) (L' := [.ref 3, .ref 71, .int a2, .retAddr 0, .retAddr 0, .retAddr 0, .retAddr 0]) (S' := [.int (0 : Int32)]) (σ' := (97, I, J, R)) rfl ?_
          have h := Option.some.inj h
          subst h
          exact az_E.ret (v := some (.int (0 : Int32))) (σ' := (97, I, J, R)) rfl hQ
set_option maxRecDepth 100000 in
set_option maxHeartbeats 4000000 in
theorem re_X_walkers_52_b_61 {ex : az_X} {I : Nat → Nat → Int32} {J : Nat → Nat → Int64} {R : Nat → Nat → Option Nat} {v2 : Int32} {v3 : Int32} {v5 : Int32} {x : ((Int32 × (Nat → Nat → Int32)) ⊕ (Int32 × (Nat → Nat → Int32)))} (h : rs_X_walkers_52_b 61 J v2 v3 v5 I = some x) {Q : Option Value → az_S → Prop} (hQ : Sum.elim (fun s => az_E az_F ex 4 86 52 [.ref 3, .retAddr 0, .int v2, .int v3, .ref 61, .int s.1] [] (97, s.2, J, R) Q) (fun x => Q (some (.int x.1)) (97, x.2, J, R)) x) : az_E az_F ex 4 86 52 [.ref 3, .retAddr 0, .int v2, .int v3, .ref 61, .int v5] [] (97, I, J, R) Q := by
  unfold rs_X_walkers_52_b at h
  refine az_E.sn 2 (pc' := 55) (L' := [.ref 3, .retAddr 0, .int v2, .int v3, .ref 61, .int v5]) (S' := [.int v3, .int v5]) (σ' := (97, I, J, R)) rfl ?_
  refine az_E.br (c := v3 ≤ v5) (tt := 89) (ff := 58) (L' := [.ref 3, .retAddr 0, .int v2, .int v3, .ref 61, .int v5]) (S' := []) (σ' := (97, I, J, R)) rfl (fun hc_10 => ?_) (fun hc_10 => ?_)
  · rw [if_pos hc_10] at h
    refine az_E.sn 1 (pc' := 91) (L' := [.ref 3, .retAddr 0, .int v2, .int v3, .ref 61, .int v5]) (S' := [.int v5]) (σ' := (97, I, J, R)) rfl ?_
    have h := Option.some.inj h
    subst h
    exact az_E.ret (v := some (.int v5)) (σ' := (97, I, J, R)) rfl hQ
  · rw [if_neg hc_10] at h
    refine az_E.sn 1 (pc' := 59) (L' := [.ref 3, .retAddr 0, .int v2, .int v3, .ref 61, .int v5]) (S' := [.int v2]) (σ' := (97, I, J, R)) rfl ?_
    refine az_E.br (c := v2 < 0) (tt := 89) (ff := 62) (L' := [.ref 3, .retAddr 0, .int v2, .int v3, .ref 61, .int v5]) (S' := []) (σ' := (97, I, J, R)) rfl (fun hc_11 => ?_) (fun hc_11 => ?_)
    · rw [if_pos hc_11] at h
      refine az_E.sn 1 (pc' := 91) (L' := [.ref 3, .retAddr 0, .int v2, .int v3, .ref 61, .int v5]) (S' := [.int v5]) (σ' := (97, I, J, R)) rfl ?_
      have h := Option.some.inj h
      subst h
      exact az_E.ret (v := some (.int v5)) (σ' := (97, I, J, R)) rfl hQ
    · rw [if_neg hc_11] at h
      refine az_E.sn 2 (pc' := 65) (L' := [.ref 3, .retAddr 0, .int v2, .int v3, .ref 61, .int v5]) (S' := [.int (60 : Int32), .int v2]) (σ' := (97, I, J, R)) rfl ?_
      refine az_E.br (c := (60 : Int32) ≤ v2) (tt := 89) (ff := 68) (L' := [.ref 3, .retAddr 0, .int v2, .int v3, .ref 61, .int v5]) (S' := []) (σ' := (97, I, J, R)) rfl (fun hc_12 => ?_) (fun hc_12 => ?_)
      · rw [if_pos hc_12] at h
        refine az_E.sn 1 (pc' := 91) (L' := [.ref 3, .retAddr 0, .int v2, .int v3, .ref 61, .int v5]) (S' := [.int v5]) (σ' := (97, I, J, R)) rfl ?_
        have h := Option.some.inj h
        subst h
        exact az_E.ret (v := some (.int v5)) (σ' := (97, I, J, R)) rfl hQ
      · rw [if_neg hc_12] at h
        refine az_E.sn 7 (pc' := 77) (L' := [.ref 3, .retAddr 0, .int v2, .int v3, .ref 61, .int v5]) (S' := [.int (v2 + ((3 : Int32) * v5)), .ref 61, .ref 3]) (σ' := (97, I, J, R)) rfl ?_
        cases hx_15 : rs_X_addFromRow 61 I J (v2 + ((3 : Int32) * v5)) with
        | none => rw [hx_15] at h; cases h
        | some o =>
          rw [hx_15] at h
          obtain ⟨x_13, I_14⟩ := o
          dsimp only at h
          refine az_E.call (d := 3) (k' := 143) (vs := [.ref 3, .ref 61, .int (v2 + ((3 : Int32) * v5))]) (pc' := 80) (S' := []) (Q1 := fun v s => v = some (.int x_13) ∧ s = (97, I_14, J, R)) rfl (az_E.deep (by omega) (re_X_addFromRow_61 (J := J) (R := R)  hx_15 ⟨rfl, rfl⟩)) (fun v s hq => ?_)
          obtain ⟨rfl, rfl⟩ := hq
          show az_E az_F ex 4 86 80 [.ref 3, .retAddr 0, .int v2, .int v3, .ref 61, .int v5] [.int x_13] (97, I_14, J, R) _
          refine az_E.br (c := x_13 = 0) (tt := 89) (ff := 83) (L' := [.ref 3, .retAddr 0, .int v2, .int v3, .ref 61, .int v5]) (S' := []) (σ' := (97, I_14, J, R)) rfl (fun hc_16 => ?_) (fun hc_16 => ?_)
          · rw [if_pos hc_16] at h
            refine az_E.sn 1 (pc' := 91) (L' := [.ref 3, .retAddr 0, .int v2, .int v3, .ref 61, .int v5]) (S' := [.int v5]) (σ' := (97, I_14, J, R)) rfl ?_
            have h := Option.some.inj h
            subst h
            exact az_E.ret (v := some (.int v5)) (σ' := (97, I_14, J, R)) rfl hQ
          · rw [if_neg hc_16] at h
            refine az_E.sn 2 (pc' := 52) (L' := [.ref 3, .retAddr 0, .int v2, .int v3, .ref 61, .int (v5 + (1 : Int32))]) (S' := []) (σ' := (97, I_14, J, R)) rfl ?_
            have h := Option.some.inj h
            subst h
            exact az_E.forget (L := [.ref 3, .retAddr 0, .int v2, .int v3, .ref 61, .int (v5 + (1 : Int32))]) ⟨rfl, trivial, rfl, rfl, rfl, rfl, trivial⟩ hQ
set_option maxRecDepth 100000 in
set_option maxHeartbeats 4000000 in
theorem re_X_walkers_52_61 {ex : az_X} {I : Nat → Nat → Int32} {J : Nat → Nat → Int64} {R : Nat → Nat → Option Nat} {v2 : Int32} {v3 : Int32} {v5 : Int32} {x : Int32 × (Nat → Nat → Int32)} (h : rs_X_walkers_52 61 I J v2 v3 v5 = some x) {Q : Option Value → az_S → Prop} (hQ : Q (some (.int x.1)) (97, x.2, J, R)) : az_E az_F ex 4 86 52 [.ref 3, .retAddr 0, .int v2, .int v3, .ref 61, .int v5] [] (97, I, J, R) Q := by
  unfold rs_X_walkers_52 at h
  refine az_lp_E (G := fun s => az_E az_F ex 4 86 52 [.ref 3, .retAddr 0, .int v2, .int v3, .ref 61, .int s.1] [] (97, s.2, J, R) Q) (H := fun x => Q (some (.int x.1)) (97, x.2, J, R)) (fun s o hb ho => ?_) _ _ _ h hQ
  exact re_X_walkers_52_b_61  hb ho
set_option maxRecDepth 100000 in
set_option maxHeartbeats 4000000 in
theorem re_X_walkers_25_61 {ex : az_X} {I : Nat → Nat → Int32} {J : Nat → Nat → Int64} {R : Nat → Nat → Option Nat} {v2 : Int32} {v3 : Int32} {x : Int32 × (Nat → Nat → Int32)} (h : rs_X_walkers_25 61 I J v2 v3 = some x) {Q : Option Value → az_S → Prop} (hQ : Q (some (.int x.1)) (97, x.2, J, R)) : az_E az_F ex 4 86 25 [.ref 3, .retAddr 0, .int v2, .int v3, .retAddr 0, .retAddr 0] [.ref 61] (97, I, J, R) Q := by
  unfold rs_X_walkers_25 at h
  refine az_E.sn 2 (pc' := 29) (L' := [.ref 3, .retAddr 0, .int v2, .int v3, .ref 61, .retAddr 0]) (S' := [.ref 61]) (σ' := (97, I, J, R)) rfl ?_
  refine az_E.call (d := 3) (k' := 54) (vs := [.ref 61]) (pc' := 32) (S' := []) rfl ?_ (fun _ _ hq => hq)
  show az_E az_F ex 3 54 0 [.ref 61] [] (97, I, J, R) _
  refine az_E.sn 3 (pc' := 5) (L' := [.ref 61]) (S' := [.int (-1 : Int32), .int (I 61 0)]) (σ' := (97, I, J, R)) rfl ?_
  refine az_E.br (c := (I 61 0) = (-1 : Int32)) (tt := 8) (ff := 20) (L' := [.ref 61]) (S' := []) (σ' := (97, I, J, R)) rfl (fun hc_6 => ?_) (fun hc_6 => ?_)
  · rw [if_pos hc_6] at h
    refine az_E.sn 3 (pc' := 13) (L' := [.ref 61]) (S' := [.int (-1 : Int32), .int (I 61 1)]) (σ' := (97, I, J, R)) rfl ?_
    refine az_E.br (c := (I 61 1) = (-1 : Int32)) (tt := 16) (ff := 20) (L' := [.ref 61]) (S' := []) (σ' := (97, I, J, R)) rfl (fun hc_7 => ?_) (fun hc_7 => ?_)
    · rw [if_pos hc_7] at h
      refine az_E.sn 2 (pc' := 21) (L' := [.ref 61]) (S' := [.int (1 : Int32)]) (σ' := (97, I, J, R)) rfl ?_
      refine az_E.ret (v := some (.int (1 : Int32))) (σ' := (97, I, J, R)) rfl ?_
      show az_E az_F ex 4 86 32 [.ref 3, .retAddr 0, .int v2, .int v3, .ref 61, .retAddr 0] [.int (1 : Int32)] (97, I, J, R) _
      refine az_E.br (c := (1 : Int32) = 0) (tt := 37) (ff := 35) (L' := [.ref 3, .retAddr 0, .int v2, .int v3, .ref 61, .retAddr 0]) (S' := []) (σ' := (97, I, J, R)) rfl (fun hn => absurd hn (by decide)) (fun _ => ?_)
      refine az_E.sn 1 (pc' := 36) (L' := [.ref 3, .retAddr 0, .int v2, .int v3, .ref 61, .retAddr 0]) (S' := [.int (0 : Int32)]) (σ' := (97, I, J, R)) rfl ?_
      have h := Option.some.inj h
      subst h
      exact az_E.ret (v := some (.int (0 : Int32))) (σ' := (97, I, J, R)) rfl hQ
    · rw [if_neg hc_7] at h
      refine az_E.sn 1 (pc' := 21) (L' := [.ref 61]) (S' := [.int (0 : Int32)]) (σ' := (97, I, J, R)) rfl ?_
      refine az_E.ret (v := some (.int (0 : Int32))) (σ' := (97, I, J, R)) rfl ?_
      show az_E az_F ex 4 86 32 [.ref 3, .retAddr 0, .int v2, .int v3, .ref 61, .retAddr 0] [.int (0 : Int32)] (97, I, J, R) _
      refine az_E.br (c := (0 : Int32) = 0) (tt := 37) (ff := 35) (L' := [.ref 3, .retAddr 0, .int v2, .int v3, .ref 61, .retAddr 0]) (S' := []) (σ' := (97, I, J, R)) rfl (fun _ => ?_) (fun hn => absurd (by decide) hn)
      refine az_E.sn 2 (pc' := 40) (L' := [.ref 3, .retAddr 0, .int v2, .int v3, .ref 61, .retAddr 0]) (S' := [.int (0 : Int32), .ref 61]) (σ' := (97, I, J, R)) rfl ?_
      refine az_E.call (d := 3) (k' := 56) (vs := [.ref 61, .int (0 : Int32)]) (pc' := 43) (S' := []) rfl ?_ (fun _ _ hq => hq)
      show az_E az_F ex 3 56 0 [.ref 61, .int (0 : Int32)] [] (97, I, J, R) _
      refine az_E.sn 1 (pc' := 1) (L' := [.ref 61, .int (0 : Int32)]) (S' := [.ref 61]) (σ' := (97, I, J, R)) rfl ?_
      refine az_E.call (d := 2) (k' := 55) (vs := [.ref 61]) (pc' := 4) (S' := []) rfl ?_ (fun _ _ hq => hq)
      show az_E az_F ex 2 55 0 [.ref 61] [] (97, I, J, R) _
      refine az_E.sn 3 (pc' := 5) (L' := [.ref 61]) (S' := [.int (-1 : Int32), .int (I 61 1)]) (σ' := (97, I, J, R)) rfl ?_
      refine az_E.br (c := (I 61 1) = (-1 : Int32)) (tt := 12) (ff := 8) (L' := [.ref 61]) (S' := []) (σ' := (97, I, J, R)) rfl (fun hc_8 => ?_) (fun hc_8 => ?_)
      · rw [if_pos hc_8] at h
        refine az_E.sn 1 (pc' := 13) (L' := [.ref 61]) (S' := [.int (0 : Int32)]) (σ' := (97, I, J, R)) rfl ?_
        refine az_E.ret (v := some (.int (0 : Int32))) (σ' := (97, I, J, R)) rfl ?_
        show az_E az_F ex 3 56 4 [.ref 61, .int (0 : Int32)] [.int (0 : Int32)] (97, I, J, R) _
        refine az_E.br (c := (0 : Int32) = 0) (tt := 19) (ff := 7) (L' := [.ref 61, .int (0 : Int32)]) (S' := []) (σ' := (97, I, J, R)) rfl (fun _ => ?_) (fun hn => absurd (by decide) hn)
        refine az_E.sn 1 (pc' := 20) (L' := [.ref 61, .int (0 : Int32)]) (S' := [.int (0 : Int32)]) (σ' := (97, I, J, R)) rfl ?_
        refine az_E.ret (v := some (.int (0 : Int32))) (σ' := (97, I, J, R)) rfl ?_
        show az_E az_F ex 4 86 43 [.ref 3, .retAddr 0, .int v2, .int v3, .ref 61, .retAddr 0] [.int (0 : Int32)] (97, I, J, R) _
        refine az_E.br (c := (0 : Int32) = 0) (tt := 46) (ff := 49) (L' := [.ref 3, .retAddr 0, .int v2, .int v3, .ref 61, .retAddr 0]) (S' := []) (σ' := (97, I, J, R)) rfl (fun _ => ?_) (fun hn => absurd (by decide) hn)
        refine az_E.sn 1 (pc' := 48) (L' := [.ref 3, .retAddr 0, .int v2, .int v3, .ref 61, .retAddr 0]) (S' := [.int (-12 : Int32)]) (σ' := (97, I, J, R)) rfl ?_
        have h := Option.some.inj h
        subst h
        exact az_E.ret (v := some (.int (-12 : Int32))) (σ' := (97, I, J, R)) rfl hQ
      · rw [if_neg hc_8] at h
        refine az_E.sn 2 (pc' := 13) (L' := [.ref 61]) (S' := [.int (1 : Int32)]) (σ' := (97, I, J, R)) rfl ?_
        refine az_E.ret (v := some (.int (1 : Int32))) (σ' := (97, I, J, R)) rfl ?_
        show az_E az_F ex 3 56 4 [.ref 61, .int (0 : Int32)] [.int (1 : Int32)] (97, I, J, R) _
        refine az_E.br (c := (1 : Int32) = 0) (tt := 19) (ff := 7) (L' := [.ref 61, .int (0 : Int32)]) (S' := []) (σ' := (97, I, J, R)) rfl (fun hn => absurd hn (by decide)) (fun _ => ?_)
        refine az_E.sn 3 (pc' := 12) (L' := [.ref 61, .int (0 : Int32)]) (S' := [.int (0 : Int32), .int (I 61 1)]) (σ' := (97, I, J, R)) rfl ?_
        refine az_E.br (c := (I 61 1) = (0 : Int32)) (tt := 15) (ff := 19) (L' := [.ref 61, .int (0 : Int32)]) (S' := []) (σ' := (97, I, J, R)) rfl (fun hc_9 => ?_) (fun hc_9 => ?_)
        · rw [if_pos hc_9] at h
          refine az_E.sn 2 (pc' := 20) (L' := [.ref 61, .int (0 : Int32)]) (S' := [.int (1 : Int32)]) (σ' := (97, I, J, R)) rfl ?_
          refine az_E.ret (v := some (.int (1 : Int32))) (σ' := (97, I, J, R)) rfl ?_
          show az_E az_F ex 4 86 43 [.ref 3, .retAddr 0, .int v2, .int v3, .ref 61, .retAddr 0] [.int (1 : Int32)] (97, I, J, R) _
          refine az_E.br (c := (1 : Int32) = 0) (tt := 46) (ff := 49) (L' := [.ref 3, .retAddr 0, .int v2, .int v3, .ref 61, .retAddr 0]) (S' := []) (σ' := (97, I, J, R)) rfl (fun hn => absurd hn (by decide)) (fun _ => ?_)
          refine az_E.sn 2 (pc' := 52) (L' := [.ref 3, .retAddr 0, .int v2, .int v3, .ref 61, .int (0 : Int32)]) (S' := []) (σ' := (97, I, J, R)) rfl ?_
          exact az_E.forget (L := [.ref 3, .retAddr 0, .int v2, .int v3, .ref 61, .int (0 : Int32)]) ⟨rfl, trivial, rfl, rfl, rfl, rfl, trivial⟩ (re_X_walkers_52_61 (I := I) (J := J) (R := R)  h hQ)
        · rw [if_neg hc_9] at h
          refine az_E.sn 1 (pc' := 20) (L' := [.ref 61, .int (0 : Int32)]) (S' := [.int (0 : Int32)]) (σ' := (97, I, J, R)) rfl ?_
          refine az_E.ret (v := some (.int (0 : Int32))) (σ' := (97, I, J, R)) rfl ?_
          show az_E az_F ex 4 86 43 [.ref 3, .retAddr 0, .int v2, .int v3, .ref 61, .retAddr 0] [.int (0 : Int32)] (97, I, J, R) _
          refine az_E.br (c := (0 : Int32) = 0) (tt := 46) (ff := 49) (L' := [.ref 3, .retAddr 0, .int v2, .int v3, .ref 61, .retAddr 0]) (S' := []) (σ' := (97, I, J, R)) rfl (fun _ => ?_) (fun hn => absurd (by decide) hn)
          refine az_E.sn 1 (pc' := 48) (L' := [.ref 3, .retAddr 0, .int v2, .int v3, .ref 61, .retAddr 0]) (S' := [.int (-12 : Int32)]) (σ' := (97, I, J, R)) rfl ?_
          have h := Option.some.inj h
          subst h
          exact az_E.ret (v := some (.int (-12 : Int32))) (σ' := (97, I, J, R)) rfl hQ
  · rw [if_neg hc_6] at h
    refine az_E.sn 1 (pc' := 21) (L' := [.ref 61]) (S' := [.int (0 : Int32)]) (σ' := (97, I, J, R)) rfl ?_
    refine az_E.ret (v := some (.int (0 : Int32))) (σ' := (97, I, J, R)) rfl ?_
    show az_E az_F ex 4 86 32 [.ref 3, .retAddr 0, .int v2, .int v3, .ref 61, .retAddr 0] [.int (0 : Int32)] (97, I, J, R) _
    refine az_E.br (c := (0 : Int32) = 0) (tt := 37) (ff := 35) (L' := [.ref 3, .retAddr 0, .int v2, .int v3, .ref 61, .retAddr 0]) (S' := []) (σ' := (97, I, J, R)) rfl (fun _ => ?_) (fun hn => absurd (by decide) hn)
    refine az_E.sn 2 (pc' := 40) (L' := [.ref 3, .retAddr 0, .int v2, .int v3, .ref 61, .retAddr 0]) (S' := [.int (0 : Int32), .ref 61]) (σ' := (97, I, J, R)) rfl ?_
    refine az_E.call (d := 3) (k' := 56) (vs := [.ref 61, .int (0 : Int32)]) (pc' := 43) (S' := []) rfl ?_ (fun _ _ hq => hq)
    show az_E az_F ex 3 56 0 [.ref 61, .int (0 : Int32)] [] (97, I, J, R) _
    refine az_E.sn 1 (pc' := 1) (L' := [.ref 61, .int (0 : Int32)]) (S' := [.ref 61]) (σ' := (97, I, J, R)) rfl ?_
    refine az_E.call (d := 2) (k' := 55) (vs := [.ref 61]) (pc' := 4) (S' := []) rfl ?_ (fun _ _ hq => hq)
    show az_E az_F ex 2 55 0 [.ref 61] [] (97, I, J, R) _
    refine az_E.sn 3 (pc' := 5) (L' := [.ref 61]) (S' := [.int (-1 : Int32), .int (I 61 1)]) (σ' := (97, I, J, R)) rfl ?_
    refine az_E.br (c := (I 61 1) = (-1 : Int32)) (tt := 12) (ff := 8) (L' := [.ref 61]) (S' := []) (σ' := (97, I, J, R)) rfl (fun hc_17 => ?_) (fun hc_17 => ?_)
    · rw [if_pos hc_17] at h
      refine az_E.sn 1 (pc' := 13) (L' := [.ref 61]) (S' := [.int (0 : Int32)]) (σ' := (97, I, J, R)) rfl ?_
      refine az_E.ret (v := some (.int (0 : Int32))) (σ' := (97, I, J, R)) rfl ?_
      show az_E az_F ex 3 56 4 [.ref 61, .int (0 : Int32)] [.int (0 : Int32)] (97, I, J, R) _
      refine az_E.br (c := (0 : Int32) = 0) (tt := 19) (ff := 7) (L' := [.ref 61, .int (0 : Int32)]) (S' := []) (σ' := (97, I, J, R)) rfl (fun _ => ?_) (fun hn => absurd (by decide) hn)
      refine az_E.sn 1 (pc' := 20) (L' := [.ref 61, .int (0 : Int32)]) (S' := [.int (0 : Int32)]) (σ' := (97, I, J, R)) rfl ?_
      refine az_E.ret (v := some (.int (0 : Int32))) (σ' := (97, I, J, R)) rfl ?_
      show az_E az_F ex 4 86 43 [.ref 3, .retAddr 0, .int v2, .int v3, .ref 61, .retAddr 0] [.int (0 : Int32)] (97, I, J, R) _
      refine az_E.br (c := (0 : Int32) = 0) (tt := 46) (ff := 49) (L' := [.ref 3, .retAddr 0, .int v2, .int v3, .ref 61, .retAddr 0]) (S' := []) (σ' := (97, I, J, R)) rfl (fun _ => ?_) (fun hn => absurd (by decide) hn)
      refine az_E.sn 1 (pc' := 48) (L' := [.ref 3, .retAddr 0, .int v2, .int v3, .ref 61, .retAddr 0]) (S' := [.int (-12 : Int32)]) (σ' := (97, I, J, R)) rfl ?_
      have h := Option.some.inj h
      subst h
      exact az_E.ret (v := some (.int (-12 : Int32))) (σ' := (97, I, J, R)) rfl hQ
    · rw [if_neg hc_17] at h
      refine az_E.sn 2 (pc' := 13) (L' := [.ref 61]) (S' := [.int (1 : Int32)]) (σ' := (97, I, J, R)) rfl ?_
      refine az_E.ret (v := some (.int (1 : Int32))) (σ' := (97, I, J, R)) rfl ?_
      show az_E az_F ex 3 56 4 [.ref 61, .int (0 : Int32)] [.int (1 : Int32)] (97, I, J, R) _
      refine az_E.br (c := (1 : Int32) = 0) (tt := 19) (ff := 7) (L' := [.ref 61, .int (0 : Int32)]) (S' := []) (σ' := (97, I, J, R)) rfl (fun hn => absurd hn (by decide)) (fun _ => ?_)
      refine az_E.sn 3 (pc' := 12) (L' := [.ref 61, .int (0 : Int32)]) (S' := [.int (0 : Int32), .int (I 61 1)]) (σ' := (97, I, J, R)) rfl ?_
      refine az_E.br (c := (I 61 1) = (0 : Int32)) (tt := 15) (ff := 19) (L' := [.ref 61, .int (0 : Int32)]) (S' := []) (σ' := (97, I, J, R)) rfl (fun hc_18 => ?_) (fun hc_18 => ?_)
      · rw [if_pos hc_18] at h
        refine az_E.sn 2 (pc' := 20) (L' := [.ref 61, .int (0 : Int32)]) (S' := [.int (1 : Int32)]) (σ' := (97, I, J, R)) rfl ?_
        refine az_E.ret (v := some (.int (1 : Int32))) (σ' := (97, I, J, R)) rfl ?_
        show az_E az_F ex 4 86 43 [.ref 3, .retAddr 0, .int v2, .int v3, .ref 61, .retAddr 0] [.int (1 : Int32)] (97, I, J, R) _
        refine az_E.br (c := (1 : Int32) = 0) (tt := 46) (ff := 49) (L' := [.ref 3, .retAddr 0, .int v2, .int v3, .ref 61, .retAddr 0]) (S' := []) (σ' := (97, I, J, R)) rfl (fun hn => absurd hn (by decide)) (fun _ => ?_)
        refine az_E.sn 2 (pc' := 52) (L' := [.ref 3, .retAddr 0, .int v2, .int v3, .ref 61, .int (0 : Int32)]) (S' := []) (σ' := (97, I, J, R)) rfl ?_
        exact az_E.forget (L := [.ref 3, .retAddr 0, .int v2, .int v3, .ref 61, .int (0 : Int32)]) ⟨rfl, trivial, rfl, rfl, rfl, rfl, trivial⟩ (re_X_walkers_52_61 (I := I) (J := J) (R := R)  h hQ)
      · rw [if_neg hc_18] at h
        refine az_E.sn 1 (pc' := 20) (L' := [.ref 61, .int (0 : Int32)]) (S' := [.int (0 : Int32)]) (σ' := (97, I, J, R)) rfl ?_
        refine az_E.ret (v := some (.int (0 : Int32))) (σ' := (97, I, J, R)) rfl ?_
        show az_E az_F ex 4 86 43 [.ref 3, .retAddr 0, .int v2, .int v3, .ref 61, .retAddr 0] [.int (0 : Int32)] (97, I, J, R) _
        refine az_E.br (c := (0 : Int32) = 0) (tt := 46) (ff := 49) (L' := [.ref 3, .retAddr 0, .int v2, .int v3, .ref 61, .retAddr 0]) (S' := []) (σ' := (97, I, J, R)) rfl (fun _ => ?_) (fun hn => absurd (by decide) hn)
        refine az_E.sn 1 (pc' := 48) (L' := [.ref 3, .retAddr 0, .int v2, .int v3, .ref 61, .retAddr 0]) (S' := [.int (-12 : Int32)]) (σ' := (97, I, J, R)) rfl ?_
        have h := Option.some.inj h
        subst h
        exact az_E.ret (v := some (.int (-12 : Int32))) (σ' := (97, I, J, R)) rfl hQ
set_option maxRecDepth 100000 in
set_option maxHeartbeats 4000000 in
theorem re_X_walkers_52_b_63 {ex : az_X} {I : Nat → Nat → Int32} {J : Nat → Nat → Int64} {R : Nat → Nat → Option Nat} {v2 : Int32} {v3 : Int32} {v5 : Int32} {x : ((Int32 × (Nat → Nat → Int32)) ⊕ (Int32 × (Nat → Nat → Int32)))} (h : rs_X_walkers_52_b 63 J v2 v3 v5 I = some x) {Q : Option Value → az_S → Prop} (hQ : Sum.elim (fun s => az_E az_F ex 4 86 52 [.ref 3, .retAddr 0, .int v2, .int v3, .ref 63, .int s.1] [] (97, s.2, J, R) Q) (fun x => Q (some (.int x.1)) (97, x.2, J, R)) x) : az_E az_F ex 4 86 52 [.ref 3, .retAddr 0, .int v2, .int v3, .ref 63, .int v5] [] (97, I, J, R) Q := by
  unfold rs_X_walkers_52_b at h
  refine az_E.sn 2 (pc' := 55) (L' := [.ref 3, .retAddr 0, .int v2, .int v3, .ref 63, .int v5]) (S' := [.int v3, .int v5]) (σ' := (97, I, J, R)) rfl ?_
  refine az_E.br (c := v3 ≤ v5) (tt := 89) (ff := 58) (L' := [.ref 3, .retAddr 0, .int v2, .int v3, .ref 63, .int v5]) (S' := []) (σ' := (97, I, J, R)) rfl (fun hc_23 => ?_) (fun hc_23 => ?_)
  · rw [if_pos hc_23] at h
    refine az_E.sn 1 (pc' := 91) (L' := [.ref 3, .retAddr 0, .int v2, .int v3, .ref 63, .int v5]) (S' := [.int v5]) (σ' := (97, I, J, R)) rfl ?_
    have h := Option.some.inj h
    subst h
    exact az_E.ret (v := some (.int v5)) (σ' := (97, I, J, R)) rfl hQ
  · rw [if_neg hc_23] at h
    refine az_E.sn 1 (pc' := 59) (L' := [.ref 3, .retAddr 0, .int v2, .int v3, .ref 63, .int v5]) (S' := [.int v2]) (σ' := (97, I, J, R)) rfl ?_
    refine az_E.br (c := v2 < 0) (tt := 89) (ff := 62) (L' := [.ref 3, .retAddr 0, .int v2, .int v3, .ref 63, .int v5]) (S' := []) (σ' := (97, I, J, R)) rfl (fun hc_24 => ?_) (fun hc_24 => ?_)
    · rw [if_pos hc_24] at h
      refine az_E.sn 1 (pc' := 91) (L' := [.ref 3, .retAddr 0, .int v2, .int v3, .ref 63, .int v5]) (S' := [.int v5]) (σ' := (97, I, J, R)) rfl ?_
      have h := Option.some.inj h
      subst h
      exact az_E.ret (v := some (.int v5)) (σ' := (97, I, J, R)) rfl hQ
    · rw [if_neg hc_24] at h
      refine az_E.sn 2 (pc' := 65) (L' := [.ref 3, .retAddr 0, .int v2, .int v3, .ref 63, .int v5]) (S' := [.int (60 : Int32), .int v2]) (σ' := (97, I, J, R)) rfl ?_
      refine az_E.br (c := (60 : Int32) ≤ v2) (tt := 89) (ff := 68) (L' := [.ref 3, .retAddr 0, .int v2, .int v3, .ref 63, .int v5]) (S' := []) (σ' := (97, I, J, R)) rfl (fun hc_25 => ?_) (fun hc_25 => ?_)
      · rw [if_pos hc_25] at h
        refine az_E.sn 1 (pc' := 91) (L' := [.ref 3, .retAddr 0, .int v2, .int v3, .ref 63, .int v5]) (S' := [.int v5]) (σ' := (97, I, J, R)) rfl ?_
        have h := Option.some.inj h
        subst h
        exact az_E.ret (v := some (.int v5)) (σ' := (97, I, J, R)) rfl hQ
      · rw [if_neg hc_25] at h
        refine az_E.sn 7 (pc' := 77) (L' := [.ref 3, .retAddr 0, .int v2, .int v3, .ref 63, .int v5]) (S' := [.int (v2 + ((3 : Int32) * v5)), .ref 63, .ref 3]) (σ' := (97, I, J, R)) rfl ?_
        cases hx_28 : rs_X_addFromRow 63 I J (v2 + ((3 : Int32) * v5)) with
        | none => rw [hx_28] at h; cases h
        | some o =>
          rw [hx_28] at h
          obtain ⟨x_26, I_27⟩ := o
          dsimp only at h
          refine az_E.call (d := 3) (k' := 143) (vs := [.ref 3, .ref 63, .int (v2 + ((3 : Int32) * v5))]) (pc' := 80) (S' := []) (Q1 := fun v s => v = some (.int x_26) ∧ s = (97, I_27, J, R)) rfl (az_E.deep (by omega) (re_X_addFromRow_63 (J := J) (R := R)  hx_28 ⟨rfl, rfl⟩)) (fun v s hq => ?_)
          obtain ⟨rfl, rfl⟩ := hq
          show az_E az_F ex 4 86 80 [.ref 3, .retAddr 0, .int v2, .int v3, .ref 63, .int v5] [.int x_26] (97, I_27, J, R) _
          refine az_E.br (c := x_26 = 0) (tt := 89) (ff := 83) (L' := [.ref 3, .retAddr 0, .int v2, .int v3, .ref 63, .int v5]) (S' := []) (σ' := (97, I_27, J, R)) rfl (fun hc_29 => ?_) (fun hc_29 => ?_)
          · rw [if_pos hc_29] at h
            refine az_E.sn 1 (pc' := 91) (L' := [.ref 3, .retAddr 0, .int v2, .int v3, .ref 63, .int v5]) (S' := [.int v5]) (σ' := (97, I_27, J, R)) rfl ?_
            have h := Option.some.inj h
            subst h
            exact az_E.ret (v := some (.int v5)) (σ' := (97, I_27, J, R)) rfl hQ
          · rw [if_neg hc_29] at h
            refine az_E.sn 2 (pc' := 52) (L' := [.ref 3, .retAddr 0, .int v2, .int v3, .ref 63, .int (v5 + (1 : Int32))]) (S' := []) (σ' := (97, I_27, J, R)) rfl ?_
            have h := Option.some.inj h
            subst h
            exact az_E.forget (L := [.ref 3, .retAddr 0, .int v2, .int v3, .ref 63, .int (v5 + (1 : Int32))]) ⟨rfl, trivial, rfl, rfl, rfl, rfl, trivial⟩ hQ
set_option maxRecDepth 100000 in
set_option maxHeartbeats 4000000 in
theorem re_X_walkers_52_63 {ex : az_X} {I : Nat → Nat → Int32} {J : Nat → Nat → Int64} {R : Nat → Nat → Option Nat} {v2 : Int32} {v3 : Int32} {v5 : Int32} {x : Int32 × (Nat → Nat → Int32)} (h : rs_X_walkers_52 63 I J v2 v3 v5 = some x) {Q : Option Value → az_S → Prop} (hQ : Q (some (.int x.1)) (97, x.2, J, R)) : az_E az_F ex 4 86 52 [.ref 3, .retAddr 0, .int v2, .int v3, .ref 63, .int v5] [] (97, I, J, R) Q := by
  unfold rs_X_walkers_52 at h
  refine az_lp_E (G := fun s => az_E az_F ex 4 86 52 [.ref 3, .retAddr 0, .int v2, .int v3, .ref 63, .int s.1] [] (97, s.2, J, R) Q) (H := fun x => Q (some (.int x.1)) (97, x.2, J, R)) (fun s o hb ho => ?_) _ _ _ h hQ
  exact re_X_walkers_52_b_63  hb ho
set_option maxRecDepth 100000 in
set_option maxHeartbeats 4000000 in
theorem re_X_walkers_25_63 {ex : az_X} {I : Nat → Nat → Int32} {J : Nat → Nat → Int64} {R : Nat → Nat → Option Nat} {v2 : Int32} {v3 : Int32} {x : Int32 × (Nat → Nat → Int32)} (h : rs_X_walkers_25 63 I J v2 v3 = some x) {Q : Option Value → az_S → Prop} (hQ : Q (some (.int x.1)) (97, x.2, J, R)) : az_E az_F ex 4 86 25 [.ref 3, .retAddr 0, .int v2, .int v3, .retAddr 0, .retAddr 0] [.ref 63] (97, I, J, R) Q := by
  unfold rs_X_walkers_25 at h
  refine az_E.sn 2 (pc' := 29) (L' := [.ref 3, .retAddr 0, .int v2, .int v3, .ref 63, .retAddr 0]) (S' := [.ref 63]) (σ' := (97, I, J, R)) rfl ?_
  refine az_E.call (d := 3) (k' := 54) (vs := [.ref 63]) (pc' := 32) (S' := []) rfl ?_ (fun _ _ hq => hq)
  show az_E az_F ex 3 54 0 [.ref 63] [] (97, I, J, R) _
  refine az_E.sn 3 (pc' := 5) (L' := [.ref 63]) (S' := [.int (-1 : Int32), .int (I 63 0)]) (σ' := (97, I, J, R)) rfl ?_
  refine az_E.br (c := (I 63 0) = (-1 : Int32)) (tt := 8) (ff := 20) (L' := [.ref 63]) (S' := []) (σ' := (97, I, J, R)) rfl (fun hc_19 => ?_) (fun hc_19 => ?_)
  · rw [if_pos hc_19] at h
    refine az_E.sn 3 (pc' := 13) (L' := [.ref 63]) (S' := [.int (-1 : Int32), .int (I 63 1)]) (σ' := (97, I, J, R)) rfl ?_
    refine az_E.br (c := (I 63 1) = (-1 : Int32)) (tt := 16) (ff := 20) (L' := [.ref 63]) (S' := []) (σ' := (97, I, J, R)) rfl (fun hc_20 => ?_) (fun hc_20 => ?_)
    · rw [if_pos hc_20] at h
      refine az_E.sn 2 (pc' := 21) (L' := [.ref 63]) (S' := [.int (1 : Int32)]) (σ' := (97, I, J, R)) rfl ?_
      refine az_E.ret (v := some (.int (1 : Int32))) (σ' := (97, I, J, R)) rfl ?_
      show az_E az_F ex 4 86 32 [.ref 3, .retAddr 0, .int v2, .int v3, .ref 63, .retAddr 0] [.int (1 : Int32)] (97, I, J, R) _
      refine az_E.br (c := (1 : Int32) = 0) (tt := 37) (ff := 35) (L' := [.ref 3, .retAddr 0, .int v2, .int v3, .ref 63, .retAddr 0]) (S' := []) (σ' := (97, I, J, R)) rfl (fun hn => absurd hn (by decide)) (fun _ => ?_)
      refine az_E.sn 1 (pc' := 36) (L' := [.ref 3, .retAddr 0, .int v2, .int v3, .ref 63, .retAddr 0]) (S' := [.int (0 : Int32)]) (σ' := (97, I, J, R)) rfl ?_
      have h := Option.some.inj h
      subst h
      exact az_E.ret (v := some (.int (0 : Int32))) (σ' := (97, I, J, R)) rfl hQ
    · rw [if_neg hc_20] at h
      refine az_E.sn 1 (pc' := 21) (L' := [.ref 63]) (S' := [.int (0 : Int32)]) (σ' := (97, I, J, R)) rfl ?_
      refine az_E.ret (v := some (.int (0 : Int32))) (σ' := (97, I, J, R)) rfl ?_
      show az_E az_F ex 4 86 32 [.ref 3, .retAddr 0, .int v2, .int v3, .ref 63, .retAddr 0] [.int (0 : Int32)] (97, I, J, R) _
      refine az_E.br (c := (0 : Int32) = 0) (tt := 37) (ff := 35) (L' := [.ref 3, .retAddr 0, .int v2, .int v3, .ref 63, .retAddr 0]) (S' := []) (σ' := (97, I, J, R)) rfl (fun _ => ?_) (fun hn => absurd (by decide) hn)
      refine az_E.sn 2 (pc' := 40) (L' := [.ref 3, .retAddr 0, .int v2, .int v3, .ref 63, .retAddr 0]) (S' := [.int (0 : Int32), .ref 63]) (σ' := (97, I, J, R)) rfl ?_
      refine az_E.call (d := 3) (k' := 56) (vs := [.ref 63, .int (0 : Int32)]) (pc' := 43) (S' := []) rfl ?_ (fun _ _ hq => hq)
      show az_E az_F ex 3 56 0 [.ref 63, .int (0 : Int32)] [] (97, I, J, R) _
      refine az_E.sn 1 (pc' := 1) (L' := [.ref 63, .int (0 : Int32)]) (S' := [.ref 63]) (σ' := (97, I, J, R)) rfl ?_
      refine az_E.call (d := 2) (k' := 55) (vs := [.ref 63]) (pc' := 4) (S' := []) rfl ?_ (fun _ _ hq => hq)
      show az_E az_F ex 2 55 0 [.ref 63] [] (97, I, J, R) _
      refine az_E.sn 3 (pc' := 5) (L' := [.ref 63]) (S' := [.int (-1 : Int32), .int (I 63 1)]) (σ' := (97, I, J, R)) rfl ?_
      refine az_E.br (c := (I 63 1) = (-1 : Int32)) (tt := 12) (ff := 8) (L' := [.ref 63]) (S' := []) (σ' := (97, I, J, R)) rfl (fun hc_21 => ?_) (fun hc_21 => ?_)
      · rw [if_pos hc_21] at h
        refine az_E.sn 1 (pc' := 13) (L' := [.ref 63]) (S' := [.int (0 : Int32)]) (σ' := (97, I, J, R)) rfl ?_
        refine az_E.ret (v := some (.int (0 : Int32))) (σ' := (97, I, J, R)) rfl ?_
        show az_E az_F ex 3 56 4 [.ref 63, .int (0 : Int32)] [.int (0 : Int32)] (97, I, J, R) _
        refine az_E.br (c := (0 : Int32) = 0) (tt := 19) (ff := 7) (L' := [.ref 63, .int (0 : Int32)]) (S' := []) (σ' := (97, I, J, R)) rfl (fun _ => ?_) (fun hn => absurd (by decide) hn)
        refine az_E.sn 1 (pc' := 20) (L' := [.ref 63, .int (0 : Int32)]) (S' := [.int (0 : Int32)]) (σ' := (97, I, J, R)) rfl ?_
        refine az_E.ret (v := some (.int (0 : Int32))) (σ' := (97, I, J, R)) rfl ?_
        show az_E az_F ex 4 86 43 [.ref 3, .retAddr 0, .int v2, .int v3, .ref 63, .retAddr 0] [.int (0 : Int32)] (97, I, J, R) _
        refine az_E.br (c := (0 : Int32) = 0) (tt := 46) (ff := 49) (L' := [.ref 3, .retAddr 0, .int v2, .int v3, .ref 63, .retAddr 0]) (S' := []) (σ' := (97, I, J, R)) rfl (fun _ => ?_) (fun hn => absurd (by decide) hn)
        refine az_E.sn 1 (pc' := 48) (L' := [.ref 3, .retAddr 0, .int v2, .int v3, .ref 63, .retAddr 0]) (S' := [.int (-12 : Int32)]) (σ' := (97, I, J, R)) rfl ?_
        have h := Option.some.inj h
        subst h
        exact az_E.ret (v := some (.int (-12 : Int32))) (σ' := (97, I, J, R)) rfl hQ
      · rw [if_neg hc_21] at h
        refine az_E.sn 2 (pc' := 13) (L' := [.ref 63]) (S' := [.int (1 : Int32)]) (σ' := (97, I, J, R)) rfl ?_
        refine az_E.ret (v := some (.int (1 : Int32))) (σ' := (97, I, J, R)) rfl ?_
        show az_E az_F ex 3 56 4 [.ref 63, .int (0 : Int32)] [.int (1 : Int32)] (97, I, J, R) _
        refine az_E.br (c := (1 : Int32) = 0) (tt := 19) (ff := 7) (L' := [.ref 63, .int (0 : Int32)]) (S' := []) (σ' := (97, I, J, R)) rfl (fun hn => absurd hn (by decide)) (fun _ => ?_)
        refine az_E.sn 3 (pc' := 12) (L' := [.ref 63, .int (0 : Int32)]) (S' := [.int (0 : Int32), .int (I 63 1)]) (σ' := (97, I, J, R)) rfl ?_
        refine az_E.br (c := (I 63 1) = (0 : Int32)) (tt := 15) (ff := 19) (L' := [.ref 63, .int (0 : Int32)]) (S' := []) (σ' := (97, I, J, R)) rfl (fun hc_22 => ?_) (fun hc_22 => ?_)
        · rw [if_pos hc_22] at h
          refine az_E.sn 2 (pc' := 20) (L' := [.ref 63, .int (0 : Int32)]) (S' := [.int (1 : Int32)]) (σ' := (97, I, J, R)) rfl ?_
          refine az_E.ret (v := some (.int (1 : Int32))) (σ' := (97, I, J, R)) rfl ?_
          show az_E az_F ex 4 86 43 [.ref 3, .retAddr 0, .int v2, .int v3, .ref 63, .retAddr 0] [.int (1 : Int32)] (97, I, J, R) _
          refine az_E.br (c := (1 : Int32) = 0) (tt := 46) (ff := 49) (L' := [.ref 3, .retAddr 0, .int v2, .int v3, .ref 63, .retAddr 0]) (S' := []) (σ' := (97, I, J, R)) rfl (fun hn => absurd hn (by decide)) (fun _ => ?_)
          refine az_E.sn 2 (pc' := 52) (L' := [.ref 3, .retAddr 0, .int v2, .int v3, .ref 63, .int (0 : Int32)]) (S' := []) (σ' := (97, I, J, R)) rfl ?_
          exact az_E.forget (L := [.ref 3, .retAddr 0, .int v2, .int v3, .ref 63, .int (0 : Int32)]) ⟨rfl, trivial, rfl, rfl, rfl, rfl, trivial⟩ (re_X_walkers_52_63 (I := I) (J := J) (R := R)  h hQ)
        · rw [if_neg hc_22] at h
          refine az_E.sn 1 (pc' := 20) (L' := [.ref 63, .int (0 : Int32)]) (S' := [.int (0 : Int32)]) (σ' := (97, I, J, R)) rfl ?_
          refine az_E.ret (v := some (.int (0 : Int32))) (σ' := (97, I, J, R)) rfl ?_
          show az_E az_F ex 4 86 43 [.ref 3, .retAddr 0, .int v2, .int v3, .ref 63, .retAddr 0] [.int (0 : Int32)] (97, I, J, R) _
          refine az_E.br (c := (0 : Int32) = 0) (tt := 46) (ff := 49) (L' := [.ref 3, .retAddr 0, .int v2, .int v3, .ref 63, .retAddr 0]) (S' := []) (σ' := (97, I, J, R)) rfl (fun _ => ?_) (fun hn => absurd (by decide) hn)
          refine az_E.sn 1 (pc' := 48) (L' := [.ref 3, .retAddr 0, .int v2, .int v3, .ref 63, .retAddr 0]) (S' := [.int (-12 : Int32)]) (σ' := (97, I, J, R)) rfl ?_
          have h := Option.some.inj h
          subst h
          exact az_E.ret (v := some (.int (-12 : Int32))) (σ' := (97, I, J, R)) rfl hQ
  · rw [if_neg hc_19] at h
    refine az_E.sn 1 (pc' := 21) (L' := [.ref 63]) (S' := [.int (0 : Int32)]) (σ' := (97, I, J, R)) rfl ?_
    refine az_E.ret (v := some (.int (0 : Int32))) (σ' := (97, I, J, R)) rfl ?_
    show az_E az_F ex 4 86 32 [.ref 3, .retAddr 0, .int v2, .int v3, .ref 63, .retAddr 0] [.int (0 : Int32)] (97, I, J, R) _
    refine az_E.br (c := (0 : Int32) = 0) (tt := 37) (ff := 35) (L' := [.ref 3, .retAddr 0, .int v2, .int v3, .ref 63, .retAddr 0]) (S' := []) (σ' := (97, I, J, R)) rfl (fun _ => ?_) (fun hn => absurd (by decide) hn)
    refine az_E.sn 2 (pc' := 40) (L' := [.ref 3, .retAddr 0, .int v2, .int v3, .ref 63, .retAddr 0]) (S' := [.int (0 : Int32), .ref 63]) (σ' := (97, I, J, R)) rfl ?_
    refine az_E.call (d := 3) (k' := 56) (vs := [.ref 63, .int (0 : Int32)]) (pc' := 43) (S' := []) rfl ?_ (fun _ _ hq => hq)
    show az_E az_F ex 3 56 0 [.ref 63, .int (0 : Int32)] [] (97, I, J, R) _
    refine az_E.sn 1 (pc' := 1) (L' := [.ref 63, .int (0 : Int32)]) (S' := [.ref 63]) (σ' := (97, I, J, R)) rfl ?_
    refine az_E.call (d := 2) (k' := 55) (vs := [.ref 63]) (pc' := 4) (S' := []) rfl ?_ (fun _ _ hq => hq)
    show az_E az_F ex 2 55 0 [.ref 63] [] (97, I, J, R) _
    refine az_E.sn 3 (pc' := 5) (L' := [.ref 63]) (S' := [.int (-1 : Int32), .int (I 63 1)]) (σ' := (97, I, J, R)) rfl ?_
    refine az_E.br (c := (I 63 1) = (-1 : Int32)) (tt := 12) (ff := 8) (L' := [.ref 63]) (S' := []) (σ' := (97, I, J, R)) rfl (fun hc_30 => ?_) (fun hc_30 => ?_)
    · rw [if_pos hc_30] at h
      refine az_E.sn 1 (pc' := 13) (L' := [.ref 63]) (S' := [.int (0 : Int32)]) (σ' := (97, I, J, R)) rfl ?_
      refine az_E.ret (v := some (.int (0 : Int32))) (σ' := (97, I, J, R)) rfl ?_
      show az_E az_F ex 3 56 4 [.ref 63, .int (0 : Int32)] [.int (0 : Int32)] (97, I, J, R) _
      refine az_E.br (c := (0 : Int32) = 0) (tt := 19) (ff := 7) (L' := [.ref 63, .int (0 : Int32)]) (S' := []) (σ' := (97, I, J, R)) rfl (fun _ => ?_) (fun hn => absurd (by decide) hn)
      refine az_E.sn 1 (pc' := 20) (L' := [.ref 63, .int (0 : Int32)]) (S' := [.int (0 : Int32)]) (σ' := (97, I, J, R)) rfl ?_
      refine az_E.ret (v := some (.int (0 : Int32))) (σ' := (97, I, J, R)) rfl ?_
      show az_E az_F ex 4 86 43 [.ref 3, .retAddr 0, .int v2, .int v3, .ref 63, .retAddr 0] [.int (0 : Int32)] (97, I, J, R) _
      refine az_E.br (c := (0 : Int32) = 0) (tt := 46) (ff := 49) (L' := [.ref 3, .retAddr 0, .int v2, .int v3, .ref 63, .retAddr 0]) (S' := []) (σ' := (97, I, J, R)) rfl (fun _ => ?_) (fun hn => absurd (by decide) hn)
      refine az_E.sn 1 (pc' := 48) (L' := [.ref 3, .retAddr 0, .int v2, .int v3, .ref 63, .retAddr 0]) (S' := [.int (-12 : Int32)]) (σ' := (97, I, J, R)) rfl ?_
      have h := Option.some.inj h
      subst h
      exact az_E.ret (v := some (.int (-12 : Int32))) (σ' := (97, I, J, R)) rfl hQ
    · rw [if_neg hc_30] at h
      refine az_E.sn 2 (pc' := 13) (L' := [.ref 63]) (S' := [.int (1 : Int32)]) (σ' := (97, I, J, R)) rfl ?_
      refine az_E.ret (v := some (.int (1 : Int32))) (σ' := (97, I, J, R)) rfl ?_
      show az_E az_F ex 3 56 4 [.ref 63, .int (0 : Int32)] [.int (1 : Int32)] (97, I, J, R) _
      refine az_E.br (c := (1 : Int32) = 0) (tt := 19) (ff := 7) (L' := [.ref 63, .int (0 : Int32)]) (S' := []) (σ' := (97, I, J, R)) rfl (fun hn => absurd hn (by decide)) (fun _ => ?_)
      refine az_E.sn 3 (pc' := 12) (L' := [.ref 63, .int (0 : Int32)]) (S' := [.int (0 : Int32), .int (I 63 1)]) (σ' := (97, I, J, R)) rfl ?_
      refine az_E.br (c := (I 63 1) = (0 : Int32)) (tt := 15) (ff := 19) (L' := [.ref 63, .int (0 : Int32)]) (S' := []) (σ' := (97, I, J, R)) rfl (fun hc_31 => ?_) (fun hc_31 => ?_)
      · rw [if_pos hc_31] at h
        refine az_E.sn 2 (pc' := 20) (L' := [.ref 63, .int (0 : Int32)]) (S' := [.int (1 : Int32)]) (σ' := (97, I, J, R)) rfl ?_
        refine az_E.ret (v := some (.int (1 : Int32))) (σ' := (97, I, J, R)) rfl ?_
        show az_E az_F ex 4 86 43 [.ref 3, .retAddr 0, .int v2, .int v3, .ref 63, .retAddr 0] [.int (1 : Int32)] (97, I, J, R) _
        refine az_E.br (c := (1 : Int32) = 0) (tt := 46) (ff := 49) (L' := [.ref 3, .retAddr 0, .int v2, .int v3, .ref 63, .retAddr 0]) (S' := []) (σ' := (97, I, J, R)) rfl (fun hn => absurd hn (by decide)) (fun _ => ?_)
        refine az_E.sn 2 (pc' := 52) (L' := [.ref 3, .retAddr 0, .int v2, .int v3, .ref 63, .int (0 : Int32)]) (S' := []) (σ' := (97, I, J, R)) rfl ?_
        exact az_E.forget (L := [.ref 3, .retAddr 0, .int v2, .int v3, .ref 63, .int (0 : Int32)]) ⟨rfl, trivial, rfl, rfl, rfl, rfl, trivial⟩ (re_X_walkers_52_63 (I := I) (J := J) (R := R)  h hQ)
      · rw [if_neg hc_31] at h
        refine az_E.sn 1 (pc' := 20) (L' := [.ref 63, .int (0 : Int32)]) (S' := [.int (0 : Int32)]) (σ' := (97, I, J, R)) rfl ?_
        refine az_E.ret (v := some (.int (0 : Int32))) (σ' := (97, I, J, R)) rfl ?_
        show az_E az_F ex 4 86 43 [.ref 3, .retAddr 0, .int v2, .int v3, .ref 63, .retAddr 0] [.int (0 : Int32)] (97, I, J, R) _
        refine az_E.br (c := (0 : Int32) = 0) (tt := 46) (ff := 49) (L' := [.ref 3, .retAddr 0, .int v2, .int v3, .ref 63, .retAddr 0]) (S' := []) (σ' := (97, I, J, R)) rfl (fun _ => ?_) (fun hn => absurd (by decide) hn)
        refine az_E.sn 1 (pc' := 48) (L' := [.ref 3, .retAddr 0, .int v2, .int v3, .ref 63, .retAddr 0]) (S' := [.int (-12 : Int32)]) (σ' := (97, I, J, R)) rfl ?_
        have h := Option.some.inj h
        subst h
        exact az_E.ret (v := some (.int (-12 : Int32))) (σ' := (97, I, J, R)) rfl hQ
set_option maxRecDepth 100000 in
set_option maxHeartbeats 4000000 in
theorem re_X_walkers_52_b_65 {ex : az_X} {I : Nat → Nat → Int32} {J : Nat → Nat → Int64} {R : Nat → Nat → Option Nat} {v2 : Int32} {v3 : Int32} {v5 : Int32} {x : ((Int32 × (Nat → Nat → Int32)) ⊕ (Int32 × (Nat → Nat → Int32)))} (h : rs_X_walkers_52_b 65 J v2 v3 v5 I = some x) {Q : Option Value → az_S → Prop} (hQ : Sum.elim (fun s => az_E az_F ex 4 86 52 [.ref 3, .retAddr 0, .int v2, .int v3, .ref 65, .int s.1] [] (97, s.2, J, R) Q) (fun x => Q (some (.int x.1)) (97, x.2, J, R)) x) : az_E az_F ex 4 86 52 [.ref 3, .retAddr 0, .int v2, .int v3, .ref 65, .int v5] [] (97, I, J, R) Q := by
  unfold rs_X_walkers_52_b at h
  refine az_E.sn 2 (pc' := 55) (L' := [.ref 3, .retAddr 0, .int v2, .int v3, .ref 65, .int v5]) (S' := [.int v3, .int v5]) (σ' := (97, I, J, R)) rfl ?_
  refine az_E.br (c := v3 ≤ v5) (tt := 89) (ff := 58) (L' := [.ref 3, .retAddr 0, .int v2, .int v3, .ref 65, .int v5]) (S' := []) (σ' := (97, I, J, R)) rfl (fun hc_36 => ?_) (fun hc_36 => ?_)
  · rw [if_pos hc_36] at h
    refine az_E.sn 1 (pc' := 91) (L' := [.ref 3, .retAddr 0, .int v2, .int v3, .ref 65, .int v5]) (S' := [.int v5]) (σ' := (97, I, J, R)) rfl ?_
    have h := Option.some.inj h
    subst h
    exact az_E.ret (v := some (.int v5)) (σ' := (97, I, J, R)) rfl hQ
  · rw [if_neg hc_36] at h
    refine az_E.sn 1 (pc' := 59) (L' := [.ref 3, .retAddr 0, .int v2, .int v3, .ref 65, .int v5]) (S' := [.int v2]) (σ' := (97, I, J, R)) rfl ?_
    refine az_E.br (c := v2 < 0) (tt := 89) (ff := 62) (L' := [.ref 3, .retAddr 0, .int v2, .int v3, .ref 65, .int v5]) (S' := []) (σ' := (97, I, J, R)) rfl (fun hc_37 => ?_) (fun hc_37 => ?_)
    · rw [if_pos hc_37] at h
      refine az_E.sn 1 (pc' := 91) (L' := [.ref 3, .retAddr 0, .int v2, .int v3, .ref 65, .int v5]) (S' := [.int v5]) (σ' := (97, I, J, R)) rfl ?_
      have h := Option.some.inj h
      subst h
      exact az_E.ret (v := some (.int v5)) (σ' := (97, I, J, R)) rfl hQ
    · rw [if_neg hc_37] at h
      refine az_E.sn 2 (pc' := 65) (L' := [.ref 3, .retAddr 0, .int v2, .int v3, .ref 65, .int v5]) (S' := [.int (60 : Int32), .int v2]) (σ' := (97, I, J, R)) rfl ?_
      refine az_E.br (c := (60 : Int32) ≤ v2) (tt := 89) (ff := 68) (L' := [.ref 3, .retAddr 0, .int v2, .int v3, .ref 65, .int v5]) (S' := []) (σ' := (97, I, J, R)) rfl (fun hc_38 => ?_) (fun hc_38 => ?_)
      · rw [if_pos hc_38] at h
        refine az_E.sn 1 (pc' := 91) (L' := [.ref 3, .retAddr 0, .int v2, .int v3, .ref 65, .int v5]) (S' := [.int v5]) (σ' := (97, I, J, R)) rfl ?_
        have h := Option.some.inj h
        subst h
        exact az_E.ret (v := some (.int v5)) (σ' := (97, I, J, R)) rfl hQ
      · rw [if_neg hc_38] at h
        refine az_E.sn 7 (pc' := 77) (L' := [.ref 3, .retAddr 0, .int v2, .int v3, .ref 65, .int v5]) (S' := [.int (v2 + ((3 : Int32) * v5)), .ref 65, .ref 3]) (σ' := (97, I, J, R)) rfl ?_
        cases hx_41 : rs_X_addFromRow 65 I J (v2 + ((3 : Int32) * v5)) with
        | none => rw [hx_41] at h; cases h
        | some o =>
          rw [hx_41] at h
          obtain ⟨x_39, I_40⟩ := o
          dsimp only at h
          refine az_E.call (d := 3) (k' := 143) (vs := [.ref 3, .ref 65, .int (v2 + ((3 : Int32) * v5))]) (pc' := 80) (S' := []) (Q1 := fun v s => v = some (.int x_39) ∧ s = (97, I_40, J, R)) rfl (az_E.deep (by omega) (re_X_addFromRow_65 (J := J) (R := R)  hx_41 ⟨rfl, rfl⟩)) (fun v s hq => ?_)
          obtain ⟨rfl, rfl⟩ := hq
          show az_E az_F ex 4 86 80 [.ref 3, .retAddr 0, .int v2, .int v3, .ref 65, .int v5] [.int x_39] (97, I_40, J, R) _
          refine az_E.br (c := x_39 = 0) (tt := 89) (ff := 83) (L' := [.ref 3, .retAddr 0, .int v2, .int v3, .ref 65, .int v5]) (S' := []) (σ' := (97, I_40, J, R)) rfl (fun hc_42 => ?_) (fun hc_42 => ?_)
          · rw [if_pos hc_42] at h
            refine az_E.sn 1 (pc' := 91) (L' := [.ref 3, .retAddr 0, .int v2, .int v3, .ref 65, .int v5]) (S' := [.int v5]) (σ' := (97, I_40, J, R)) rfl ?_
            have h := Option.some.inj h
            subst h
            exact az_E.ret (v := some (.int v5)) (σ' := (97, I_40, J, R)) rfl hQ
          · rw [if_neg hc_42] at h
            refine az_E.sn 2 (pc' := 52) (L' := [.ref 3, .retAddr 0, .int v2, .int v3, .ref 65, .int (v5 + (1 : Int32))]) (S' := []) (σ' := (97, I_40, J, R)) rfl ?_
            have h := Option.some.inj h
            subst h
            exact az_E.forget (L := [.ref 3, .retAddr 0, .int v2, .int v3, .ref 65, .int (v5 + (1 : Int32))]) ⟨rfl, trivial, rfl, rfl, rfl, rfl, trivial⟩ hQ
set_option maxRecDepth 100000 in
set_option maxHeartbeats 4000000 in
theorem re_X_walkers_52_65 {ex : az_X} {I : Nat → Nat → Int32} {J : Nat → Nat → Int64} {R : Nat → Nat → Option Nat} {v2 : Int32} {v3 : Int32} {v5 : Int32} {x : Int32 × (Nat → Nat → Int32)} (h : rs_X_walkers_52 65 I J v2 v3 v5 = some x) {Q : Option Value → az_S → Prop} (hQ : Q (some (.int x.1)) (97, x.2, J, R)) : az_E az_F ex 4 86 52 [.ref 3, .retAddr 0, .int v2, .int v3, .ref 65, .int v5] [] (97, I, J, R) Q := by
  unfold rs_X_walkers_52 at h
  refine az_lp_E (G := fun s => az_E az_F ex 4 86 52 [.ref 3, .retAddr 0, .int v2, .int v3, .ref 65, .int s.1] [] (97, s.2, J, R) Q) (H := fun x => Q (some (.int x.1)) (97, x.2, J, R)) (fun s o hb ho => ?_) _ _ _ h hQ
  exact re_X_walkers_52_b_65  hb ho
set_option maxRecDepth 100000 in
set_option maxHeartbeats 4000000 in
theorem re_X_walkers_25_65 {ex : az_X} {I : Nat → Nat → Int32} {J : Nat → Nat → Int64} {R : Nat → Nat → Option Nat} {v2 : Int32} {v3 : Int32} {x : Int32 × (Nat → Nat → Int32)} (h : rs_X_walkers_25 65 I J v2 v3 = some x) {Q : Option Value → az_S → Prop} (hQ : Q (some (.int x.1)) (97, x.2, J, R)) : az_E az_F ex 4 86 25 [.ref 3, .retAddr 0, .int v2, .int v3, .retAddr 0, .retAddr 0] [.ref 65] (97, I, J, R) Q := by
  unfold rs_X_walkers_25 at h
  refine az_E.sn 2 (pc' := 29) (L' := [.ref 3, .retAddr 0, .int v2, .int v3, .ref 65, .retAddr 0]) (S' := [.ref 65]) (σ' := (97, I, J, R)) rfl ?_
  refine az_E.call (d := 3) (k' := 54) (vs := [.ref 65]) (pc' := 32) (S' := []) rfl ?_ (fun _ _ hq => hq)
  show az_E az_F ex 3 54 0 [.ref 65] [] (97, I, J, R) _
  refine az_E.sn 3 (pc' := 5) (L' := [.ref 65]) (S' := [.int (-1 : Int32), .int (I 65 0)]) (σ' := (97, I, J, R)) rfl ?_
  refine az_E.br (c := (I 65 0) = (-1 : Int32)) (tt := 8) (ff := 20) (L' := [.ref 65]) (S' := []) (σ' := (97, I, J, R)) rfl (fun hc_32 => ?_) (fun hc_32 => ?_)
  · rw [if_pos hc_32] at h
    refine az_E.sn 3 (pc' := 13) (L' := [.ref 65]) (S' := [.int (-1 : Int32), .int (I 65 1)]) (σ' := (97, I, J, R)) rfl ?_
    refine az_E.br (c := (I 65 1) = (-1 : Int32)) (tt := 16) (ff := 20) (L' := [.ref 65]) (S' := []) (σ' := (97, I, J, R)) rfl (fun hc_33 => ?_) (fun hc_33 => ?_)
    · rw [if_pos hc_33] at h
      refine az_E.sn 2 (pc' := 21) (L' := [.ref 65]) (S' := [.int (1 : Int32)]) (σ' := (97, I, J, R)) rfl ?_
      refine az_E.ret (v := some (.int (1 : Int32))) (σ' := (97, I, J, R)) rfl ?_
      show az_E az_F ex 4 86 32 [.ref 3, .retAddr 0, .int v2, .int v3, .ref 65, .retAddr 0] [.int (1 : Int32)] (97, I, J, R) _
      refine az_E.br (c := (1 : Int32) = 0) (tt := 37) (ff := 35) (L' := [.ref 3, .retAddr 0, .int v2, .int v3, .ref 65, .retAddr 0]) (S' := []) (σ' := (97, I, J, R)) rfl (fun hn => absurd hn (by decide)) (fun _ => ?_)
      refine az_E.sn 1 (pc' := 36) (L' := [.ref 3, .retAddr 0, .int v2, .int v3, .ref 65, .retAddr 0]) (S' := [.int (0 : Int32)]) (σ' := (97, I, J, R)) rfl ?_
      have h := Option.some.inj h
      subst h
      exact az_E.ret (v := some (.int (0 : Int32))) (σ' := (97, I, J, R)) rfl hQ
    · rw [if_neg hc_33] at h
      refine az_E.sn 1 (pc' := 21) (L' := [.ref 65]) (S' := [.int (0 : Int32)]) (σ' := (97, I, J, R)) rfl ?_
      refine az_E.ret (v := some (.int (0 : Int32))) (σ' := (97, I, J, R)) rfl ?_
      show az_E az_F ex 4 86 32 [.ref 3, .retAddr 0, .int v2, .int v3, .ref 65, .retAddr 0] [.int (0 : Int32)] (97, I, J, R) _
      refine az_E.br (c := (0 : Int32) = 0) (tt := 37) (ff := 35) (L' := [.ref 3, .retAddr 0, .int v2, .int v3, .ref 65, .retAddr 0]) (S' := []) (σ' := (97, I, J, R)) rfl (fun _ => ?_) (fun hn => absurd (by decide) hn)
      refine az_E.sn 2 (pc' := 40) (L' := [.ref 3, .retAddr 0, .int v2, .int v3, .ref 65, .retAddr 0]) (S' := [.int (0 : Int32), .ref 65]) (σ' := (97, I, J, R)) rfl ?_
      refine az_E.call (d := 3) (k' := 56) (vs := [.ref 65, .int (0 : Int32)]) (pc' := 43) (S' := []) rfl ?_ (fun _ _ hq => hq)
      show az_E az_F ex 3 56 0 [.ref 65, .int (0 : Int32)] [] (97, I, J, R) _
      refine az_E.sn 1 (pc' := 1) (L' := [.ref 65, .int (0 : Int32)]) (S' := [.ref 65]) (σ' := (97, I, J, R)) rfl ?_
      refine az_E.call (d := 2) (k' := 55) (vs := [.ref 65]) (pc' := 4) (S' := []) rfl ?_ (fun _ _ hq => hq)
      show az_E az_F ex 2 55 0 [.ref 65] [] (97, I, J, R) _
      refine az_E.sn 3 (pc' := 5) (L' := [.ref 65]) (S' := [.int (-1 : Int32), .int (I 65 1)]) (σ' := (97, I, J, R)) rfl ?_
      refine az_E.br (c := (I 65 1) = (-1 : Int32)) (tt := 12) (ff := 8) (L' := [.ref 65]) (S' := []) (σ' := (97, I, J, R)) rfl (fun hc_34 => ?_) (fun hc_34 => ?_)
      · rw [if_pos hc_34] at h
        refine az_E.sn 1 (pc' := 13) (L' := [.ref 65]) (S' := [.int (0 : Int32)]) (σ' := (97, I, J, R)) rfl ?_
        refine az_E.ret (v := some (.int (0 : Int32))) (σ' := (97, I, J, R)) rfl ?_
        show az_E az_F ex 3 56 4 [.ref 65, .int (0 : Int32)] [.int (0 : Int32)] (97, I, J, R) _
        refine az_E.br (c := (0 : Int32) = 0) (tt := 19) (ff := 7) (L' := [.ref 65, .int (0 : Int32)]) (S' := []) (σ' := (97, I, J, R)) rfl (fun _ => ?_) (fun hn => absurd (by decide) hn)
        refine az_E.sn 1 (pc' := 20) (L' := [.ref 65, .int (0 : Int32)]) (S' := [.int (0 : Int32)]) (σ' := (97, I, J, R)) rfl ?_
        refine az_E.ret (v := some (.int (0 : Int32))) (σ' := (97, I, J, R)) rfl ?_
        show az_E az_F ex 4 86 43 [.ref 3, .retAddr 0, .int v2, .int v3, .ref 65, .retAddr 0] [.int (0 : Int32)] (97, I, J, R) _
        refine az_E.br (c := (0 : Int32) = 0) (tt := 46) (ff := 49) (L' := [.ref 3, .retAddr 0, .int v2, .int v3, .ref 65, .retAddr 0]) (S' := []) (σ' := (97, I, J, R)) rfl (fun _ => ?_) (fun hn => absurd (by decide) hn)
        refine az_E.sn 1 (pc' := 48) (L' := [.ref 3, .retAddr 0, .int v2, .int v3, .ref 65, .retAddr 0]) (S' := [.int (-12 : Int32)]) (σ' := (97, I, J, R)) rfl ?_
        have h := Option.some.inj h
        subst h
        exact az_E.ret (v := some (.int (-12 : Int32))) (σ' := (97, I, J, R)) rfl hQ
      · rw [if_neg hc_34] at h
        refine az_E.sn 2 (pc' := 13) (L' := [.ref 65]) (S' := [.int (1 : Int32)]) (σ' := (97, I, J, R)) rfl ?_
        refine az_E.ret (v := some (.int (1 : Int32))) (σ' := (97, I, J, R)) rfl ?_
        show az_E az_F ex 3 56 4 [.ref 65, .int (0 : Int32)] [.int (1 : Int32)] (97, I, J, R) _
        refine az_E.br (c := (1 : Int32) = 0) (tt := 19) (ff := 7) (L' := [.ref 65, .int (0 : Int32)]) (S' := []) (σ' := (97, I, J, R)) rfl (fun hn => absurd hn (by decide)) (fun _ => ?_)
        refine az_E.sn 3 (pc' := 12) (L' := [.ref 65, .int (0 : Int32)]) (S' := [.int (0 : Int32), .int (I 65 1)]) (σ' := (97, I, J, R)) rfl ?_
        refine az_E.br (c := (I 65 1) = (0 : Int32)) (tt := 15) (ff := 19) (L' := [.ref 65, .int (0 : Int32)]) (S' := []) (σ' := (97, I, J, R)) rfl (fun hc_35 => ?_) (fun hc_35 => ?_)
        · rw [if_pos hc_35] at h
          refine az_E.sn 2 (pc' := 20) (L' := [.ref 65, .int (0 : Int32)]) (S' := [.int (1 : Int32)]) (σ' := (97, I, J, R)) rfl ?_
          refine az_E.ret (v := some (.int (1 : Int32))) (σ' := (97, I, J, R)) rfl ?_
          show az_E az_F ex 4 86 43 [.ref 3, .retAddr 0, .int v2, .int v3, .ref 65, .retAddr 0] [.int (1 : Int32)] (97, I, J, R) _
          refine az_E.br (c := (1 : Int32) = 0) (tt := 46) (ff := 49) (L' := [.ref 3, .retAddr 0, .int v2, .int v3, .ref 65, .retAddr 0]) (S' := []) (σ' := (97, I, J, R)) rfl (fun hn => absurd hn (by decide)) (fun _ => ?_)
          refine az_E.sn 2 (pc' := 52) (L' := [.ref 3, .retAddr 0, .int v2, .int v3, .ref 65, .int (0 : Int32)]) (S' := []) (σ' := (97, I, J, R)) rfl ?_
          exact az_E.forget (L := [.ref 3, .retAddr 0, .int v2, .int v3, .ref 65, .int (0 : Int32)]) ⟨rfl, trivial, rfl, rfl, rfl, rfl, trivial⟩ (re_X_walkers_52_65 (I := I) (J := J) (R := R)  h hQ)
        · rw [if_neg hc_35] at h
          refine az_E.sn 1 (pc' := 20) (L' := [.ref 65, .int (0 : Int32)]) (S' := [.int (0 : Int32)]) (σ' := (97, I, J, R)) rfl ?_
          refine az_E.ret (v := some (.int (0 : Int32))) (σ' := (97, I, J, R)) rfl ?_
          show az_E az_F ex 4 86 43 [.ref 3, .retAddr 0, .int v2, .int v3, .ref 65, .retAddr 0] [.int (0 : Int32)] (97, I, J, R) _
          refine az_E.br (c := (0 : Int32) = 0) (tt := 46) (ff := 49) (L' := [.ref 3, .retAddr 0, .int v2, .int v3, .ref 65, .retAddr 0]) (S' := []) (σ' := (97, I, J, R)) rfl (fun _ => ?_) (fun hn => absurd (by decide) hn)
          refine az_E.sn 1 (pc' := 48) (L' := [.ref 3, .retAddr 0, .int v2, .int v3, .ref 65, .retAddr 0]) (S' := [.int (-12 : Int32)]) (σ' := (97, I, J, R)) rfl ?_
          have h := Option.some.inj h
          subst h
          exact az_E.ret (v := some (.int (-12 : Int32))) (σ' := (97, I, J, R)) rfl hQ
  · rw [if_neg hc_32] at h
    refine az_E.sn 1 (pc' := 21) (L' := [.ref 65]) (S' := [.int (0 : Int32)]) (σ' := (97, I, J, R)) rfl ?_
    refine az_E.ret (v := some (.int (0 : Int32))) (σ' := (97, I, J, R)) rfl ?_
    show az_E az_F ex 4 86 32 [.ref 3, .retAddr 0, .int v2, .int v3, .ref 65, .retAddr 0] [.int (0 : Int32)] (97, I, J, R) _
    refine az_E.br (c := (0 : Int32) = 0) (tt := 37) (ff := 35) (L' := [.ref 3, .retAddr 0, .int v2, .int v3, .ref 65, .retAddr 0]) (S' := []) (σ' := (97, I, J, R)) rfl (fun _ => ?_) (fun hn => absurd (by decide) hn)
    refine az_E.sn 2 (pc' := 40) (L' := [.ref 3, .retAddr 0, .int v2, .int v3, .ref 65, .retAddr 0]) (S' := [.int (0 : Int32), .ref 65]) (σ' := (97, I, J, R)) rfl ?_
    refine az_E.call (d := 3) (k' := 56) (vs := [.ref 65, .int (0 : Int32)]) (pc' := 43) (S' := []) rfl ?_ (fun _ _ hq => hq)
    show az_E az_F ex 3 56 0 [.ref 65, .int (0 : Int32)] [] (97, I, J, R) _
    refine az_E.sn 1 (pc' := 1) (L' := [.ref 65, .int (0 : Int32)]) (S' := [.ref 65]) (σ' := (97, I, J, R)) rfl ?_
    refine az_E.call (d := 2) (k' := 55) (vs := [.ref 65]) (pc' := 4) (S' := []) rfl ?_ (fun _ _ hq => hq)
    show az_E az_F ex 2 55 0 [.ref 65] [] (97, I, J, R) _
    refine az_E.sn 3 (pc' := 5) (L' := [.ref 65]) (S' := [.int (-1 : Int32), .int (I 65 1)]) (σ' := (97, I, J, R)) rfl ?_
    refine az_E.br (c := (I 65 1) = (-1 : Int32)) (tt := 12) (ff := 8) (L' := [.ref 65]) (S' := []) (σ' := (97, I, J, R)) rfl (fun hc_43 => ?_) (fun hc_43 => ?_)
    · rw [if_pos hc_43] at h
      refine az_E.sn 1 (pc' := 13) (L' := [.ref 65]) (S' := [.int (0 : Int32)]) (σ' := (97, I, J, R)) rfl ?_
      refine az_E.ret (v := some (.int (0 : Int32))) (σ' := (97, I, J, R)) rfl ?_
      show az_E az_F ex 3 56 4 [.ref 65, .int (0 : Int32)] [.int (0 : Int32)] (97, I, J, R) _
      refine az_E.br (c := (0 : Int32) = 0) (tt := 19) (ff := 7) (L' := [.ref 65, .int (0 : Int32)]) (S' := []) (σ' := (97, I, J, R)) rfl (fun _ => ?_) (fun hn => absurd (by decide) hn)
      refine az_E.sn 1 (pc' := 20) (L' := [.ref 65, .int (0 : Int32)]) (S' := [.int (0 : Int32)]) (σ' := (97, I, J, R)) rfl ?_
      refine az_E.ret (v := some (.int (0 : Int32))) (σ' := (97, I, J, R)) rfl ?_
      show az_E az_F ex 4 86 43 [.ref 3, .retAddr 0, .int v2, .int v3, .ref 65, .retAddr 0] [.int (0 : Int32)] (97, I, J, R) _
      refine az_E.br (c := (0 : Int32) = 0) (tt := 46) (ff := 49) (L' := [.ref 3, .retAddr 0, .int v2, .int v3, .ref 65, .retAddr 0]) (S' := []) (σ' := (97, I, J, R)) rfl (fun _ => ?_) (fun hn => absurd (by decide) hn)
      refine az_E.sn 1 (pc' := 48) (L' := [.ref 3, .retAddr 0, .int v2, .int v3, .ref 65, .retAddr 0]) (S' := [.int (-12 : Int32)]) (σ' := (97, I, J, R)) rfl ?_
      have h := Option.some.inj h
      subst h
      exact az_E.ret (v := some (.int (-12 : Int32))) (σ' := (97, I, J, R)) rfl hQ
    · rw [if_neg hc_43] at h
      refine az_E.sn 2 (pc' := 13) (L' := [.ref 65]) (S' := [.int (1 : Int32)]) (σ' := (97, I, J, R)) rfl ?_
      refine az_E.ret (v := some (.int (1 : Int32))) (σ' := (97, I, J, R)) rfl ?_
      show az_E az_F ex 3 56 4 [.ref 65, .int (0 : Int32)] [.int (1 : Int32)] (97, I, J, R) _
      refine az_E.br (c := (1 : Int32) = 0) (tt := 19) (ff := 7) (L' := [.ref 65, .int (0 : Int32)]) (S' := []) (σ' := (97, I, J, R)) rfl (fun hn => absurd hn (by decide)) (fun _ => ?_)
      refine az_E.sn 3 (pc' := 12) (L' := [.ref 65, .int (0 : Int32)]) (S' := [.int (0 : Int32), .int (I 65 1)]) (σ' := (97, I, J, R)) rfl ?_
      refine az_E.br (c := (I 65 1) = (0 : Int32)) (tt := 15) (ff := 19) (L' := [.ref 65, .int (0 : Int32)]) (S' := []) (σ' := (97, I, J, R)) rfl (fun hc_44 => ?_) (fun hc_44 => ?_)
      · rw [if_pos hc_44] at h
        refine az_E.sn 2 (pc' := 20) (L' := [.ref 65, .int (0 : Int32)]) (S' := [.int (1 : Int32)]) (σ' := (97, I, J, R)) rfl ?_
        refine az_E.ret (v := some (.int (1 : Int32))) (σ' := (97, I, J, R)) rfl ?_
        show az_E az_F ex 4 86 43 [.ref 3, .retAddr 0, .int v2, .int v3, .ref 65, .retAddr 0] [.int (1 : Int32)] (97, I, J, R) _
        refine az_E.br (c := (1 : Int32) = 0) (tt := 46) (ff := 49) (L' := [.ref 3, .retAddr 0, .int v2, .int v3, .ref 65, .retAddr 0]) (S' := []) (σ' := (97, I, J, R)) rfl (fun hn => absurd hn (by decide)) (fun _ => ?_)
        refine az_E.sn 2 (pc' := 52) (L' := [.ref 3, .retAddr 0, .int v2, .int v3, .ref 65, .int (0 : Int32)]) (S' := []) (σ' := (97, I, J, R)) rfl ?_
        exact az_E.forget (L := [.ref 3, .retAddr 0, .int v2, .int v3, .ref 65, .int (0 : Int32)]) ⟨rfl, trivial, rfl, rfl, rfl, rfl, trivial⟩ (re_X_walkers_52_65 (I := I) (J := J) (R := R)  h hQ)
      · rw [if_neg hc_44] at h
        refine az_E.sn 1 (pc' := 20) (L' := [.ref 65, .int (0 : Int32)]) (S' := [.int (0 : Int32)]) (σ' := (97, I, J, R)) rfl ?_
        refine az_E.ret (v := some (.int (0 : Int32))) (σ' := (97, I, J, R)) rfl ?_
        show az_E az_F ex 4 86 43 [.ref 3, .retAddr 0, .int v2, .int v3, .ref 65, .retAddr 0] [.int (0 : Int32)] (97, I, J, R) _
        refine az_E.br (c := (0 : Int32) = 0) (tt := 46) (ff := 49) (L' := [.ref 3, .retAddr 0, .int v2, .int v3, .ref 65, .retAddr 0]) (S' := []) (σ' := (97, I, J, R)) rfl (fun _ => ?_) (fun hn => absurd (by decide) hn)
        refine az_E.sn 1 (pc' := 48) (L' := [.ref 3, .retAddr 0, .int v2, .int v3, .ref 65, .retAddr 0]) (S' := [.int (-12 : Int32)]) (σ' := (97, I, J, R)) rfl ?_
        have h := Option.some.inj h
        subst h
        exact az_E.ret (v := some (.int (-12 : Int32))) (σ' := (97, I, J, R)) rfl hQ
set_option maxRecDepth 100000 in
set_option maxHeartbeats 4000000 in
theorem re_X_walkers_52_b_67 {ex : az_X} {I : Nat → Nat → Int32} {J : Nat → Nat → Int64} {R : Nat → Nat → Option Nat} {v2 : Int32} {v3 : Int32} {v5 : Int32} {x : ((Int32 × (Nat → Nat → Int32)) ⊕ (Int32 × (Nat → Nat → Int32)))} (h : rs_X_walkers_52_b 67 J v2 v3 v5 I = some x) {Q : Option Value → az_S → Prop} (hQ : Sum.elim (fun s => az_E az_F ex 4 86 52 [.ref 3, .retAddr 0, .int v2, .int v3, .ref 67, .int s.1] [] (97, s.2, J, R) Q) (fun x => Q (some (.int x.1)) (97, x.2, J, R)) x) : az_E az_F ex 4 86 52 [.ref 3, .retAddr 0, .int v2, .int v3, .ref 67, .int v5] [] (97, I, J, R) Q := by
  unfold rs_X_walkers_52_b at h
  refine az_E.sn 2 (pc' := 55) (L' := [.ref 3, .retAddr 0, .int v2, .int v3, .ref 67, .int v5]) (S' := [.int v3, .int v5]) (σ' := (97, I, J, R)) rfl ?_
  refine az_E.br (c := v3 ≤ v5) (tt := 89) (ff := 58) (L' := [.ref 3, .retAddr 0, .int v2, .int v3, .ref 67, .int v5]) (S' := []) (σ' := (97, I, J, R)) rfl (fun hc_49 => ?_) (fun hc_49 => ?_)
  · rw [if_pos hc_49] at h
    refine az_E.sn 1 (pc' := 91) (L' := [.ref 3, .retAddr 0, .int v2, .int v3, .ref 67, .int v5]) (S' := [.int v5]) (σ' := (97, I, J, R)) rfl ?_
    have h := Option.some.inj h
    subst h
    exact az_E.ret (v := some (.int v5)) (σ' := (97, I, J, R)) rfl hQ
  · rw [if_neg hc_49] at h
    refine az_E.sn 1 (pc' := 59) (L' := [.ref 3, .retAddr 0, .int v2, .int v3, .ref 67, .int v5]) (S' := [.int v2]) (σ' := (97, I, J, R)) rfl ?_
    refine az_E.br (c := v2 < 0) (tt := 89) (ff := 62) (L' := [.ref 3, .retAddr 0, .int v2, .int v3, .ref 67, .int v5]) (S' := []) (σ' := (97, I, J, R)) rfl (fun hc_50 => ?_) (fun hc_50 => ?_)
    · rw [if_pos hc_50] at h
      refine az_E.sn 1 (pc' := 91) (L' := [.ref 3, .retAddr 0, .int v2, .int v3, .ref 67, .int v5]) (S' := [.int v5]) (σ' := (97, I, J, R)) rfl ?_
      have h := Option.some.inj h
      subst h
      exact az_E.ret (v := some (.int v5)) (σ' := (97, I, J, R)) rfl hQ
    · rw [if_neg hc_50] at h
      refine az_E.sn 2 (pc' := 65) (L' := [.ref 3, .retAddr 0, .int v2, .int v3, .ref 67, .int v5]) (S' := [.int (60 : Int32), .int v2]) (σ' := (97, I, J, R)) rfl ?_
      refine az_E.br (c := (60 : Int32) ≤ v2) (tt := 89) (ff := 68) (L' := [.ref 3, .retAddr 0, .int v2, .int v3, .ref 67, .int v5]) (S' := []) (σ' := (97, I, J, R)) rfl (fun hc_51 => ?_) (fun hc_51 => ?_)
      · rw [if_pos hc_51] at h
        refine az_E.sn 1 (pc' := 91) (L' := [.ref 3, .retAddr 0, .int v2, .int v3, .ref 67, .int v5]) (S' := [.int v5]) (σ' := (97, I, J, R)) rfl ?_
        have h := Option.some.inj h
        subst h
        exact az_E.ret (v := some (.int v5)) (σ' := (97, I, J, R)) rfl hQ
      · rw [if_neg hc_51] at h
        refine az_E.sn 7 (pc' := 77) (L' := [.ref 3, .retAddr 0, .int v2, .int v3, .ref 67, .int v5]) (S' := [.int (v2 + ((3 : Int32) * v5)), .ref 67, .ref 3]) (σ' := (97, I, J, R)) rfl ?_
        cases hx_54 : rs_X_addFromRow 67 I J (v2 + ((3 : Int32) * v5)) with
        | none => rw [hx_54] at h; cases h
        | some o =>
          rw [hx_54] at h
          obtain ⟨x_52, I_53⟩ := o
          dsimp only at h
          refine az_E.call (d := 3) (k' := 143) (vs := [.ref 3, .ref 67, .int (v2 + ((3 : Int32) * v5))]) (pc' := 80) (S' := []) (Q1 := fun v s => v = some (.int x_52) ∧ s = (97, I_53, J, R)) rfl (az_E.deep (by omega) (re_X_addFromRow_67 (J := J) (R := R)  hx_54 ⟨rfl, rfl⟩)) (fun v s hq => ?_)
          obtain ⟨rfl, rfl⟩ := hq
          show az_E az_F ex 4 86 80 [.ref 3, .retAddr 0, .int v2, .int v3, .ref 67, .int v5] [.int x_52] (97, I_53, J, R) _
          refine az_E.br (c := x_52 = 0) (tt := 89) (ff := 83) (L' := [.ref 3, .retAddr 0, .int v2, .int v3, .ref 67, .int v5]) (S' := []) (σ' := (97, I_53, J, R)) rfl (fun hc_55 => ?_) (fun hc_55 => ?_)
          · rw [if_pos hc_55] at h
            refine az_E.sn 1 (pc' := 91) (L' := [.ref 3, .retAddr 0, .int v2, .int v3, .ref 67, .int v5]) (S' := [.int v5]) (σ' := (97, I_53, J, R)) rfl ?_
            have h := Option.some.inj h
            subst h
            exact az_E.ret (v := some (.int v5)) (σ' := (97, I_53, J, R)) rfl hQ
          · rw [if_neg hc_55] at h
            refine az_E.sn 2 (pc' := 52) (L' := [.ref 3, .retAddr 0, .int v2, .int v3, .ref 67, .int (v5 + (1 : Int32))]) (S' := []) (σ' := (97, I_53, J, R)) rfl ?_
            have h := Option.some.inj h
            subst h
            exact az_E.forget (L := [.ref 3, .retAddr 0, .int v2, .int v3, .ref 67, .int (v5 + (1 : Int32))]) ⟨rfl, trivial, rfl, rfl, rfl, rfl, trivial⟩ hQ
set_option maxRecDepth 100000 in
set_option maxHeartbeats 4000000 in
theorem re_X_walkers_52_67 {ex : az_X} {I : Nat → Nat → Int32} {J : Nat → Nat → Int64} {R : Nat → Nat → Option Nat} {v2 : Int32} {v3 : Int32} {v5 : Int32} {x : Int32 × (Nat → Nat → Int32)} (h : rs_X_walkers_52 67 I J v2 v3 v5 = some x) {Q : Option Value → az_S → Prop} (hQ : Q (some (.int x.1)) (97, x.2, J, R)) : az_E az_F ex 4 86 52 [.ref 3, .retAddr 0, .int v2, .int v3, .ref 67, .int v5] [] (97, I, J, R) Q := by
  unfold rs_X_walkers_52 at h
  refine az_lp_E (G := fun s => az_E az_F ex 4 86 52 [.ref 3, .retAddr 0, .int v2, .int v3, .ref 67, .int s.1] [] (97, s.2, J, R) Q) (H := fun x => Q (some (.int x.1)) (97, x.2, J, R)) (fun s o hb ho => ?_) _ _ _ h hQ
  exact re_X_walkers_52_b_67  hb ho
set_option maxRecDepth 100000 in
set_option maxHeartbeats 4000000 in
theorem re_X_walkers_25_67 {ex : az_X} {I : Nat → Nat → Int32} {J : Nat → Nat → Int64} {R : Nat → Nat → Option Nat} {v2 : Int32} {v3 : Int32} {x : Int32 × (Nat → Nat → Int32)} (h : rs_X_walkers_25 67 I J v2 v3 = some x) {Q : Option Value → az_S → Prop} (hQ : Q (some (.int x.1)) (97, x.2, J, R)) : az_E az_F ex 4 86 25 [.ref 3, .retAddr 0, .int v2, .int v3, .retAddr 0, .retAddr 0] [.ref 67] (97, I, J, R) Q := by
  unfold rs_X_walkers_25 at h
  refine az_E.sn 2 (pc' := 29) (L' := [.ref 3, .retAddr 0, .int v2, .int v3, .ref 67, .retAddr 0]) (S' := [.ref 67]) (σ' := (97, I, J, R)) rfl ?_
  refine az_E.call (d := 3) (k' := 54) (vs := [.ref 67]) (pc' := 32) (S' := []) rfl ?_ (fun _ _ hq => hq)
  show az_E az_F ex 3 54 0 [.ref 67] [] (97, I, J, R) _
  refine az_E.sn 3 (pc' := 5) (L' := [.ref 67]) (S' := [.int (-1 : Int32), .int (I 67 0)]) (σ' := (97, I, J, R)) rfl ?_
  refine az_E.br (c := (I 67 0) = (-1 : Int32)) (tt := 8) (ff := 20) (L' := [.ref 67]) (S' := []) (σ' := (97, I, J, R)) rfl (fun hc_45 => ?_) (fun hc_45 => ?_)
  · rw [if_pos hc_45] at h
    refine az_E.sn 3 (pc' := 13) (L' := [.ref 67]) (S' := [.int (-1 : Int32), .int (I 67 1)]) (σ' := (97, I, J, R)) rfl ?_
    refine az_E.br (c := (I 67 1) = (-1 : Int32)) (tt := 16) (ff := 20) (L' := [.ref 67]) (S' := []) (σ' := (97, I, J, R)) rfl (fun hc_46 => ?_) (fun hc_46 => ?_)
    · rw [if_pos hc_46] at h
      refine az_E.sn 2 (pc' := 21) (L' := [.ref 67]) (S' := [.int (1 : Int32)]) (σ' := (97, I, J, R)) rfl ?_
      refine az_E.ret (v := some (.int (1 : Int32))) (σ' := (97, I, J, R)) rfl ?_
      show az_E az_F ex 4 86 32 [.ref 3, .retAddr 0, .int v2, .int v3, .ref 67, .retAddr 0] [.int (1 : Int32)] (97, I, J, R) _
      refine az_E.br (c := (1 : Int32) = 0) (tt := 37) (ff := 35) (L' := [.ref 3, .retAddr 0, .int v2, .int v3, .ref 67, .retAddr 0]) (S' := []) (σ' := (97, I, J, R)) rfl (fun hn => absurd hn (by decide)) (fun _ => ?_)
      refine az_E.sn 1 (pc' := 36) (L' := [.ref 3, .retAddr 0, .int v2, .int v3, .ref 67, .retAddr 0]) (S' := [.int (0 : Int32)]) (σ' := (97, I, J, R)) rfl ?_
      have h := Option.some.inj h
      subst h
      exact az_E.ret (v := some (.int (0 : Int32))) (σ' := (97, I, J, R)) rfl hQ
    · rw [if_neg hc_46] at h
      refine az_E.sn 1 (pc' := 21) (L' := [.ref 67]) (S' := [.int (0 : Int32)]) (σ' := (97, I, J, R)) rfl ?_
      refine az_E.ret (v := some (.int (0 : Int32))) (σ' := (97, I, J, R)) rfl ?_
      show az_E az_F ex 4 86 32 [.ref 3, .retAddr 0, .int v2, .int v3, .ref 67, .retAddr 0] [.int (0 : Int32)] (97, I, J, R) _
      refine az_E.br (c := (0 : Int32) = 0) (tt := 37) (ff := 35) (L' := [.ref 3, .retAddr 0, .int v2, .int v3, .ref 67, .retAddr 0]) (S' := []) (σ' := (97, I, J, R)) rfl (fun _ => ?_) (fun hn => absurd (by decide) hn)
      refine az_E.sn 2 (pc' := 40) (L' := [.ref 3, .retAddr 0, .int v2, .int v3, .ref 67, .retAddr 0]) (S' := [.int (0 : Int32), .ref 67]) (σ' := (97, I, J, R)) rfl ?_
      refine az_E.call (d := 3) (k' := 56) (vs := [.ref 67, .int (0 : Int32)]) (pc' := 43) (S' := []) rfl ?_ (fun _ _ hq => hq)
      show az_E az_F ex 3 56 0 [.ref 67, .int (0 : Int32)] [] (97, I, J, R) _
      refine az_E.sn 1 (pc' := 1) (L' := [.ref 67, .int (0 : Int32)]) (S' := [.ref 67]) (σ' := (97, I, J, R)) rfl ?_
      refine az_E.call (d := 2) (k' := 55) (vs := [.ref 67]) (pc' := 4) (S' := []) rfl ?_ (fun _ _ hq => hq)
      show az_E az_F ex 2 55 0 [.ref 67] [] (97, I, J, R) _
      refine az_E.sn 3 (pc' := 5) (L' := [.ref 67]) (S' := [.int (-1 : Int32), .int (I 67 1)]) (σ' := (97, I, J, R)) rfl ?_
      refine az_E.br (c := (I 67 1) = (-1 : Int32)) (tt := 12) (ff := 8) (L' := [.ref 67]) (S' := []) (σ' := (97, I, J, R)) rfl (fun hc_47 => ?_) (fun hc_47 => ?_)
      · rw [if_pos hc_47] at h
        refine az_E.sn 1 (pc' := 13) (L' := [.ref 67]) (S' := [.int (0 : Int32)]) (σ' := (97, I, J, R)) rfl ?_
        refine az_E.ret (v := some (.int (0 : Int32))) (σ' := (97, I, J, R)) rfl ?_
        show az_E az_F ex 3 56 4 [.ref 67, .int (0 : Int32)] [.int (0 : Int32)] (97, I, J, R) _
        refine az_E.br (c := (0 : Int32) = 0) (tt := 19) (ff := 7) (L' := [.ref 67, .int (0 : Int32)]) (S' := []) (σ' := (97, I, J, R)) rfl (fun _ => ?_) (fun hn => absurd (by decide) hn)
        refine az_E.sn 1 (pc' := 20) (L' := [.ref 67, .int (0 : Int32)]) (S' := [.int (0 : Int32)]) (σ' := (97, I, J, R)) rfl ?_
        refine az_E.ret (v := some (.int (0 : Int32))) (σ' := (97, I, J, R)) rfl ?_
        show az_E az_F ex 4 86 43 [.ref 3, .retAddr 0, .int v2, .int v3, .ref 67, .retAddr 0] [.int (0 : Int32)] (97, I, J, R) _
        refine az_E.br (c := (0 : Int32) = 0) (tt := 46) (ff := 49) (L' := [.ref 3, .retAddr 0, .int v2, .int v3, .ref 67, .retAddr 0]) (S' := []) (σ' := (97, I, J, R)) rfl (fun _ => ?_) (fun hn => absurd (by decide) hn)
        refine az_E.sn 1 (pc' := 48) (L' := [.ref 3, .retAddr 0, .int v2, .int v3, .ref 67, .retAddr 0]) (S' := [.int (-12 : Int32)]) (σ' := (97, I, J, R)) rfl ?_
        have h := Option.some.inj h
        subst h
        exact az_E.ret (v := some (.int (-12 : Int32))) (σ' := (97, I, J, R)) rfl hQ
      · rw [if_neg hc_47] at h
        refine az_E.sn 2 (pc' := 13) (L' := [.ref 67]) (S' := [.int (1 : Int32)]) (σ' := (97, I, J, R)) rfl ?_
        refine az_E.ret (v := some (.int (1 : Int32))) (σ' := (97, I, J, R)) rfl ?_
        show az_E az_F ex 3 56 4 [.ref 67, .int (0 : Int32)] [.int (1 : Int32)] (97, I, J, R) _
        refine az_E.br (c := (1 : Int32) = 0) (tt := 19) (ff := 7) (L' := [.ref 67, .int (0 : Int32)]) (S' := []) (σ' := (97, I, J, R)) rfl (fun hn => absurd hn (by decide)) (fun _ => ?_)
        refine az_E.sn 3 (pc' := 12) (L' := [.ref 67, .int (0 : Int32)]) (S' := [.int (0 : Int32), .int (I 67 1)]) (σ' := (97, I, J, R)) rfl ?_
        refine az_E.br (c := (I 67 1) = (0 : Int32)) (tt := 15) (ff := 19) (L' := [.ref 67, .int (0 : Int32)]) (S' := []) (σ' := (97, I, J, R)) rfl (fun hc_48 => ?_) (fun hc_48 => ?_)
        · rw [if_pos hc_48] at h
          refine az_E.sn 2 (pc' := 20) (L' := [.ref 67, .int (0 : Int32)]) (S' := [.int (1 : Int32)]) (σ' := (97, I, J, R)) rfl ?_
          refine az_E.ret (v := some (.int (1 : Int32))) (σ' := (97, I, J, R)) rfl ?_
          show az_E az_F ex 4 86 43 [.ref 3, .retAddr 0, .int v2, .int v3, .ref 67, .retAddr 0] [.int (1 : Int32)] (97, I, J, R) _
          refine az_E.br (c := (1 : Int32) = 0) (tt := 46) (ff := 49) (L' := [.ref 3, .retAddr 0, .int v2, .int v3, .ref 67, .retAddr 0]) (S' := []) (σ' := (97, I, J, R)) rfl (fun hn => absurd hn (by decide)) (fun _ => ?_)
          refine az_E.sn 2 (pc' := 52) (L' := [.ref 3, .retAddr 0, .int v2, .int v3, .ref 67, .int (0 : Int32)]) (S' := []) (σ' := (97, I, J, R)) rfl ?_
          exact az_E.forget (L := [.ref 3, .retAddr 0, .int v2, .int v3, .ref 67, .int (0 : Int32)]) ⟨rfl, trivial, rfl, rfl, rfl, rfl, trivial⟩ (re_X_walkers_52_67 (I := I) (J := J) (R := R)  h hQ)
        · rw [if_neg hc_48] at h
          refine az_E.sn 1 (pc' := 20) (L' := [.ref 67, .int (0 : Int32)]) (S' := [.int (0 : Int32)]) (σ' := (97, I, J, R)) rfl ?_
          refine az_E.ret (v := some (.int (0 : Int32))) (σ' := (97, I, J, R)) rfl ?_
          show az_E az_F ex 4 86 43 [.ref 3, .retAddr 0, .int v2, .int v3, .ref 67, .retAddr 0] [.int (0 : Int32)] (97, I, J, R) _
          refine az_E.br (c := (0 : Int32) = 0) (tt := 46) (ff := 49) (L' := [.ref 3, .retAddr 0, .int v2, .int v3, .ref 67, .retAddr 0]) (S' := []) (σ' := (97, I, J, R)) rfl (fun _ => ?_) (fun hn => absurd (by decide) hn)
          refine az_E.sn 1 (pc' := 48) (L' := [.ref 3, .retAddr 0, .int v2, .int v3, .ref 67, .retAddr 0]) (S' := [.int (-12 : Int32)]) (σ' := (97, I, J, R)) rfl ?_
          have h := Option.some.inj h
          subst h
          exact az_E.ret (v := some (.int (-12 : Int32))) (σ' := (97, I, J, R)) rfl hQ
  · rw [if_neg hc_45] at h
    refine az_E.sn 1 (pc' := 21) (L' := [.ref 67]) (S' := [.int (0 : Int32)]) (σ' := (97, I, J, R)) rfl ?_
    refine az_E.ret (v := some (.int (0 : Int32))) (σ' := (97, I, J, R)) rfl ?_
    show az_E az_F ex 4 86 32 [.ref 3, .retAddr 0, .int v2, .int v3, .ref 67, .retAddr 0] [.int (0 : Int32)] (97, I, J, R) _
    refine az_E.br (c := (0 : Int32) = 0) (tt := 37) (ff := 35) (L' := [.ref 3, .retAddr 0, .int v2, .int v3, .ref 67, .retAddr 0]) (S' := []) (σ' := (97, I, J, R)) rfl (fun _ => ?_) (fun hn => absurd (by decide) hn)
    refine az_E.sn 2 (pc' := 40) (L' := [.ref 3, .retAddr 0, .int v2, .int v3, .ref 67, .retAddr 0]) (S' := [.int (0 : Int32), .ref 67]) (σ' := (97, I, J, R)) rfl ?_
    refine az_E.call (d := 3) (k' := 56) (vs := [.ref 67, .int (0 : Int32)]) (pc' := 43) (S' := []) rfl ?_ (fun _ _ hq => hq)
    show az_E az_F ex 3 56 0 [.ref 67, .int (0 : Int32)] [] (97, I, J, R) _
    refine az_E.sn 1 (pc' := 1) (L' := [.ref 67, .int (0 : Int32)]) (S' := [.ref 67]) (σ' := (97, I, J, R)) rfl ?_
    refine az_E.call (d := 2) (k' := 55) (vs := [.ref 67]) (pc' := 4) (S' := []) rfl ?_ (fun _ _ hq => hq)
    show az_E az_F ex 2 55 0 [.ref 67] [] (97, I, J, R) _
    refine az_E.sn 3 (pc' := 5) (L' := [.ref 67]) (S' := [.int (-1 : Int32), .int (I 67 1)]) (σ' := (97, I, J, R)) rfl ?_
    refine az_E.br (c := (I 67 1) = (-1 : Int32)) (tt := 12) (ff := 8) (L' := [.ref 67]) (S' := []) (σ' := (97, I, J, R)) rfl (fun hc_56 => ?_) (fun hc_56 => ?_)
    · rw [if_pos hc_56] at h
      refine az_E.sn 1 (pc' := 13) (L' := [.ref 67]) (S' := [.int (0 : Int32)]) (σ' := (97, I, J, R)) rfl ?_
      refine az_E.ret (v := some (.int (0 : Int32))) (σ' := (97, I, J, R)) rfl ?_
      show az_E az_F ex 3 56 4 [.ref 67, .int (0 : Int32)] [.int (0 : Int32)] (97, I, J, R) _
      refine az_E.br (c := (0 : Int32) = 0) (tt := 19) (ff := 7) (L' := [.ref 67, .int (0 : Int32)]) (S' := []) (σ' := (97, I, J, R)) rfl (fun _ => ?_) (fun hn => absurd (by decide) hn)
      refine az_E.sn 1 (pc' := 20) (L' := [.ref 67, .int (0 : Int32)]) (S' := [.int (0 : Int32)]) (σ' := (97, I, J, R)) rfl ?_
      refine az_E.ret (v := some (.int (0 : Int32))) (σ' := (97, I, J, R)) rfl ?_
      show az_E az_F ex 4 86 43 [.ref 3, .retAddr 0, .int v2, .int v3, .ref 67, .retAddr 0] [.int (0 : Int32)] (97, I, J, R) _
      refine az_E.br (c := (0 : Int32) = 0) (tt := 46) (ff := 49) (L' := [.ref 3, .retAddr 0, .int v2, .int v3, .ref 67, .retAddr 0]) (S' := []) (σ' := (97, I, J, R)) rfl (fun _ => ?_) (fun hn => absurd (by decide) hn)
      refine az_E.sn 1 (pc' := 48) (L' := [.ref 3, .retAddr 0, .int v2, .int v3, .ref 67, .retAddr 0]) (S' := [.int (-12 : Int32)]) (σ' := (97, I, J, R)) rfl ?_
      have h := Option.some.inj h
      subst h
      exact az_E.ret (v := some (.int (-12 : Int32))) (σ' := (97, I, J, R)) rfl hQ
    · rw [if_neg hc_56] at h
      refine az_E.sn 2 (pc' := 13) (L' := [.ref 67]) (S' := [.int (1 : Int32)]) (σ' := (97, I, J, R)) rfl ?_
      refine az_E.ret (v := some (.int (1 : Int32))) (σ' := (97, I, J, R)) rfl ?_
      show az_E az_F ex 3 56 4 [.ref 67, .int (0 : Int32)] [.int (1 : Int32)] (97, I, J, R) _
      refine az_E.br (c := (1 : Int32) = 0) (tt := 19) (ff := 7) (L' := [.ref 67, .int (0 : Int32)]) (S' := []) (σ' := (97, I, J, R)) rfl (fun hn => absurd hn (by decide)) (fun _ => ?_)
      refine az_E.sn 3 (pc' := 12) (L' := [.ref 67, .int (0 : Int32)]) (S' := [.int (0 : Int32), .int (I 67 1)]) (σ' := (97, I, J, R)) rfl ?_
      refine az_E.br (c := (I 67 1) = (0 : Int32)) (tt := 15) (ff := 19) (L' := [.ref 67, .int (0 : Int32)]) (S' := []) (σ' := (97, I, J, R)) rfl (fun hc_57 => ?_) (fun hc_57 => ?_)
      · rw [if_pos hc_57] at h
        refine az_E.sn 2 (pc' := 20) (L' := [.ref 67, .int (0 : Int32)]) (S' := [.int (1 : Int32)]) (σ' := (97, I, J, R)) rfl ?_
        refine az_E.ret (v := some (.int (1 : Int32))) (σ' := (97, I, J, R)) rfl ?_
        show az_E az_F ex 4 86 43 [.ref 3, .retAddr 0, .int v2, .int v3, .ref 67, .retAddr 0] [.int (1 : Int32)] (97, I, J, R) _
        refine az_E.br (c := (1 : Int32) = 0) (tt := 46) (ff := 49) (L' := [.ref 3, .retAddr 0, .int v2, .int v3, .ref 67, .retAddr 0]) (S' := []) (σ' := (97, I, J, R)) rfl (fun hn => absurd hn (by decide)) (fun _ => ?_)
        refine az_E.sn 2 (pc' := 52) (L' := [.ref 3, .retAddr 0, .int v2, .int v3, .ref 67, .int (0 : Int32)]) (S' := []) (σ' := (97, I, J, R)) rfl ?_
        exact az_E.forget (L := [.ref 3, .retAddr 0, .int v2, .int v3, .ref 67, .int (0 : Int32)]) ⟨rfl, trivial, rfl, rfl, rfl, rfl, trivial⟩ (re_X_walkers_52_67 (I := I) (J := J) (R := R)  h hQ)
      · rw [if_neg hc_57] at h
        refine az_E.sn 1 (pc' := 20) (L' := [.ref 67, .int (0 : Int32)]) (S' := [.int (0 : Int32)]) (σ' := (97, I, J, R)) rfl ?_
        refine az_E.ret (v := some (.int (0 : Int32))) (σ' := (97, I, J, R)) rfl ?_
        show az_E az_F ex 4 86 43 [.ref 3, .retAddr 0, .int v2, .int v3, .ref 67, .retAddr 0] [.int (0 : Int32)] (97, I, J, R) _
        refine az_E.br (c := (0 : Int32) = 0) (tt := 46) (ff := 49) (L' := [.ref 3, .retAddr 0, .int v2, .int v3, .ref 67, .retAddr 0]) (S' := []) (σ' := (97, I, J, R)) rfl (fun _ => ?_) (fun hn => absurd (by decide) hn)
        refine az_E.sn 1 (pc' := 48) (L' := [.ref 3, .retAddr 0, .int v2, .int v3, .ref 67, .retAddr 0]) (S' := [.int (-12 : Int32)]) (σ' := (97, I, J, R)) rfl ?_
        have h := Option.some.inj h
        subst h
        exact az_E.ret (v := some (.int (-12 : Int32))) (σ' := (97, I, J, R)) rfl hQ
set_option maxRecDepth 100000 in
set_option maxHeartbeats 4000000 in
theorem re_X_walkers_52_b_69 {ex : az_X} {I : Nat → Nat → Int32} {J : Nat → Nat → Int64} {R : Nat → Nat → Option Nat} {v2 : Int32} {v3 : Int32} {v5 : Int32} {x : ((Int32 × (Nat → Nat → Int32)) ⊕ (Int32 × (Nat → Nat → Int32)))} (h : rs_X_walkers_52_b 69 J v2 v3 v5 I = some x) {Q : Option Value → az_S → Prop} (hQ : Sum.elim (fun s => az_E az_F ex 4 86 52 [.ref 3, .retAddr 0, .int v2, .int v3, .ref 69, .int s.1] [] (97, s.2, J, R) Q) (fun x => Q (some (.int x.1)) (97, x.2, J, R)) x) : az_E az_F ex 4 86 52 [.ref 3, .retAddr 0, .int v2, .int v3, .ref 69, .int v5] [] (97, I, J, R) Q := by
  unfold rs_X_walkers_52_b at h
  refine az_E.sn 2 (pc' := 55) (L' := [.ref 3, .retAddr 0, .int v2, .int v3, .ref 69, .int v5]) (S' := [.int v3, .int v5]) (σ' := (97, I, J, R)) rfl ?_
  refine az_E.br (c := v3 ≤ v5) (tt := 89) (ff := 58) (L' := [.ref 3, .retAddr 0, .int v2, .int v3, .ref 69, .int v5]) (S' := []) (σ' := (97, I, J, R)) rfl (fun hc_62 => ?_) (fun hc_62 => ?_)
  · rw [if_pos hc_62] at h
    refine az_E.sn 1 (pc' := 91) (L' := [.ref 3, .retAddr 0, .int v2, .int v3, .ref 69, .int v5]) (S' := [.int v5]) (σ' := (97, I, J, R)) rfl ?_
    have h := Option.some.inj h
    subst h
    exact az_E.ret (v := some (.int v5)) (σ' := (97, I, J, R)) rfl hQ
  · rw [if_neg hc_62] at h
    refine az_E.sn 1 (pc' := 59) (L' := [.ref 3, .retAddr 0, .int v2, .int v3, .ref 69, .int v5]) (S' := [.int v2]) (σ' := (97, I, J, R)) rfl ?_
    refine az_E.br (c := v2 < 0) (tt := 89) (ff := 62) (L' := [.ref 3, .retAddr 0, .int v2, .int v3, .ref 69, .int v5]) (S' := []) (σ' := (97, I, J, R)) rfl (fun hc_63 => ?_) (fun hc_63 => ?_)
    · rw [if_pos hc_63] at h
      refine az_E.sn 1 (pc' := 91) (L' := [.ref 3, .retAddr 0, .int v2, .int v3, .ref 69, .int v5]) (S' := [.int v5]) (σ' := (97, I, J, R)) rfl ?_
      have h := Option.some.inj h
      subst h
      exact az_E.ret (v := some (.int v5)) (σ' := (97, I, J, R)) rfl hQ
    · rw [if_neg hc_63] at h
      refine az_E.sn 2 (pc' := 65) (L' := [.ref 3, .retAddr 0, .int v2, .int v3, .ref 69, .int v5]) (S' := [.int (60 : Int32), .int v2]) (σ' := (97, I, J, R)) rfl ?_
      refine az_E.br (c := (60 : Int32) ≤ v2) (tt := 89) (ff := 68) (L' := [.ref 3, .retAddr 0, .int v2, .int v3, .ref 69, .int v5]) (S' := []) (σ' := (97, I, J, R)) rfl (fun hc_64 => ?_) (fun hc_64 => ?_)
      · rw [if_pos hc_64] at h
        refine az_E.sn 1 (pc' := 91) (L' := [.ref 3, .retAddr 0, .int v2, .int v3, .ref 69, .int v5]) (S' := [.int v5]) (σ' := (97, I, J, R)) rfl ?_
        have h := Option.some.inj h
        subst h
        exact az_E.ret (v := some (.int v5)) (σ' := (97, I, J, R)) rfl hQ
      · rw [if_neg hc_64] at h
        refine az_E.sn 7 (pc' := 77) (L' := [.ref 3, .retAddr 0, .int v2, .int v3, .ref 69, .int v5]) (S' := [.int (v2 + ((3 : Int32) * v5)), .ref 69, .ref 3]) (σ' := (97, I, J, R)) rfl ?_
        cases hx_67 : rs_X_addFromRow 69 I J (v2 + ((3 : Int32) * v5)) with
        | none => rw [hx_67] at h; cases h
        | some o =>
          rw [hx_67] at h
          obtain ⟨x_65, I_66⟩ := o
          dsimp only at h
          refine az_E.call (d := 3) (k' := 143) (vs := [.ref 3, .ref 69, .int (v2 + ((3 : Int32) * v5))]) (pc' := 80) (S' := []) (Q1 := fun v s => v = some (.int x_65) ∧ s = (97, I_66, J, R)) rfl (az_E.deep (by omega) (re_X_addFromRow_69 (J := J) (R := R)  hx_67 ⟨rfl, rfl⟩)) (fun v s hq => ?_)
          obtain ⟨rfl, rfl⟩ := hq
          show az_E az_F ex 4 86 80 [.ref 3, .retAddr 0, .int v2, .int v3, .ref 69, .int v5] [.int x_65] (97, I_66, J, R) _
          refine az_E.br (c := x_65 = 0) (tt := 89) (ff := 83) (L' := [.ref 3, .retAddr 0, .int v2, .int v3, .ref 69, .int v5]) (S' := []) (σ' := (97, I_66, J, R)) rfl (fun hc_68 => ?_) (fun hc_68 => ?_)
          · rw [if_pos hc_68] at h
            refine az_E.sn 1 (pc' := 91) (L' := [.ref 3, .retAddr 0, .int v2, .int v3, .ref 69, .int v5]) (S' := [.int v5]) (σ' := (97, I_66, J, R)) rfl ?_
            have h := Option.some.inj h
            subst h
            exact az_E.ret (v := some (.int v5)) (σ' := (97, I_66, J, R)) rfl hQ
          · rw [if_neg hc_68] at h
            refine az_E.sn 2 (pc' := 52) (L' := [.ref 3, .retAddr 0, .int v2, .int v3, .ref 69, .int (v5 + (1 : Int32))]) (S' := []) (σ' := (97, I_66, J, R)) rfl ?_
            have h := Option.some.inj h
            subst h
            exact az_E.forget (L := [.ref 3, .retAddr 0, .int v2, .int v3, .ref 69, .int (v5 + (1 : Int32))]) ⟨rfl, trivial, rfl, rfl, rfl, rfl, trivial⟩ hQ
set_option maxRecDepth 100000 in
set_option maxHeartbeats 4000000 in
theorem re_X_walkers_52_69 {ex : az_X} {I : Nat → Nat → Int32} {J : Nat → Nat → Int64} {R : Nat → Nat → Option Nat} {v2 : Int32} {v3 : Int32} {v5 : Int32} {x : Int32 × (Nat → Nat → Int32)} (h : rs_X_walkers_52 69 I J v2 v3 v5 = some x) {Q : Option Value → az_S → Prop} (hQ : Q (some (.int x.1)) (97, x.2, J, R)) : az_E az_F ex 4 86 52 [.ref 3, .retAddr 0, .int v2, .int v3, .ref 69, .int v5] [] (97, I, J, R) Q := by
  unfold rs_X_walkers_52 at h
  refine az_lp_E (G := fun s => az_E az_F ex 4 86 52 [.ref 3, .retAddr 0, .int v2, .int v3, .ref 69, .int s.1] [] (97, s.2, J, R) Q) (H := fun x => Q (some (.int x.1)) (97, x.2, J, R)) (fun s o hb ho => ?_) _ _ _ h hQ
  exact re_X_walkers_52_b_69  hb ho
set_option maxRecDepth 100000 in
set_option maxHeartbeats 4000000 in
theorem re_X_walkers_25_69 {ex : az_X} {I : Nat → Nat → Int32} {J : Nat → Nat → Int64} {R : Nat → Nat → Option Nat} {v2 : Int32} {v3 : Int32} {x : Int32 × (Nat → Nat → Int32)} (h : rs_X_walkers_25 69 I J v2 v3 = some x) {Q : Option Value → az_S → Prop} (hQ : Q (some (.int x.1)) (97, x.2, J, R)) : az_E az_F ex 4 86 25 [.ref 3, .retAddr 0, .int v2, .int v3, .retAddr 0, .retAddr 0] [.ref 69] (97, I, J, R) Q := by
  unfold rs_X_walkers_25 at h
  refine az_E.sn 2 (pc' := 29) (L' := [.ref 3, .retAddr 0, .int v2, .int v3, .ref 69, .retAddr 0]) (S' := [.ref 69]) (σ' := (97, I, J, R)) rfl ?_
  refine az_E.call (d := 3) (k' := 54) (vs := [.ref 69]) (pc' := 32) (S' := []) rfl ?_ (fun _ _ hq => hq)
  show az_E az_F ex 3 54 0 [.ref 69] [] (97, I, J, R) _
  refine az_E.sn 3 (pc' := 5) (L' := [.ref 69]) (S' := [.int (-1 : Int32), .int (I 69 0)]) (σ' := (97, I, J, R)) rfl ?_
  refine az_E.br (c := (I 69 0) = (-1 : Int32)) (tt := 8) (ff := 20) (L' := [.ref 69]) (S' := []) (σ' := (97, I, J, R)) rfl (fun hc_58 => ?_) (fun hc_58 => ?_)
  · rw [if_pos hc_58] at h
    refine az_E.sn 3 (pc' := 13) (L' := [.ref 69]) (S' := [.int (-1 : Int32), .int (I 69 1)]) (σ' := (97, I, J, R)) rfl ?_
    refine az_E.br (c := (I 69 1) = (-1 : Int32)) (tt := 16) (ff := 20) (L' := [.ref 69]) (S' := []) (σ' := (97, I, J, R)) rfl (fun hc_59 => ?_) (fun hc_59 => ?_)
    · rw [if_pos hc_59] at h
      refine az_E.sn 2 (pc' := 21) (L' := [.ref 69]) (S' := [.int (1 : Int32)]) (σ' := (97, I, J, R)) rfl ?_
      refine az_E.ret (v := some (.int (1 : Int32))) (σ' := (97, I, J, R)) rfl ?_
      show az_E az_F ex 4 86 32 [.ref 3, .retAddr 0, .int v2, .int v3, .ref 69, .retAddr 0] [.int (1 : Int32)] (97, I, J, R) _
      refine az_E.br (c := (1 : Int32) = 0) (tt := 37) (ff := 35) (L' := [.ref 3, .retAddr 0, .int v2, .int v3, .ref 69, .retAddr 0]) (S' := []) (σ' := (97, I, J, R)) rfl (fun hn => absurd hn (by decide)) (fun _ => ?_)
      refine az_E.sn 1 (pc' := 36) (L' := [.ref 3, .retAddr 0, .int v2, .int v3, .ref 69, .retAddr 0]) (S' := [.int (0 : Int32)]) (σ' := (97, I, J, R)) rfl ?_
      have h := Option.some.inj h
      subst h
      exact az_E.ret (v := some (.int (0 : Int32))) (σ' := (97, I, J, R)) rfl hQ
    · rw [if_neg hc_59] at h
      refine az_E.sn 1 (pc' := 21) (L' := [.ref 69]) (S' := [.int (0 : Int32)]) (σ' := (97, I, J, R)) rfl ?_
      refine az_E.ret (v := some (.int (0 : Int32))) (σ' := (97, I, J, R)) rfl ?_
      show az_E az_F ex 4 86 32 [.ref 3, .retAddr 0, .int v2, .int v3, .ref 69, .retAddr 0] [.int (0 : Int32)] (97, I, J, R) _
      refine az_E.br (c := (0 : Int32) = 0) (tt := 37) (ff := 35) (L' := [.ref 3, .retAddr 0, .int v2, .int v3, .ref 69, .retAddr 0]) (S' := []) (σ' := (97, I, J, R)) rfl (fun _ => ?_) (fun hn => absurd (by decide) hn)
      refine az_E.sn 2 (pc' := 40) (L' := [.ref 3, .retAddr 0, .int v2, .int v3, .ref 69, .retAddr 0]) (S' := [.int (0 : Int32), .ref 69]) (σ' := (97, I, J, R)) rfl ?_
      refine az_E.call (d := 3) (k' := 56) (vs := [.ref 69, .int (0 : Int32)]) (pc' := 43) (S' := []) rfl ?_ (fun _ _ hq => hq)
      show az_E az_F ex 3 56 0 [.ref 69, .int (0 : Int32)] [] (97, I, J, R) _
      refine az_E.sn 1 (pc' := 1) (L' := [.ref 69, .int (0 : Int32)]) (S' := [.ref 69]) (σ' := (97, I, J, R)) rfl ?_
      refine az_E.call (d := 2) (k' := 55) (vs := [.ref 69]) (pc' := 4) (S' := []) rfl ?_ (fun _ _ hq => hq)
      show az_E az_F ex 2 55 0 [.ref 69] [] (97, I, J, R) _
      refine az_E.sn 3 (pc' := 5) (L' := [.ref 69]) (S' := [.int (-1 : Int32), .int (I 69 1)]) (σ' := (97, I, J, R)) rfl ?_
      refine az_E.br (c := (I 69 1) = (-1 : Int32)) (tt := 12) (ff := 8) (L' := [.ref 69]) (S' := []) (σ' := (97, I, J, R)) rfl (fun hc_60 => ?_) (fun hc_60 => ?_)
      · rw [if_pos hc_60] at h
        refine az_E.sn 1 (pc' := 13) (L' := [.ref 69]) (S' := [.int (0 : Int32)]) (σ' := (97, I, J, R)) rfl ?_
        refine az_E.ret (v := some (.int (0 : Int32))) (σ' := (97, I, J, R)) rfl ?_
        show az_E az_F ex 3 56 4 [.ref 69, .int (0 : Int32)] [.int (0 : Int32)] (97, I, J, R) _
        refine az_E.br (c := (0 : Int32) = 0) (tt := 19) (ff := 7) (L' := [.ref 69, .int (0 : Int32)]) (S' := []) (σ' := (97, I, J, R)) rfl (fun _ => ?_) (fun hn => absurd (by decide) hn)
        refine az_E.sn 1 (pc' := 20) (L' := [.ref 69, .int (0 : Int32)]) (S' := [.int (0 : Int32)]) (σ' := (97, I, J, R)) rfl ?_
        refine az_E.ret (v := some (.int (0 : Int32))) (σ' := (97, I, J, R)) rfl ?_
        show az_E az_F ex 4 86 43 [.ref 3, .retAddr 0, .int v2, .int v3, .ref 69, .retAddr 0] [.int (0 : Int32)] (97, I, J, R) _
        refine az_E.br (c := (0 : Int32) = 0) (tt := 46) (ff := 49) (L' := [.ref 3, .retAddr 0, .int v2, .int v3, .ref 69, .retAddr 0]) (S' := []) (σ' := (97, I, J, R)) rfl (fun _ => ?_) (fun hn => absurd (by decide) hn)
        refine az_E.sn 1 (pc' := 48) (L' := [.ref 3, .retAddr 0, .int v2, .int v3, .ref 69, .retAddr 0]) (S' := [.int (-12 : Int32)]) (σ' := (97, I, J, R)) rfl ?_
        have h := Option.some.inj h
        subst h
        exact az_E.ret (v := some (.int (-12 : Int32))) (σ' := (97, I, J, R)) rfl hQ
      · rw [if_neg hc_60] at h
        refine az_E.sn 2 (pc' := 13) (L' := [.ref 69]) (S' := [.int (1 : Int32)]) (σ' := (97, I, J, R)) rfl ?_
        refine az_E.ret (v := some (.int (1 : Int32))) (σ' := (97, I, J, R)) rfl ?_
        show az_E az_F ex 3 56 4 [.ref 69, .int (0 : Int32)] [.int (1 : Int32)] (97, I, J, R) _
        refine az_E.br (c := (1 : Int32) = 0) (tt := 19) (ff := 7) (L' := [.ref 69, .int (0 : Int32)]) (S' := []) (σ' := (97, I, J, R)) rfl (fun hn => absurd hn (by decide)) (fun _ => ?_)
        refine az_E.sn 3 (pc' := 12) (L' := [.ref 69, .int (0 : Int32)]) (S' := [.int (0 : Int32), .int (I 69 1)]) (σ' := (97, I, J, R)) rfl ?_
        refine az_E.br (c := (I 69 1) = (0 : Int32)) (tt := 15) (ff := 19) (L' := [.ref 69, .int (0 : Int32)]) (S' := []) (σ' := (97, I, J, R)) rfl (fun hc_61 => ?_) (fun hc_61 => ?_)
        · rw [if_pos hc_61] at h
          refine az_E.sn 2 (pc' := 20) (L' := [.ref 69, .int (0 : Int32)]) (S' := [.int (1 : Int32)]) (σ' := (97, I, J, R)) rfl ?_
          refine az_E.ret (v := some (.int (1 : Int32))) (σ' := (97, I, J, R)) rfl ?_
          show az_E az_F ex 4 86 43 [.ref 3, .retAddr 0, .int v2, .int v3, .ref 69, .retAddr 0] [.int (1 : Int32)] (97, I, J, R) _
          refine az_E.br (c := (1 : Int32) = 0) (tt := 46) (ff := 49) (L' := [.ref 3, .retAddr 0, .int v2, .int v3, .ref 69, .retAddr 0]) (S' := []) (σ' := (97, I, J, R)) rfl (fun hn => absurd hn (by decide)) (fun _ => ?_)
          refine az_E.sn 2 (pc' := 52) (L' := [.ref 3, .retAddr 0, .int v2, .int v3, .ref 69, .int (0 : Int32)]) (S' := []) (σ' := (97, I, J, R)) rfl ?_
          exact az_E.forget (L := [.ref 3, .retAddr 0, .int v2, .int v3, .ref 69, .int (0 : Int32)]) ⟨rfl, trivial, rfl, rfl, rfl, rfl, trivial⟩ (re_X_walkers_52_69 (I := I) (J := J) (R := R)  h hQ)
        · rw [if_neg hc_61] at h
          refine az_E.sn 1 (pc' := 20) (L' := [.ref 69, .int (0 : Int32)]) (S' := [.int (0 : Int32)]) (σ' := (97, I, J, R)) rfl ?_
          refine az_E.ret (v := some (.int (0 : Int32))) (σ' := (97, I, J, R)) rfl ?_
          show az_E az_F ex 4 86 43 [.ref 3, .retAddr 0, .int v2, .int v3, .ref 69, .retAddr 0] [.int (0 : Int32)] (97, I, J, R) _
          refine az_E.br (c := (0 : Int32) = 0) (tt := 46) (ff := 49) (L' := [.ref 3, .retAddr 0, .int v2, .int v3, .ref 69, .retAddr 0]) (S' := []) (σ' := (97, I, J, R)) rfl (fun _ => ?_) (fun hn => absurd (by decide) hn)
          refine az_E.sn 1 (pc' := 48) (L' := [.ref 3, .retAddr 0, .int v2, .int v3, .ref 69, .retAddr 0]) (S' := [.int (-12 : Int32)]) (σ' := (97, I, J, R)) rfl ?_
          have h := Option.some.inj h
          subst h
          exact az_E.ret (v := some (.int (-12 : Int32))) (σ' := (97, I, J, R)) rfl hQ
  · rw [if_neg hc_58] at h
    refine az_E.sn 1 (pc' := 21) (L' := [.ref 69]) (S' := [.int (0 : Int32)]) (σ' := (97, I, J, R)) rfl ?_
    refine az_E.ret (v := some (.int (0 : Int32))) (σ' := (97, I, J, R)) rfl ?_
    show az_E az_F ex 4 86 32 [.ref 3, .retAddr 0, .int v2, .int v3, .ref 69, .retAddr 0] [.int (0 : Int32)] (97, I, J, R) _
    refine az_E.br (c := (0 : Int32) = 0) (tt := 37) (ff := 35) (L' := [.ref 3, .retAddr 0, .int v2, .int v3, .ref 69, .retAddr 0]) (S' := []) (σ' := (97, I, J, R)) rfl (fun _ => ?_) (fun hn => absurd (by decide) hn)
    refine az_E.sn 2 (pc' := 40) (L' := [.ref 3, .retAddr 0, .int v2, .int v3, .ref 69, .retAddr 0]) (S' := [.int (0 : Int32), .ref 69]) (σ' := (97, I, J, R)) rfl ?_
    refine az_E.call (d := 3) (k' := 56) (vs := [.ref 69, .int (0 : Int32)]) (pc' := 43) (S' := []) rfl ?_ (fun _ _ hq => hq)
    show az_E az_F ex 3 56 0 [.ref 69, .int (0 : Int32)] [] (97, I, J, R) _
    refine az_E.sn 1 (pc' := 1) (L' := [.ref 69, .int (0 : Int32)]) (S' := [.ref 69]) (σ' := (97, I, J, R)) rfl ?_
    refine az_E.call (d := 2) (k' := 55) (vs := [.ref 69]) (pc' := 4) (S' := []) rfl ?_ (fun _ _ hq => hq)
    show az_E az_F ex 2 55 0 [.ref 69] [] (97, I, J, R) _
    refine az_E.sn 3 (pc' := 5) (L' := [.ref 69]) (S' := [.int (-1 : Int32), .int (I 69 1)]) (σ' := (97, I, J, R)) rfl ?_
    refine az_E.br (c := (I 69 1) = (-1 : Int32)) (tt := 12) (ff := 8) (L' := [.ref 69]) (S' := []) (σ' := (97, I, J, R)) rfl (fun hc_69 => ?_) (fun hc_69 => ?_)
    · rw [if_pos hc_69] at h
      refine az_E.sn 1 (pc' := 13) (L' := [.ref 69]) (S' := [.int (0 : Int32)]) (σ' := (97, I, J, R)) rfl ?_
      refine az_E.ret (v := some (.int (0 : Int32))) (σ' := (97, I, J, R)) rfl ?_
      show az_E az_F ex 3 56 4 [.ref 69, .int (0 : Int32)] [.int (0 : Int32)] (97, I, J, R) _
      refine az_E.br (c := (0 : Int32) = 0) (tt := 19) (ff := 7) (L' := [.ref 69, .int (0 : Int32)]) (S' := []) (σ' := (97, I, J, R)) rfl (fun _ => ?_) (fun hn => absurd (by decide) hn)
      refine az_E.sn 1 (pc' := 20) (L' := [.ref 69, .int (0 : Int32)]) (S' := [.int (0 : Int32)]) (σ' := (97, I, J, R)) rfl ?_
      refine az_E.ret (v := some (.int (0 : Int32))) (σ' := (97, I, J, R)) rfl ?_
      show az_E az_F ex 4 86 43 [.ref 3, .retAddr 0, .int v2, .int v3, .ref 69, .retAddr 0] [.int (0 : Int32)] (97, I, J, R) _
      refine az_E.br (c := (0 : Int32) = 0) (tt := 46) (ff := 49) (L' := [.ref 3, .retAddr 0, .int v2, .int v3, .ref 69, .retAddr 0]) (S' := []) (σ' := (97, I, J, R)) rfl (fun _ => ?_) (fun hn => absurd (by decide) hn)
      refine az_E.sn 1 (pc' := 48) (L' := [.ref 3, .retAddr 0, .int v2, .int v3, .ref 69, .retAddr 0]) (S' := [.int (-12 : Int32)]) (σ' := (97, I, J, R)) rfl ?_
      have h := Option.some.inj h
      subst h
      exact az_E.ret (v := some (.int (-12 : Int32))) (σ' := (97, I, J, R)) rfl hQ
    · rw [if_neg hc_69] at h
      refine az_E.sn 2 (pc' := 13) (L' := [.ref 69]) (S' := [.int (1 : Int32)]) (σ' := (97, I, J, R)) rfl ?_
      refine az_E.ret (v := some (.int (1 : Int32))) (σ' := (97, I, J, R)) rfl ?_
      show az_E az_F ex 3 56 4 [.ref 69, .int (0 : Int32)] [.int (1 : Int32)] (97, I, J, R) _
      refine az_E.br (c := (1 : Int32) = 0) (tt := 19) (ff := 7) (L' := [.ref 69, .int (0 : Int32)]) (S' := []) (σ' := (97, I, J, R)) rfl (fun hn => absurd hn (by decide)) (fun _ => ?_)
      refine az_E.sn 3 (pc' := 12) (L' := [.ref 69, .int (0 : Int32)]) (S' := [.int (0 : Int32), .int (I 69 1)]) (σ' := (97, I, J, R)) rfl ?_
      refine az_E.br (c := (I 69 1) = (0 : Int32)) (tt := 15) (ff := 19) (L' := [.ref 69, .int (0 : Int32)]) (S' := []) (σ' := (97, I, J, R)) rfl (fun hc_70 => ?_) (fun hc_70 => ?_)
      · rw [if_pos hc_70] at h
        refine az_E.sn 2 (pc' := 20) (L' := [.ref 69, .int (0 : Int32)]) (S' := [.int (1 : Int32)]) (σ' := (97, I, J, R)) rfl ?_
        refine az_E.ret (v := some (.int (1 : Int32))) (σ' := (97, I, J, R)) rfl ?_
        show az_E az_F ex 4 86 43 [.ref 3, .retAddr 0, .int v2, .int v3, .ref 69, .retAddr 0] [.int (1 : Int32)] (97, I, J, R) _
        refine az_E.br (c := (1 : Int32) = 0) (tt := 46) (ff := 49) (L' := [.ref 3, .retAddr 0, .int v2, .int v3, .ref 69, .retAddr 0]) (S' := []) (σ' := (97, I, J, R)) rfl (fun hn => absurd hn (by decide)) (fun _ => ?_)
        refine az_E.sn 2 (pc' := 52) (L' := [.ref 3, .retAddr 0, .int v2, .int v3, .ref 69, .int (0 : Int32)]) (S' := []) (σ' := (97, I, J, R)) rfl ?_
        exact az_E.forget (L := [.ref 3, .retAddr 0, .int v2, .int v3, .ref 69, .int (0 : Int32)]) ⟨rfl, trivial, rfl, rfl, rfl, rfl, trivial⟩ (re_X_walkers_52_69 (I := I) (J := J) (R := R)  h hQ)
      · rw [if_neg hc_70] at h
        refine az_E.sn 1 (pc' := 20) (L' := [.ref 69, .int (0 : Int32)]) (S' := [.int (0 : Int32)]) (σ' := (97, I, J, R)) rfl ?_
        refine az_E.ret (v := some (.int (0 : Int32))) (σ' := (97, I, J, R)) rfl ?_
        show az_E az_F ex 4 86 43 [.ref 3, .retAddr 0, .int v2, .int v3, .ref 69, .retAddr 0] [.int (0 : Int32)] (97, I, J, R) _
        refine az_E.br (c := (0 : Int32) = 0) (tt := 46) (ff := 49) (L' := [.ref 3, .retAddr 0, .int v2, .int v3, .ref 69, .retAddr 0]) (S' := []) (σ' := (97, I, J, R)) rfl (fun _ => ?_) (fun hn => absurd (by decide) hn)
        refine az_E.sn 1 (pc' := 48) (L' := [.ref 3, .retAddr 0, .int v2, .int v3, .ref 69, .retAddr 0]) (S' := [.int (-12 : Int32)]) (σ' := (97, I, J, R)) rfl ?_
        have h := Option.some.inj h
        subst h
        exact az_E.ret (v := some (.int (-12 : Int32))) (σ' := (97, I, J, R)) rfl hQ
set_option maxRecDepth 100000 in
set_option maxHeartbeats 4000000 in
theorem re_X_walkers_52_b_71 {ex : az_X} {I : Nat → Nat → Int32} {J : Nat → Nat → Int64} {R : Nat → Nat → Option Nat} {v2 : Int32} {v3 : Int32} {v5 : Int32} {x : ((Int32 × (Nat → Nat → Int32)) ⊕ (Int32 × (Nat → Nat → Int32)))} (h : rs_X_walkers_52_b 71 J v2 v3 v5 I = some x) {Q : Option Value → az_S → Prop} (hQ : Sum.elim (fun s => az_E az_F ex 4 86 52 [.ref 3, .retAddr 0, .int v2, .int v3, .ref 71, .int s.1] [] (97, s.2, J, R) Q) (fun x => Q (some (.int x.1)) (97, x.2, J, R)) x) : az_E az_F ex 4 86 52 [.ref 3, .retAddr 0, .int v2, .int v3, .ref 71, .int v5] [] (97, I, J, R) Q := by
  unfold rs_X_walkers_52_b at h
  refine az_E.sn 2 (pc' := 55) (L' := [.ref 3, .retAddr 0, .int v2, .int v3, .ref 71, .int v5]) (S' := [.int v3, .int v5]) (σ' := (97, I, J, R)) rfl ?_
  refine az_E.br (c := v3 ≤ v5) (tt := 89) (ff := 58) (L' := [.ref 3, .retAddr 0, .int v2, .int v3, .ref 71, .int v5]) (S' := []) (σ' := (97, I, J, R)) rfl (fun hc_75 => ?_) (fun hc_75 => ?_)
  · rw [if_pos hc_75] at h
    refine az_E.sn 1 (pc' := 91) (L' := [.ref 3, .retAddr 0, .int v2, .int v3, .ref 71, .int v5]) (S' := [.int v5]) (σ' := (97, I, J, R)) rfl ?_
    have h := Option.some.inj h
    subst h
    exact az_E.ret (v := some (.int v5)) (σ' := (97, I, J, R)) rfl hQ
  · rw [if_neg hc_75] at h
    refine az_E.sn 1 (pc' := 59) (L' := [.ref 3, .retAddr 0, .int v2, .int v3, .ref 71, .int v5]) (S' := [.int v2]) (σ' := (97, I, J, R)) rfl ?_
    refine az_E.br (c := v2 < 0) (tt := 89) (ff := 62) (L' := [.ref 3, .retAddr 0, .int v2, .int v3, .ref 71, .int v5]) (S' := []) (σ' := (97, I, J, R)) rfl (fun hc_76 => ?_) (fun hc_76 => ?_)
    · rw [if_pos hc_76] at h
      refine az_E.sn 1 (pc' := 91) (L' := [.ref 3, .retAddr 0, .int v2, .int v3, .ref 71, .int v5]) (S' := [.int v5]) (σ' := (97, I, J, R)) rfl ?_
      have h := Option.some.inj h
      subst h
      exact az_E.ret (v := some (.int v5)) (σ' := (97, I, J, R)) rfl hQ
    · rw [if_neg hc_76] at h
      refine az_E.sn 2 (pc' := 65) (L' := [.ref 3, .retAddr 0, .int v2, .int v3, .ref 71, .int v5]) (S' := [.int (60 : Int32), .int v2]) (σ' := (97, I, J, R)) rfl ?_
      refine az_E.br (c := (60 : Int32) ≤ v2) (tt := 89) (ff := 68) (L' := [.ref 3, .retAddr 0, .int v2, .int v3, .ref 71, .int v5]) (S' := []) (σ' := (97, I, J, R)) rfl (fun hc_77 => ?_) (fun hc_77 => ?_)
      · rw [if_pos hc_77] at h
        refine az_E.sn 1 (pc' := 91) (L' := [.ref 3, .retAddr 0, .int v2, .int v3, .ref 71, .int v5]) (S' := [.int v5]) (σ' := (97, I, J, R)) rfl ?_
        have h := Option.some.inj h
        subst h
        exact az_E.ret (v := some (.int v5)) (σ' := (97, I, J, R)) rfl hQ
      · rw [if_neg hc_77] at h
        refine az_E.sn 7 (pc' := 77) (L' := [.ref 3, .retAddr 0, .int v2, .int v3, .ref 71, .int v5]) (S' := [.int (v2 + ((3 : Int32) * v5)), .ref 71, .ref 3]) (σ' := (97, I, J, R)) rfl ?_
        cases hx_80 : rs_X_addFromRow 71 I J (v2 + ((3 : Int32) * v5)) with
        | none => rw [hx_80] at h; cases h
        | some o =>
          rw [hx_80] at h
          obtain ⟨x_78, I_79⟩ := o
          dsimp only at h
          refine az_E.call (d := 3) (k' := 143) (vs := [.ref 3, .ref 71, .int (v2 + ((3 : Int32) * v5))]) (pc' := 80) (S' := []) (Q1 := fun v s => v = some (.int x_78) ∧ s = (97, I_79, J, R)) rfl (az_E.deep (by omega) (re_X_addFromRow_71 (J := J) (R := R)  hx_80 ⟨rfl, rfl⟩)) (fun v s hq => ?_)
          obtain ⟨rfl, rfl⟩ := hq
          show az_E az_F ex 4 86 80 [.ref 3, .retAddr 0, .int v2, .int v3, .ref 71, .int v5] [.int x_78] (97, I_79, J, R) _
          refine az_E.br (c := x_78 = 0) (tt := 89) (ff := 83) (L' := [.ref 3, .retAddr 0, .int v2, .int v3, .ref 71, .int v5]) (S' := []) (σ' := (97, I_79, J, R)) rfl (fun hc_81 => ?_) (fun hc_81 => ?_)
          · rw [if_pos hc_81] at h
            refine az_E.sn 1 (pc' := 91) (L' := [.ref 3, .retAddr 0, .int v2, .int v3, .ref 71, .int v5]) (S' := [.int v5]) (σ' := (97, I_79, J, R)) rfl ?_
            have h := Option.some.inj h
            subst h
            exact az_E.ret (v := some (.int v5)) (σ' := (97, I_79, J, R)) rfl hQ
          · rw [if_neg hc_81] at h
            refine az_E.sn 2 (pc' := 52) (L' := [.ref 3, .retAddr 0, .int v2, .int v3, .ref 71, .int (v5 + (1 : Int32))]) (S' := []) (σ' := (97, I_79, J, R)) rfl ?_
            have h := Option.some.inj h
            subst h
            exact az_E.forget (L := [.ref 3, .retAddr 0, .int v2, .int v3, .ref 71, .int (v5 + (1 : Int32))]) ⟨rfl, trivial, rfl, rfl, rfl, rfl, trivial⟩ hQ
set_option maxRecDepth 100000 in
set_option maxHeartbeats 4000000 in
theorem re_X_walkers_52_71 {ex : az_X} {I : Nat → Nat → Int32} {J : Nat → Nat → Int64} {R : Nat → Nat → Option Nat} {v2 : Int32} {v3 : Int32} {v5 : Int32} {x : Int32 × (Nat → Nat → Int32)} (h : rs_X_walkers_52 71 I J v2 v3 v5 = some x) {Q : Option Value → az_S → Prop} (hQ : Q (some (.int x.1)) (97, x.2, J, R)) : az_E az_F ex 4 86 52 [.ref 3, .retAddr 0, .int v2, .int v3, .ref 71, .int v5] [] (97, I, J, R) Q := by
  unfold rs_X_walkers_52 at h
  refine az_lp_E (G := fun s => az_E az_F ex 4 86 52 [.ref 3, .retAddr 0, .int v2, .int v3, .ref 71, .int s.1] [] (97, s.2, J, R) Q) (H := fun x => Q (some (.int x.1)) (97, x.2, J, R)) (fun s o hb ho => ?_) _ _ _ h hQ
  exact re_X_walkers_52_b_71  hb ho
set_option maxRecDepth 100000 in
set_option maxHeartbeats 4000000 in
theorem re_X_walkers_25_71 {ex : az_X} {I : Nat → Nat → Int32} {J : Nat → Nat → Int64} {R : Nat → Nat → Option Nat} {v2 : Int32} {v3 : Int32} {x : Int32 × (Nat → Nat → Int32)} (h : rs_X_walkers_25 71 I J v2 v3 = some x) {Q : Option Value → az_S → Prop} (hQ : Q (some (.int x.1)) (97, x.2, J, R)) : az_E az_F ex 4 86 25 [.ref 3, .retAddr 0, .int v2, .int v3, .retAddr 0, .retAddr 0] [.ref 71] (97, I, J, R) Q := by
  unfold rs_X_walkers_25 at h
  refine az_E.sn 2 (pc' := 29) (L' := [.ref 3, .retAddr 0, .int v2, .int v3, .ref 71, .retAddr 0]) (S' := [.ref 71]) (σ' := (97, I, J, R)) rfl ?_
  refine az_E.call (d := 3) (k' := 54) (vs := [.ref 71]) (pc' := 32) (S' := []) rfl ?_ (fun _ _ hq => hq)
  show az_E az_F ex 3 54 0 [.ref 71] [] (97, I, J, R) _
  refine az_E.sn 3 (pc' := 5) (L' := [.ref 71]) (S' := [.int (-1 : Int32), .int (I 71 0)]) (σ' := (97, I, J, R)) rfl ?_
  refine az_E.br (c := (I 71 0) = (-1 : Int32)) (tt := 8) (ff := 20) (L' := [.ref 71]) (S' := []) (σ' := (97, I, J, R)) rfl (fun hc_71 => ?_) (fun hc_71 => ?_)
  · rw [if_pos hc_71] at h
    refine az_E.sn 3 (pc' := 13) (L' := [.ref 71]) (S' := [.int (-1 : Int32), .int (I 71 1)]) (σ' := (97, I, J, R)) rfl ?_
    refine az_E.br (c := (I 71 1) = (-1 : Int32)) (tt := 16) (ff := 20) (L' := [.ref 71]) (S' := []) (σ' := (97, I, J, R)) rfl (fun hc_72 => ?_) (fun hc_72 => ?_)
    · rw [if_pos hc_72] at h
      refine az_E.sn 2 (pc' := 21) (L' := [.ref 71]) (S' := [.int (1 : Int32)]) (σ' := (97, I, J, R)) rfl ?_
      refine az_E.ret (v := some (.int (1 : Int32))) (σ' := (97, I, J, R)) rfl ?_
      show az_E az_F ex 4 86 32 [.ref 3, .retAddr 0, .int v2, .int v3, .ref 71, .retAddr 0] [.int (1 : Int32)] (97, I, J, R) _
      refine az_E.br (c := (1 : Int32) = 0) (tt := 37) (ff := 35) (L' := [.ref 3, .retAddr 0, .int v2, .int v3, .ref 71, .retAddr 0]) (S' := []) (σ' := (97, I, J, R)) rfl (fun hn => absurd hn (by decide)) (fun _ => ?_)
      refine az_E.sn 1 (pc' := 36) (L' := [.ref 3, .retAddr 0, .int v2, .int v3, .ref 71, .retAddr 0]) (S' := [.int (0 : Int32)]) (σ' := (97, I, J, R)) rfl ?_
      have h := Option.some.inj h
      subst h
      exact az_E.ret (v := some (.int (0 : Int32))) (σ' := (97, I, J, R)) rfl hQ
    · rw [if_neg hc_72] at h
      refine az_E.sn 1 (pc' := 21) (L' := [.ref 71]) (S' := [.int (0 : Int32)]) (σ' := (97, I, J, R)) rfl ?_
      refine az_E.ret (v := some (.int (0 : Int32))) (σ' := (97, I, J, R)) rfl ?_
      show az_E az_F ex 4 86 32 [.ref 3, .retAddr 0, .int v2, .int v3, .ref 71, .retAddr 0] [.int (0 : Int32)] (97, I, J, R) _
      refine az_E.br (c := (0 : Int32) = 0) (tt := 37) (ff := 35) (L' := [.ref 3, .retAddr 0, .int v2, .int v3, .ref 71, .retAddr 0]) (S' := []) (σ' := (97, I, J, R)) rfl (fun _ => ?_) (fun hn => absurd (by decide) hn)
      refine az_E.sn 2 (pc' := 40) (L' := [.ref 3, .retAddr 0, .int v2, .int v3, .ref 71, .retAddr 0]) (S' := [.int (0 : Int32), .ref 71]) (σ' := (97, I, J, R)) rfl ?_
      refine az_E.call (d := 3) (k' := 56) (vs := [.ref 71, .int (0 : Int32)]) (pc' := 43) (S' := []) rfl ?_ (fun _ _ hq => hq)
      show az_E az_F ex 3 56 0 [.ref 71, .int (0 : Int32)] [] (97, I, J, R) _
      refine az_E.sn 1 (pc' := 1) (L' := [.ref 71, .int (0 : Int32)]) (S' := [.ref 71]) (σ' := (97, I, J, R)) rfl ?_
      refine az_E.call (d := 2) (k' := 55) (vs := [.ref 71]) (pc' := 4) (S' := []) rfl ?_ (fun _ _ hq => hq)
      show az_E az_F ex 2 55 0 [.ref 71] [] (97, I, J, R) _
      refine az_E.sn 3 (pc' := 5) (L' := [.ref 71]) (S' := [.int (-1 : Int32), .int (I 71 1)]) (σ' := (97, I, J, R)) rfl ?_
      refine az_E.br (c := (I 71 1) = (-1 : Int32)) (tt := 12) (ff := 8) (L' := [.ref 71]) (S' := []) (σ' := (97, I, J, R)) rfl (fun hc_73 => ?_) (fun hc_73 => ?_)
      · rw [if_pos hc_73] at h
        refine az_E.sn 1 (pc' := 13) (L' := [.ref 71]) (S' := [.int (0 : Int32)]) (σ' := (97, I, J, R)) rfl ?_
        refine az_E.ret (v := some (.int (0 : Int32))) (σ' := (97, I, J, R)) rfl ?_
        show az_E az_F ex 3 56 4 [.ref 71, .int (0 : Int32)] [.int (0 : Int32)] (97, I, J, R) _
        refine az_E.br (c := (0 : Int32) = 0) (tt := 19) (ff := 7) (L' := [.ref 71, .int (0 : Int32)]) (S' := []) (σ' := (97, I, J, R)) rfl (fun _ => ?_) (fun hn => absurd (by decide) hn)
        refine az_E.sn 1 (pc' := 20) (L' := [.ref 71, .int (0 : Int32)]) (S' := [.int (0 : Int32)]) (σ' := (97, I, J, R)) rfl ?_
        refine az_E.ret (v := some (.int (0 : Int32))) (σ' := (97, I, J, R)) rfl ?_
        show az_E az_F ex 4 86 43 [.ref 3, .retAddr 0, .int v2, .int v3, .ref 71, .retAddr 0] [.int (0 : Int32)] (97, I, J, R) _
        refine az_E.br (c := (0 : Int32) = 0) (tt := 46) (ff := 49) (L' := [.ref 3, .retAddr 0, .int v2, .int v3, .ref 71, .retAddr 0]) (S' := []) (σ' := (97, I, J, R)) rfl (fun _ => ?_) (fun hn => absurd (by decide) hn)
        refine az_E.sn 1 (pc' := 48) (L' := [.ref 3, .retAddr 0, .int v2, .int v3, .ref 71, .retAddr 0]) (S' := [.int (-12 : Int32)]) (σ' := (97, I, J, R)) rfl ?_
        have h := Option.some.inj h
        subst h
        exact az_E.ret (v := some (.int (-12 : Int32))) (σ' := (97, I, J, R)) rfl hQ
      · rw [if_neg hc_73] at h
        refine az_E.sn 2 (pc' := 13) (L' := [.ref 71]) (S' := [.int (1 : Int32)]) (σ' := (97, I, J, R)) rfl ?_
        refine az_E.ret (v := some (.int (1 : Int32))) (σ' := (97, I, J, R)) rfl ?_
        show az_E az_F ex 3 56 4 [.ref 71, .int (0 : Int32)] [.int (1 : Int32)] (97, I, J, R) _
        refine az_E.br (c := (1 : Int32) = 0) (tt := 19) (ff := 7) (L' := [.ref 71, .int (0 : Int32)]) (S' := []) (σ' := (97, I, J, R)) rfl (fun hn => absurd hn (by decide)) (fun _ => ?_)
        refine az_E.sn 3 (pc' := 12) (L' := [.ref 71, .int (0 : Int32)]) (S' := [.int (0 : Int32), .int (I 71 1)]) (σ' := (97, I, J, R)) rfl ?_
        refine az_E.br (c := (I 71 1) = (0 : Int32)) (tt := 15) (ff := 19) (L' := [.ref 71, .int (0 : Int32)]) (S' := []) (σ' := (97, I, J, R)) rfl (fun hc_74 => ?_) (fun hc_74 => ?_)
        · rw [if_pos hc_74] at h
          refine az_E.sn 2 (pc' := 20) (L' := [.ref 71, .int (0 : Int32)]) (S' := [.int (1 : Int32)]) (σ' := (97, I, J, R)) rfl ?_
          refine az_E.ret (v := some (.int (1 : Int32))) (σ' := (97, I, J, R)) rfl ?_
          show az_E az_F ex 4 86 43 [.ref 3, .retAddr 0, .int v2, .int v3, .ref 71, .retAddr 0] [.int (1 : Int32)] (97, I, J, R) _
          refine az_E.br (c := (1 : Int32) = 0) (tt := 46) (ff := 49) (L' := [.ref 3, .retAddr 0, .int v2, .int v3, .ref 71, .retAddr 0]) (S' := []) (σ' := (97, I, J, R)) rfl (fun hn => absurd hn (by decide)) (fun _ => ?_)
          refine az_E.sn 2 (pc' := 52) (L' := [.ref 3, .retAddr 0, .int v2, .int v3, .ref 71, .int (0 : Int32)]) (S' := []) (σ' := (97, I, J, R)) rfl ?_
          exact az_E.forget (L := [.ref 3, .retAddr 0, .int v2, .int v3, .ref 71, .int (0 : Int32)]) ⟨rfl, trivial, rfl, rfl, rfl, rfl, trivial⟩ (re_X_walkers_52_71 (I := I) (J := J) (R := R)  h hQ)
        · rw [if_neg hc_74] at h
          refine az_E.sn 1 (pc' := 20) (L' := [.ref 71, .int (0 : Int32)]) (S' := [.int (0 : Int32)]) (σ' := (97, I, J, R)) rfl ?_
          refine az_E.ret (v := some (.int (0 : Int32))) (σ' := (97, I, J, R)) rfl ?_
          show az_E az_F ex 4 86 43 [.ref 3, .retAddr 0, .int v2, .int v3, .ref 71, .retAddr 0] [.int (0 : Int32)] (97, I, J, R) _
          refine az_E.br (c := (0 : Int32) = 0) (tt := 46) (ff := 49) (L' := [.ref 3, .retAddr 0, .int v2, .int v3, .ref 71, .retAddr 0]) (S' := []) (σ' := (97, I, J, R)) rfl (fun _ => ?_) (fun hn => absurd (by decide) hn)
          refine az_E.sn 1 (pc' := 48) (L' := [.ref 3, .retAddr 0, .int v2, .int v3, .ref 71, .retAddr 0]) (S' := [.int (-12 : Int32)]) (σ' := (97, I, J, R)) rfl ?_
          have h := Option.some.inj h
          subst h
          exact az_E.ret (v := some (.int (-12 : Int32))) (σ' := (97, I, J, R)) rfl hQ
  · rw [if_neg hc_71] at h
    refine az_E.sn 1 (pc' := 21) (L' := [.ref 71]) (S' := [.int (0 : Int32)]) (σ' := (97, I, J, R)) rfl ?_
    refine az_E.ret (v := some (.int (0 : Int32))) (σ' := (97, I, J, R)) rfl ?_
    show az_E az_F ex 4 86 32 [.ref 3, .retAddr 0, .int v2, .int v3, .ref 71, .retAddr 0] [.int (0 : Int32)] (97, I, J, R) _
    refine az_E.br (c := (0 : Int32) = 0) (tt := 37) (ff := 35) (L' := [.ref 3, .retAddr 0, .int v2, .int v3, .ref 71, .retAddr 0]) (S' := []) (σ' := (97, I, J, R)) rfl (fun _ => ?_) (fun hn => absurd (by decide) hn)
    refine az_E.sn 2 (pc' := 40) (L' := [.ref 3, .retAddr 0, .int v2, .int v3, .ref 71, .retAddr 0]) (S' := [.int (0 : Int32), .ref 71]) (σ' := (97, I, J, R)) rfl ?_
    refine az_E.call (d := 3) (k' := 56) (vs := [.ref 71, .int (0 : Int32)]) (pc' := 43) (S' := []) rfl ?_ (fun _ _ hq => hq)
    show az_E az_F ex 3 56 0 [.ref 71, .int (0 : Int32)] [] (97, I, J, R) _
    refine az_E.sn 1 (pc' := 1) (L' := [.ref 71, .int (0 : Int32)]) (S' := [.ref 71]) (σ' := (97, I, J, R)) rfl ?_
    refine az_E.call (d := 2) (k' := 55) (vs := [.ref 71]) (pc' := 4) (S' := []) rfl ?_ (fun _ _ hq => hq)
    show az_E az_F ex 2 55 0 [.ref 71] [] (97, I, J, R) _
    refine az_E.sn 3 (pc' := 5) (L' := [.ref 71]) (S' := [.int (-1 : Int32), .int (I 71 1)]) (σ' := (97, I, J, R)) rfl ?_
    refine az_E.br (c := (I 71 1) = (-1 : Int32)) (tt := 12) (ff := 8) (L' := [.ref 71]) (S' := []) (σ' := (97, I, J, R)) rfl (fun hc_82 => ?_) (fun hc_82 => ?_)
    · rw [if_pos hc_82] at h
      refine az_E.sn 1 (pc' := 13) (L' := [.ref 71]) (S' := [.int (0 : Int32)]) (σ' := (97, I, J, R)) rfl ?_
      refine az_E.ret (v := some (.int (0 : Int32))) (σ' := (97, I, J, R)) rfl ?_
      show az_E az_F ex 3 56 4 [.ref 71, .int (0 : Int32)] [.int (0 : Int32)] (97, I, J, R) _
      refine az_E.br (c := (0 : Int32) = 0) (tt := 19) (ff := 7) (L' := [.ref 71, .int (0 : Int32)]) (S' := []) (σ' := (97, I, J, R)) rfl (fun _ => ?_) (fun hn => absurd (by decide) hn)
      refine az_E.sn 1 (pc' := 20) (L' := [.ref 71, .int (0 : Int32)]) (S' := [.int (0 : Int32)]) (σ' := (97, I, J, R)) rfl ?_
      refine az_E.ret (v := some (.int (0 : Int32))) (σ' := (97, I, J, R)) rfl ?_
      show az_E az_F ex 4 86 43 [.ref 3, .retAddr 0, .int v2, .int v3, .ref 71, .retAddr 0] [.int (0 : Int32)] (97, I, J, R) _
      refine az_E.br (c := (0 : Int32) = 0) (tt := 46) (ff := 49) (L' := [.ref 3, .retAddr 0, .int v2, .int v3, .ref 71, .retAddr 0]) (S' := []) (σ' := (97, I, J, R)) rfl (fun _ => ?_) (fun hn => absurd (by decide) hn)
      refine az_E.sn 1 (pc' := 48) (L' := [.ref 3, .retAddr 0, .int v2, .int v3, .ref 71, .retAddr 0]) (S' := [.int (-12 : Int32)]) (σ' := (97, I, J, R)) rfl ?_
      have h := Option.some.inj h
      subst h
      exact az_E.ret (v := some (.int (-12 : Int32))) (σ' := (97, I, J, R)) rfl hQ
    · rw [if_neg hc_82] at h
      refine az_E.sn 2 (pc' := 13) (L' := [.ref 71]) (S' := [.int (1 : Int32)]) (σ' := (97, I, J, R)) rfl ?_
      refine az_E.ret (v := some (.int (1 : Int32))) (σ' := (97, I, J, R)) rfl ?_
      show az_E az_F ex 3 56 4 [.ref 71, .int (0 : Int32)] [.int (1 : Int32)] (97, I, J, R) _
      refine az_E.br (c := (1 : Int32) = 0) (tt := 19) (ff := 7) (L' := [.ref 71, .int (0 : Int32)]) (S' := []) (σ' := (97, I, J, R)) rfl (fun hn => absurd hn (by decide)) (fun _ => ?_)
      refine az_E.sn 3 (pc' := 12) (L' := [.ref 71, .int (0 : Int32)]) (S' := [.int (0 : Int32), .int (I 71 1)]) (σ' := (97, I, J, R)) rfl ?_
      refine az_E.br (c := (I 71 1) = (0 : Int32)) (tt := 15) (ff := 19) (L' := [.ref 71, .int (0 : Int32)]) (S' := []) (σ' := (97, I, J, R)) rfl (fun hc_83 => ?_) (fun hc_83 => ?_)
      · rw [if_pos hc_83] at h
        refine az_E.sn 2 (pc' := 20) (L' := [.ref 71, .int (0 : Int32)]) (S' := [.int (1 : Int32)]) (σ' := (97, I, J, R)) rfl ?_
        refine az_E.ret (v := some (.int (1 : Int32))) (σ' := (97, I, J, R)) rfl ?_
        show az_E az_F ex 4 86 43 [.ref 3, .retAddr 0, .int v2, .int v3, .ref 71, .retAddr 0] [.int (1 : Int32)] (97, I, J, R) _
        refine az_E.br (c := (1 : Int32) = 0) (tt := 46) (ff := 49) (L' := [.ref 3, .retAddr 0, .int v2, .int v3, .ref 71, .retAddr 0]) (S' := []) (σ' := (97, I, J, R)) rfl (fun hn => absurd hn (by decide)) (fun _ => ?_)
        refine az_E.sn 2 (pc' := 52) (L' := [.ref 3, .retAddr 0, .int v2, .int v3, .ref 71, .int (0 : Int32)]) (S' := []) (σ' := (97, I, J, R)) rfl ?_
        exact az_E.forget (L := [.ref 3, .retAddr 0, .int v2, .int v3, .ref 71, .int (0 : Int32)]) ⟨rfl, trivial, rfl, rfl, rfl, rfl, trivial⟩ (re_X_walkers_52_71 (I := I) (J := J) (R := R)  h hQ)
      · rw [if_neg hc_83] at h
        refine az_E.sn 1 (pc' := 20) (L' := [.ref 71, .int (0 : Int32)]) (S' := [.int (0 : Int32)]) (σ' := (97, I, J, R)) rfl ?_
        refine az_E.ret (v := some (.int (0 : Int32))) (σ' := (97, I, J, R)) rfl ?_
        show az_E az_F ex 4 86 43 [.ref 3, .retAddr 0, .int v2, .int v3, .ref 71, .retAddr 0] [.int (0 : Int32)] (97, I, J, R) _
        refine az_E.br (c := (0 : Int32) = 0) (tt := 46) (ff := 49) (L' := [.ref 3, .retAddr 0, .int v2, .int v3, .ref 71, .retAddr 0]) (S' := []) (σ' := (97, I, J, R)) rfl (fun _ => ?_) (fun hn => absurd (by decide) hn)
        refine az_E.sn 1 (pc' := 48) (L' := [.ref 3, .retAddr 0, .int v2, .int v3, .ref 71, .retAddr 0]) (S' := [.int (-12 : Int32)]) (σ' := (97, I, J, R)) rfl ?_
        have h := Option.some.inj h
        subst h
        exact az_E.ret (v := some (.int (-12 : Int32))) (σ' := (97, I, J, R)) rfl hQ
set_option maxRecDepth 100000 in
set_option maxHeartbeats 4000000 in
theorem re_X_walkers {ex : az_X} {I : Nat → Nat → Int32} {J : Nat → Nat → Int64} {R : Nat → Nat → Option Nat} {a1 : Int32} {a2 : Int32} {a3 : Int32} {o : Int32 × (Nat → Nat → Int32)} (h : rs_X_walkers I J a1 a2 a3 = some o) {Q : Option Value → az_S → Prop} (hQ : Q (some (.int o.1)) (97, o.2, J, R)) : az_E az_F ex 4 86 0 [.ref 3, .int a1, .int a2, .int a3, .retAddr 0, .retAddr 0] [] (97, I, J, R) Q := by
  unfold rs_X_walkers at h
  refine az_E.sn 1 (pc' := 1) (L' := [.ref 3, .int a1, .int a2, .int a3, .retAddr 0, .retAddr 0]) (S' := [.int a1]) (σ' := (97, I, J, R)) rfl ?_
  refine az_E.call (d := 3) (k' := 137) (vs := [.int a1]) (pc' := 4) (S' := []) rfl ?_ (fun _ _ hq => hq)
  show az_E az_F ex 3 137 0 [.int a1] [] (97, I, J, R) _
  refine az_E.sn 3 (pc' := 3) (L' := [.int a1]) (S' := [.int (5 : Int32), .int (0 : Int32), .int a1]) (σ' := (97, I, J, R)) rfl ?_
  refine az_E.call (d := 2) (k' := 131) (vs := [.int a1, .int (0 : Int32), .int (5 : Int32)]) (pc' := 6) (S' := []) rfl ?_ (fun _ _ hq => hq)
  show az_E az_F ex 2 131 0 [.int a1, .int (0 : Int32), .int (5 : Int32)] [] (97, I, J, R) _
  refine az_E.sn 2 (pc' := 2) (L' := [.int a1, .int (0 : Int32), .int (5 : Int32)]) (S' := [.int (0 : Int32), .int a1]) (σ' := (97, I, J, R)) rfl ?_
  refine az_E.br (c := a1 < (0 : Int32)) (tt := 14) (ff := 5) (L' := [.int a1, .int (0 : Int32), .int (5 : Int32)]) (S' := []) (σ' := (97, I, J, R)) rfl (fun hc_1 => ?_) (fun hc_1 => ?_)
  · rw [if_pos hc_1] at h
    refine az_E.sn 1 (pc' := 15) (L' := [.int a1, .int (0 : Int32), .int (5 : Int32)]) (S' := [.int (0 : Int32)]) (σ' := (97, I, J, R)) rfl ?_
    refine az_E.ret (v := some (.int (0 : Int32))) (σ' := (97, I, J, R)) rfl ?_
    show az_E az_F ex 3 137 6 [.int a1] [.int (0 : Int32)] (97, I, J, R) _
    refine az_E.ret (v := some (.int (0 : Int32))) (σ' := (97, I, J, R)) rfl ?_
    show az_E az_F ex 4 86 4 [.ref 3, .int a1, .int a2, .int a3, .retAddr 0, .retAddr 0] [.int (0 : Int32)] (97, I, J, R) _
    refine az_E.br (c := (0 : Int32) = 0) (tt := 17) (ff := 7) (L' := [.ref 3, .int a1, .int a2, .int a3, .retAddr 0, .retAddr 0]) (S' := []) (σ' := (97, I, J, R)) rfl (fun _ => ?_) (fun hn => absurd (by decide) hn)
    refine az_E.sn 1 (pc' := 18) (L' := [.ref 3, .int a1, .int a2, .int a3, .retAddr 0, .retAddr 0]) (S' := [.int (-1 : Int32)]) (σ' := (97, I, J, R)) rfl ?_
    have h := Option.some.inj h
    subst h
    exact az_E.ret (v := some (.int (-1 : Int32))) (σ' := (97, I, J, R)) rfl hQ
  · rw [if_neg hc_1] at h
    refine az_E.sn 2 (pc' := 7) (L' := [.int a1, .int (0 : Int32), .int (5 : Int32)]) (S' := [.int (5 : Int32), .int a1]) (σ' := (97, I, J, R)) rfl ?_
    refine az_E.br (c := (5 : Int32) < a1) (tt := 14) (ff := 10) (L' := [.int a1, .int (0 : Int32), .int (5 : Int32)]) (S' := []) (σ' := (97, I, J, R)) rfl (fun hc_2 => ?_) (fun hc_2 => ?_)
    · rw [if_pos hc_2] at h
      refine az_E.sn 1 (pc' := 15) (L' := [.int a1, .int (0 : Int32), .int (5 : Int32)]) (S' := [.int (0 : Int32)]) (σ' := (97, I, J, R)) rfl ?_
      refine az_E.ret (v := some (.int (0 : Int32))) (σ' := (97, I, J, R)) rfl ?_
      show az_E az_F ex 3 137 6 [.int a1] [.int (0 : Int32)] (97, I, J, R) _
      refine az_E.ret (v := some (.int (0 : Int32))) (σ' := (97, I, J, R)) rfl ?_
      show az_E az_F ex 4 86 4 [.ref 3, .int a1, .int a2, .int a3, .retAddr 0, .retAddr 0] [.int (0 : Int32)] (97, I, J, R) _
      refine az_E.br (c := (0 : Int32) = 0) (tt := 17) (ff := 7) (L' := [.ref 3, .int a1, .int a2, .int a3, .retAddr 0, .retAddr 0]) (S' := []) (σ' := (97, I, J, R)) rfl (fun _ => ?_) (fun hn => absurd (by decide) hn)
      refine az_E.sn 1 (pc' := 18) (L' := [.ref 3, .int a1, .int a2, .int a3, .retAddr 0, .retAddr 0]) (S' := [.int (-1 : Int32)]) (σ' := (97, I, J, R)) rfl ?_
      have h := Option.some.inj h
      subst h
      exact az_E.ret (v := some (.int (-1 : Int32))) (σ' := (97, I, J, R)) rfl hQ
    · rw [if_neg hc_2] at h
      refine az_E.sn 2 (pc' := 15) (L' := [.int a1, .int (0 : Int32), .int (5 : Int32)]) (S' := [.int (1 : Int32)]) (σ' := (97, I, J, R)) rfl ?_
      refine az_E.ret (v := some (.int (1 : Int32))) (σ' := (97, I, J, R)) rfl ?_
      show az_E az_F ex 3 137 6 [.int a1] [.int (1 : Int32)] (97, I, J, R) _
      refine az_E.ret (v := some (.int (1 : Int32))) (σ' := (97, I, J, R)) rfl ?_
      show az_E az_F ex 4 86 4 [.ref 3, .int a1, .int a2, .int a3, .retAddr 0, .retAddr 0] [.int (1 : Int32)] (97, I, J, R) _
      refine az_E.br (c := (1 : Int32) = 0) (tt := 17) (ff := 7) (L' := [.ref 3, .int a1, .int a2, .int a3, .retAddr 0, .retAddr 0]) (S' := []) (σ' := (97, I, J, R)) rfl (fun hn => absurd hn (by decide)) (fun _ => ?_)
      refine az_E.sn 3 (pc' := 11) (L' := [.ref 3, .int a1, .int a2, .int a3, .retAddr 0, .retAddr 0]) (S' := [.int (6 : Int32), .int (1 : Int32), .int a3]) (σ' := (97, I, J, R)) rfl ?_
      refine az_E.call (d := 3) (k' := 131) (vs := [.int a3, .int (1 : Int32), .int (6 : Int32)]) (pc' := 14) (S' := []) rfl ?_ (fun _ _ hq => hq)
      show az_E az_F ex 3 131 0 [.int a3, .int (1 : Int32), .int (6 : Int32)] [] (97, I, J, R) _
      refine az_E.sn 2 (pc' := 2) (L' := [.int a3, .int (1 : Int32), .int (6 : Int32)]) (S' := [.int (1 : Int32), .int a3]) (σ' := (97, I, J, R)) rfl ?_
      refine az_E.br (c := a3 < (1 : Int32)) (tt := 14) (ff := 5) (L' := [.int a3, .int (1 : Int32), .int (6 : Int32)]) (S' := []) (σ' := (97, I, J, R)) rfl (fun hc_3 => ?_) (fun hc_3 => ?_)
      · rw [if_pos hc_3] at h
        refine az_E.sn 1 (pc' := 15) (L' := [.int a3, .int (1 : Int32), .int (6 : Int32)]) (S' := [.int (0 : Int32)]) (σ' := (97, I, J, R)) rfl ?_
        refine az_E.ret (v := some (.int (0 : Int32))) (σ' := (97, I, J, R)) rfl ?_
        show az_E az_F ex 4 86 14 [.ref 3, .int a1, .int a2, .int a3, .retAddr 0, .retAddr 0] [.int (0 : Int32)] (97, I, J, R) _
        refine az_E.br (c := (0 : Int32) = 0) (tt := 17) (ff := 19) (L' := [.ref 3, .int a1, .int a2, .int a3, .retAddr 0, .retAddr 0]) (S' := []) (σ' := (97, I, J, R)) rfl (fun _ => ?_) (fun hn => absurd (by decide) hn)
        refine az_E.sn 1 (pc' := 18) (L' := [.ref 3, .int a1, .int a2, .int a3, .retAddr 0, .retAddr 0]) (S' := [.int (-1 : Int32)]) (σ' := (97, I, J, R)) rfl ?_
        have h := Option.some.inj h
        subst h
        exact az_E.ret (v := some (.int (-1 : Int32))) (σ' := (97, I, J, R)) rfl hQ
      · rw [if_neg hc_3] at h
        refine az_E.sn 2 (pc' := 7) (L' := [.int a3, .int (1 : Int32), .int (6 : Int32)]) (S' := [.int (6 : Int32), .int a3]) (σ' := (97, I, J, R)) rfl ?_
        refine az_E.br (c := (6 : Int32) < a3) (tt := 14) (ff := 10) (L' := [.int a3, .int (1 : Int32), .int (6 : Int32)]) (S' := []) (σ' := (97, I, J, R)) rfl (fun hc_4 => ?_) (fun hc_4 => ?_)
        · rw [if_pos hc_4] at h
          refine az_E.sn 1 (pc' := 15) (L' := [.int a3, .int (1 : Int32), .int (6 : Int32)]) (S' := [.int (0 : Int32)]) (σ' := (97, I, J, R)) rfl ?_
          refine az_E.ret (v := some (.int (0 : Int32))) (σ' := (97, I, J, R)) rfl ?_
          show az_E az_F ex 4 86 14 [.ref 3, .int a1, .int a2, .int a3, .retAddr 0, .retAddr 0] [.int (0 : Int32)] (97, I, J, R) _
          refine az_E.br (c := (0 : Int32) = 0) (tt := 17) (ff := 19) (L' := [.ref 3, .int a1, .int a2, .int a3, .retAddr 0, .retAddr 0]) (S' := []) (σ' := (97, I, J, R)) rfl (fun _ => ?_) (fun hn => absurd (by decide) hn)
          refine az_E.sn 1 (pc' := 18) (L' := [.ref 3, .int a1, .int a2, .int a3, .retAddr 0, .retAddr 0]) (S' := [.int (-1 : Int32)]) (σ' := (97, I, J, R)) rfl ?_
          have h := Option.some.inj h
          subst h
          exact az_E.ret (v := some (.int (-1 : Int32))) (σ' := (97, I, J, R)) rfl hQ
        · rw [if_neg hc_4] at h
          refine az_E.sn 2 (pc' := 15) (L' := [.int a3, .int (1 : Int32), .int (6 : Int32)]) (S' := [.int (1 : Int32)]) (σ' := (97, I, J, R)) rfl ?_
          refine az_E.ret (v := some (.int (1 : Int32))) (σ' := (97, I, J, R)) rfl ?_
          show az_E az_F ex 4 86 14 [.ref 3, .int a1, .int a2, .int a3, .retAddr 0, .retAddr 0] [.int (1 : Int32)] (97, I, J, R) _
          refine az_E.br (c := (1 : Int32) = 0) (tt := 17) (ff := 19) (L' := [.ref 3, .int a1, .int a2, .int a3, .retAddr 0, .retAddr 0]) (S' := []) (σ' := (97, I, J, R)) rfl (fun hn => absurd hn (by decide)) (fun _ => ?_)
          refine az_E.sn 3 (pc' := 24) (L' := [.ref 3, .int a1, .int a2, .int a3, .retAddr 0, .retAddr 0]) (S' := [.int a1, .ref 58]) (σ' := (97, I, J, R)) rfl ?_
          by_cases hc_5 : a1 < 0 ∨ 6 ≤ a1.toNatClampNeg
          · rw [if_pos hc_5] at h; cases h
          · rw [if_neg hc_5] at h
            rcases az_six hc_5 with ehc_5 | ehc_5 | ehc_5 | ehc_5 | ehc_5 | ehc_5
            · subst ehc_5
              refine az_E.ov (pc' := 25) (L' := [.ref 3, .int (0 : Int32), .int a2, .int a3, .retAddr 0, .retAddr 0]) (S' := []) (σ' := (97, I, J, R)) (x := .ref 61) (o := az_aa az_F (97, I, J, R) 58 (0 : Int32)) rfl rfl ?_
              exact az_E.forget (L := [.ref 3, .retAddr 0, .int a2, .int a3, .retAddr 0, .retAddr 0]) ⟨rfl, trivial, rfl, rfl, trivial, trivial, trivial⟩ (re_X_walkers_25_61 (I := I) (J := J) (R := R)  h hQ)
            · subst ehc_5
              refine az_E.ov (pc' := 25) (L' := [.ref 3, .int (1 : Int32), .int a2, .int a3, .retAddr 0, .retAddr 0]) (S' := []) (σ' := (97, I, J, R)) (x := .ref 63) (o := az_aa az_F (97, I, J, R) 58 (1 : Int32)) rfl rfl ?_
              exact az_E.forget (L := [.ref 3, .retAddr 0, .int a2, .int a3, .retAddr 0, .retAddr 0]) ⟨rfl, trivial, rfl, rfl, trivial, trivial, trivial⟩ (re_X_walkers_25_63 (I := I) (J := J) (R := R)  h hQ)
            · subst ehc_5
              refine az_E.ov (pc' := 25) (L' := [.ref 3, .int (2 : Int32), .int a2, .int a3, .retAddr 0, .retAddr 0]) (S' := []) (σ' := (97, I, J, R)) (x := .ref 65) (o := az_aa az_F (97, I, J, R) 58 (2 : Int32)) rfl rfl ?_
              exact az_E.forget (L := [.ref 3, .retAddr 0, .int a2, .int a3, .retAddr 0, .retAddr 0]) ⟨rfl, trivial, rfl, rfl, trivial, trivial, trivial⟩ (re_X_walkers_25_65 (I := I) (J := J) (R := R)  h hQ)
            · subst ehc_5
              refine az_E.ov (pc' := 25) (L' := [.ref 3, .int (3 : Int32), .int a2, .int a3, .retAddr 0, .retAddr 0]) (S' := []) (σ' := (97, I, J, R)) (x := .ref 67) (o := az_aa az_F (97, I, J, R) 58 (3 : Int32)) rfl rfl ?_
              exact az_E.forget (L := [.ref 3, .retAddr 0, .int a2, .int a3, .retAddr 0, .retAddr 0]) ⟨rfl, trivial, rfl, rfl, trivial, trivial, trivial⟩ (re_X_walkers_25_67 (I := I) (J := J) (R := R)  h hQ)
            · subst ehc_5
              refine az_E.ov (pc' := 25) (L' := [.ref 3, .int (4 : Int32), .int a2, .int a3, .retAddr 0, .retAddr 0]) (S' := []) (σ' := (97, I, J, R)) (x := .ref 69) (o := az_aa az_F (97, I, J, R) 58 (4 : Int32)) rfl rfl ?_
              exact az_E.forget (L := [.ref 3, .retAddr 0, .int a2, .int a3, .retAddr 0, .retAddr 0]) ⟨rfl, trivial, rfl, rfl, trivial, trivial, trivial⟩ (re_X_walkers_25_69 (I := I) (J := J) (R := R)  h hQ)
            · subst ehc_5
              refine az_E.ov (pc' := 25) (L' := [.ref 3, .int (5 : Int32), .int a2, .int a3, .retAddr 0, .retAddr 0]) (S' := []) (σ' := (97, I, J, R)) (x := .ref 71) (o := az_aa az_F (97, I, J, R) 58 (5 : Int32)) rfl rfl ?_
              exact az_E.forget (L := [.ref 3, .retAddr 0, .int a2, .int a3, .retAddr 0, .retAddr 0]) ⟨rfl, trivial, rfl, rfl, trivial, trivial, trivial⟩ (re_X_walkers_25_71 (I := I) (J := J) (R := R)  h hQ)
set_option maxRecDepth 100000 in
set_option maxHeartbeats 4000000 in
theorem re_M_walkers_167 {ex : az_X} {I : Nat → Nat → Int32} {J : Nat → Nat → Int64} {R : Nat → Nat → Option Nat} {v1 : Int32} {v2 : Int32} {v3 : Int32} {v4 : Int32} {v6 : Int32} {s0 : Int32} {x : ((Int32 × Int32 × (Nat → Nat → Int32)) ⊕ (Int32 × (Nat → Nat → Int32)))} (h : rs_M_walkers_167 I J v1 v2 v3 v4 v6 s0 = some x) {Q : Option Value → az_S → Prop} (hQ : Sum.elim (fun s => az_E az_F ex 2 170 69 [.ref 73, .int v1, .int v2, .int v3, .int s.1, .int s.2.1, .retAddr 0] [] (97, s.2.2, J, R) Q) (fun x => Q (some (.int x.1)) (97, x.2, J, R)) x) : az_E az_F ex 2 170 167 [.ref 73, .int v1, .int v2, .int v3, .int v4, .retAddr 0, .int v6] [.int s0] (97, I, J, R) Q := by
  unfold rs_M_walkers_167 at h
  refine az_E.sn 2 (pc' := 171) (L' := [.ref 73, .int v1, .int v2, .int v3, .int v4, .int s0, .int v6]) (S' := [.int s0]) (σ' := (97, I, J, R)) rfl ?_
  refine az_E.br (c := s0 = 0) (tt := 209) (ff := 174) (L' := [.ref 73, .int v1, .int v2, .int v3, .int v4, .int s0, .int v6]) (S' := []) (σ' := (97, I, J, R)) rfl (fun hc_15 => ?_) (fun hc_15 => ?_)
  · rw [if_pos hc_15] at h
    refine az_E.sn 1 (pc' := 69) (L' := [.ref 73, .int v1, .int v2, .int v3, .int v4, .int s0, .int v6]) (S' := []) (σ' := (97, I, J, R)) rfl ?_
    have h := Option.some.inj h
    subst h
    exact az_E.forget (L := [.ref 73, .int v1, .int v2, .int v3, .int v4, .int s0, .retAddr 0]) ⟨rfl, rfl, rfl, rfl, rfl, rfl, trivial, trivial⟩ hQ
  · rw [if_neg hc_15] at h
    refine az_E.sn 4 (pc' := 181) (L' := [.ref 73, .int v1, .int v2, .int v3, .int v4, .int s0, .int v6]) (S' := [.int v6, .ref 98, .ref 73]) (σ' := (97, I, J, R)) rfl ?_
    by_cases hc_16 : v6 < 0 ∨ 360 ≤ v6.toNatClampNeg
    · rw [if_pos hc_16] at h; cases h
    · rw [if_neg hc_16] at h
      refine az_E.ol (o := az_al az_F (97, I, J, R) 98 v6) (pc' := 182) (L' := [.ref 73, .int v1, .int v2, .int v3, .int v4, .int s0, .int v6]) (S' := [.ref 73]) (σ' := (97, I, J, R)) (x := (J 98 v6.toNatClampNeg)) rfl (if_neg hc_16) ?_
      refine az_E.sn 6 (pc' := 191) (L' := [.ref 73, .int v1, .int v2, .int v3, .int v4, .int s0, .int v6]) (S' := [.int (v6 + (1 : Int32)), .ref 98, .int (J 98 v6.toNatClampNeg).toInt32, .ref 73]) (σ' := (97, I, J, R)) rfl ?_
      by_cases hc_17 : (v6 + (1 : Int32)) < 0 ∨ 360 ≤ (v6 + (1 : Int32)).toNatClampNeg
      · rw [if_pos hc_17] at h; cases h
      · rw [if_neg hc_17] at h
        refine az_E.ol (o := az_al az_F (97, I, J, R) 98 (v6 + (1 : Int32))) (pc' := 192) (L' := [.ref 73, .int v1, .int v2, .int v3, .int v4, .int s0, .int v6]) (S' := [.int (J 98 v6.toNatClampNeg).toInt32, .ref 73]) (σ' := (97, I, J, R)) (x := (J 98 (v6 + (1 : Int32)).toNatClampNeg)) rfl (if_neg hc_17) ?_
        refine az_E.sn 6 (pc' := 201) (L' := [.ref 73, .int v1, .int v2, .int v3, .int v4, .int s0, .int v6]) (S' := [.int (v6 + (2 : Int32)), .ref 98, .int (J 98 (v6 + (1 : Int32)).toNatClampNeg).toInt32, .int (J 98 v6.toNatClampNeg).toInt32, .ref 73]) (σ' := (97, I, J, R)) rfl ?_
        by_cases hc_18 : (v6 + (2 : Int32)) < 0 ∨ 360 ≤ (v6 + (2 : Int32)).toNatClampNeg
        · rw [if_pos hc_18] at h; cases h
        · rw [if_neg hc_18] at h
          refine az_E.ol (o := az_al az_F (97, I, J, R) 98 (v6 + (2 : Int32))) (pc' := 202) (L' := [.ref 73, .int v1, .int v2, .int v3, .int v4, .int s0, .int v6]) (S' := [.int (J 98 (v6 + (1 : Int32)).toNatClampNeg).toInt32, .int (J 98 v6.toNatClampNeg).toInt32, .ref 73]) (σ' := (97, I, J, R)) (x := (J 98 (v6 + (2 : Int32)).toNatClampNeg)) rfl (if_neg hc_18) ?_
          refine az_E.sn 1 (pc' := 203) (L' := [.ref 73, .int v1, .int v2, .int v3, .int v4, .int s0, .int v6]) (S' := [.int (J 98 (v6 + (2 : Int32)).toNatClampNeg).toInt32, .int (J 98 (v6 + (1 : Int32)).toNatClampNeg).toInt32, .int (J 98 v6.toNatClampNeg).toInt32, .ref 73]) (σ' := (97, I, J, R)) rfl ?_
          cases hx_20 : rs_M_adds I (J 98 v6.toNatClampNeg).toInt32 (J 98 (v6 + (1 : Int32)).toNatClampNeg).toInt32 (J 98 (v6 + (2 : Int32)).toNatClampNeg).toInt32 with
          | none => rw [hx_20] at h; cases h
          | some I_19 =>
            rw [hx_20] at h
            dsimp only at h
            refine az_E.call (d := 1) (k' := 168) (vs := [.ref 73, .int (J 98 v6.toNatClampNeg).toInt32, .int (J 98 (v6 + (1 : Int32)).toNatClampNeg).toInt32, .int (J 98 (v6 + (2 : Int32)).toNatClampNeg).toInt32]) (pc' := 206) (S' := []) (Q1 := fun v s => v = none ∧ s = (97, I_19, J, R)) rfl (az_E.deep (by omega) (re_M_adds (J := J) (R := R)  hx_20 ⟨rfl, rfl⟩)) (fun v s hq => ?_)
            obtain ⟨rfl, rfl⟩ := hq
            show az_E az_F ex 2 170 206 [.ref 73, .int v1, .int v2, .int v3, .int v4, .int s0, .int v6] [] (97, I_19, J, R) _
            refine az_E.sn 2 (pc' := 69) (L' := [.ref 73, .int v1, .int v2, .int v3, .int (v4 + (1 : Int32)), .int s0, .int v6]) (S' := []) (σ' := (97, I_19, J, R)) rfl ?_
            have h := Option.some.inj h
            subst h
            exact az_E.forget (L := [.ref 73, .int v1, .int v2, .int v3, .int (v4 + (1 : Int32)), .int s0, .retAddr 0]) ⟨rfl, rfl, rfl, rfl, rfl, rfl, trivial, trivial⟩ hQ
set_option maxRecDepth 100000 in
set_option maxHeartbeats 4000000 in
theorem re_M_walkers_166 {ex : az_X} {I : Nat → Nat → Int32} {J : Nat → Nat → Int64} {R : Nat → Nat → Option Nat} {v1 : Int32} {v2 : Int32} {v3 : Int32} {v4 : Int32} {v6 : Int32} {x : ((Int32 × Int32 × (Nat → Nat → Int32)) ⊕ (Int32 × (Nat → Nat → Int32)))} (h : rs_M_walkers_166 I J v1 v2 v3 v4 v6 = some x) {Q : Option Value → az_S → Prop} (hQ : Sum.elim (fun s => az_E az_F ex 2 170 69 [.ref 73, .int v1, .int v2, .int v3, .int s.1, .int s.2.1, .retAddr 0] [] (97, s.2.2, J, R) Q) (fun x => Q (some (.int x.1)) (97, x.2, J, R)) x) : az_E az_F ex 2 170 166 [.ref 73, .int v1, .int v2, .int v3, .int v4, .retAddr 0, .int v6] [] (97, I, J, R) Q := by
  unfold rs_M_walkers_166 at h
  refine az_E.sn 1 (pc' := 167) (L' := [.ref 73, .int v1, .int v2, .int v3, .int v4, .retAddr 0, .int v6]) (S' := [.int (0 : Int32)]) (σ' := (97, I, J, R)) rfl ?_
  exact az_E.forget (L := [.ref 73, .int v1, .int v2, .int v3, .int v4, .retAddr 0, .int v6]) ⟨rfl, rfl, rfl, rfl, rfl, trivial, rfl, trivial⟩ (re_M_walkers_167 (I := I) (J := J) (R := R)  h hQ)
set_option maxRecDepth 100000 in
set_option maxHeartbeats 4000000 in
theorem re_M_walkers_111 {ex : az_X} {I : Nat → Nat → Int32} {J : Nat → Nat → Int64} {R : Nat → Nat → Option Nat} {v1 : Int32} {v2 : Int32} {v3 : Int32} {v4 : Int32} {s0 : Int32} {x : ((Int32 × Int32 × (Nat → Nat → Int32)) ⊕ (Int32 × (Nat → Nat → Int32)))} (h : rs_M_walkers_111 I J v1 v2 v3 v4 s0 = some x) {Q : Option Value → az_S → Prop} (hQ : Sum.elim (fun s => az_E az_F ex 2 170 69 [.ref 73, .int v1, .int v2, .int v3, .int s.1, .int s.2.1, .retAddr 0] [] (97, s.2.2, J, R) Q) (fun x => Q (some (.int x.1)) (97, x.2, J, R)) x) : az_E az_F ex 2 170 111 [.ref 73, .int v1, .int v2, .int v3, .int v4, .retAddr 0, .retAddr 0] [.int s0] (97, I, J, R) Q := by
  unfold rs_M_walkers_111 at h
  refine az_E.sn 12 (pc' := 128) (L' := [.ref 73, .int v1, .int v2, .int v3, .int v4, .int s0, .int ((((60 : Int32) * v1) + v2) + ((3 : Int32) * v4))]) (S' := [.int s0]) (σ' := (97, I, J, R)) rfl ?_
  refine az_E.br (c := s0 = 0) (tt := 166) (ff := 131) (L' := [.ref 73, .int v1, .int v2, .int v3, .int v4, .int s0, .int ((((60 : Int32) * v1) + v2) + ((3 : Int32) * v4))]) (S' := []) (σ' := (97, I, J, R)) rfl (fun hc_14 => ?_) (fun hc_14 => ?_)
  · rw [if_pos hc_14] at h
    exact az_E.forget (L := [.ref 73, .int v1, .int v2, .int v3, .int v4, .retAddr 0, .int ((((60 : Int32) * v1) + v2) + ((3 : Int32) * v4))]) ⟨rfl, rfl, rfl, rfl, rfl, trivial, rfl, trivial⟩ (re_M_walkers_166 (I := I) (J := J) (R := R)  h hQ)
  · rw [if_neg hc_14] at h
    refine az_E.sn 3 (pc' := 137) (L' := [.ref 73, .int v1, .int v2, .int v3, .int v4, .int s0, .int ((((60 : Int32) * v1) + v2) + ((3 : Int32) * v4))]) (S' := [.int ((((60 : Int32) * v1) + v2) + ((3 : Int32) * v4)), .ref 98]) (σ' := (97, I, J, R)) rfl ?_
    by_cases hc_21 : ((((60 : Int32) * v1) + v2) + ((3 : Int32) * v4)) < 0 ∨ 360 ≤ ((((60 : Int32) * v1) + v2) + ((3 : Int32) * v4)).toNatClampNeg
    · rw [if_pos hc_21] at h; cases h
    · rw [if_neg hc_21] at h
      refine az_E.ol (o := az_al az_F (97, I, J, R) 98 ((((60 : Int32) * v1) + v2) + ((3 : Int32) * v4))) (pc' := 138) (L' := [.ref 73, .int v1, .int v2, .int v3, .int v4, .int s0, .int ((((60 : Int32) * v1) + v2) + ((3 : Int32) * v4))]) (S' := []) (σ' := (97, I, J, R)) (x := (J 98 ((((60 : Int32) * v1) + v2) + ((3 : Int32) * v4)).toNatClampNeg)) rfl (if_neg hc_21) ?_
      refine az_E.sn 5 (pc' := 146) (L' := [.ref 73, .int v1, .int v2, .int v3, .int v4, .int s0, .int ((((60 : Int32) * v1) + v2) + ((3 : Int32) * v4))]) (S' := [.int (((((60 : Int32) * v1) + v2) + ((3 : Int32) * v4)) + (1 : Int32)), .ref 98, .long (J 98 ((((60 : Int32) * v1) + v2) + ((3 : Int32) * v4)).toNatClampNeg)]) (σ' := (97, I, J, R)) rfl ?_
      by_cases hc_22 : (((((60 : Int32) * v1) + v2) + ((3 : Int32) * v4)) + (1 : Int32)) < 0 ∨ 360 ≤ (((((60 : Int32) * v1) + v2) + ((3 : Int32) * v4)) + (1 : Int32)).toNatClampNeg
      · rw [if_pos hc_22] at h; cases h
      · rw [if_neg hc_22] at h
        refine az_E.ol (o := az_al az_F (97, I, J, R) 98 (((((60 : Int32) * v1) + v2) + ((3 : Int32) * v4)) + (1 : Int32))) (pc' := 147) (L' := [.ref 73, .int v1, .int v2, .int v3, .int v4, .int s0, .int ((((60 : Int32) * v1) + v2) + ((3 : Int32) * v4))]) (S' := [.long (J 98 ((((60 : Int32) * v1) + v2) + ((3 : Int32) * v4)).toNatClampNeg)]) (σ' := (97, I, J, R)) (x := (J 98 (((((60 : Int32) * v1) + v2) + ((3 : Int32) * v4)) + (1 : Int32)).toNatClampNeg)) rfl (if_neg hc_22) ?_
        refine az_E.sn 5 (pc' := 155) (L' := [.ref 73, .int v1, .int v2, .int v3, .int v4, .int s0, .int ((((60 : Int32) * v1) + v2) + ((3 : Int32) * v4))]) (S' := [.int (((((60 : Int32) * v1) + v2) + ((3 : Int32) * v4)) + (2 : Int32)), .ref 98, .long (J 98 (((((60 : Int32) * v1) + v2) + ((3 : Int32) * v4)) + (1 : Int32)).toNatClampNeg), .long (J 98 ((((60 : Int32) * v1) + v2) + ((3 : Int32) * v4)).toNatClampNeg)]) (σ' := (97, I, J, R)) rfl ?_
        by_cases hc_23 : (((((60 : Int32) * v1) + v2) + ((3 : Int32) * v4)) + (2 : Int32)) < 0 ∨ 360 ≤ (((((60 : Int32) * v1) + v2) + ((3 : Int32) * v4)) + (2 : Int32)).toNatClampNeg
        · rw [if_pos hc_23] at h; cases h
        · rw [if_neg hc_23] at h
          refine az_E.ol (o := az_al az_F (97, I, J, R) 98 (((((60 : Int32) * v1) + v2) + ((3 : Int32) * v4)) + (2 : Int32))) (pc' := 156) (L' := [.ref 73, .int v1, .int v2, .int v3, .int v4, .int s0, .int ((((60 : Int32) * v1) + v2) + ((3 : Int32) * v4))]) (S' := [.long (J 98 (((((60 : Int32) * v1) + v2) + ((3 : Int32) * v4)) + (1 : Int32)).toNatClampNeg), .long (J 98 ((((60 : Int32) * v1) + v2) + ((3 : Int32) * v4)).toNatClampNeg)]) (σ' := (97, I, J, R)) (x := (J 98 (((((60 : Int32) * v1) + v2) + ((3 : Int32) * v4)) + (2 : Int32)).toNatClampNeg)) rfl (if_neg hc_23) ?_
          cases hx_25 : rs_M_mayCome (J 98 ((((60 : Int32) * v1) + v2) + ((3 : Int32) * v4)).toNatClampNeg) (J 98 (((((60 : Int32) * v1) + v2) + ((3 : Int32) * v4)) + (1 : Int32)).toNatClampNeg) (J 98 (((((60 : Int32) * v1) + v2) + ((3 : Int32) * v4)) + (2 : Int32)).toNatClampNeg) with
          | none => rw [hx_25] at h; cases h
          | some x_24 =>
            rw [hx_25] at h
            dsimp only at h
            refine az_E.call (d := 1) (k' := 167) (vs := [.long (J 98 ((((60 : Int32) * v1) + v2) + ((3 : Int32) * v4)).toNatClampNeg), .long (J 98 (((((60 : Int32) * v1) + v2) + ((3 : Int32) * v4)) + (1 : Int32)).toNatClampNeg), .long (J 98 (((((60 : Int32) * v1) + v2) + ((3 : Int32) * v4)) + (2 : Int32)).toNatClampNeg)]) (pc' := 159) (S' := []) (Q1 := fun v s => v = some (.int x_24) ∧ s = (97, I, J, R)) rfl (az_E.deep (by omega) (re_M_mayCome (J := J) (R := R)  hx_25 ⟨rfl, rfl⟩)) (fun v s hq => ?_)
            obtain ⟨rfl, rfl⟩ := hq
            show az_E az_F ex 2 170 159 [.ref 73, .int v1, .int v2, .int v3, .int v4, .int s0, .int ((((60 : Int32) * v1) + v2) + ((3 : Int32) * v4))] [.int x_24] (97, I, J, R) _
            refine az_E.br (c := x_24 = 0) (tt := 166) (ff := 162) (L' := [.ref 73, .int v1, .int v2, .int v3, .int v4, .int s0, .int ((((60 : Int32) * v1) + v2) + ((3 : Int32) * v4))]) (S' := []) (σ' := (97, I, J, R)) rfl (fun hc_26 => ?_) (fun hc_26 => ?_)
            · rw [if_pos hc_26] at h
              exact az_E.forget (L := [.ref 73, .int v1, .int v2, .int v3, .int v4, .retAddr 0, .int ((((60 : Int32) * v1) + v2) + ((3 : Int32) * v4))]) ⟨rfl, rfl, rfl, rfl, rfl, trivial, rfl, trivial⟩ (re_M_walkers_166 (I := I) (J := J) (R := R)  h hQ)
            · rw [if_neg hc_26] at h
              refine az_E.sn 2 (pc' := 167) (L' := [.ref 73, .int v1, .int v2, .int v3, .int v4, .int s0, .int ((((60 : Int32) * v1) + v2) + ((3 : Int32) * v4))]) (S' := [.int (1 : Int32)]) (σ' := (97, I, J, R)) rfl ?_
              exact az_E.forget (L := [.ref 73, .int v1, .int v2, .int v3, .int v4, .retAddr 0, .int ((((60 : Int32) * v1) + v2) + ((3 : Int32) * v4))]) ⟨rfl, rfl, rfl, rfl, rfl, trivial, rfl, trivial⟩ (re_M_walkers_167 (I := I) (J := J) (R := R)  h hQ)
set_option maxRecDepth 100000 in
set_option maxHeartbeats 4000000 in
theorem re_M_walkers_110 {ex : az_X} {I : Nat → Nat → Int32} {J : Nat → Nat → Int64} {R : Nat → Nat → Option Nat} {v1 : Int32} {v2 : Int32} {v3 : Int32} {v4 : Int32} {x : ((Int32 × Int32 × (Nat → Nat → Int32)) ⊕ (Int32 × (Nat → Nat → Int32)))} (h : rs_M_walkers_110 I J v1 v2 v3 v4 = some x) {Q : Option Value → az_S → Prop} (hQ : Sum.elim (fun s => az_E az_F ex 2 170 69 [.ref 73, .int v1, .int v2, .int v3, .int s.1, .int s.2.1, .retAddr 0] [] (97, s.2.2, J, R) Q) (fun x => Q (some (.int x.1)) (97, x.2, J, R)) x) : az_E az_F ex 2 170 110 [.ref 73, .int v1, .int v2, .int v3, .int v4, .retAddr 0, .retAddr 0] [] (97, I, J, R) Q := by
  unfold rs_M_walkers_110 at h
  refine az_E.sn 1 (pc' := 111) (L' := [.ref 73, .int v1, .int v2, .int v3, .int v4, .retAddr 0, .retAddr 0]) (S' := [.int (0 : Int32)]) (σ' := (97, I, J, R)) rfl ?_
  exact az_E.forget (L := [.ref 73, .int v1, .int v2, .int v3, .int v4, .retAddr 0, .retAddr 0]) ⟨rfl, rfl, rfl, rfl, rfl, trivial, trivial, trivial⟩ (re_M_walkers_111 (I := I) (J := J) (R := R)  h hQ)
set_option maxRecDepth 100000 in
set_option maxHeartbeats 4000000 in
theorem re_M_walkers_69_b {ex : az_X} {I : Nat → Nat → Int32} {J : Nat → Nat → Int64} {R : Nat → Nat → Option Nat} {v1 : Int32} {v2 : Int32} {v3 : Int32} {v4 : Int32} {v5 : Int32} {x : ((Int32 × Int32 × (Nat → Nat → Int32)) ⊕ (Int32 × (Nat → Nat → Int32)))} (h : rs_M_walkers_69_b J v1 v2 v3 v4 v5 I = some x) {Q : Option Value → az_S → Prop} (hQ : Sum.elim (fun s => az_E az_F ex 2 170 69 [.ref 73, .int v1, .int v2, .int v3, .int s.1, .int s.2.1, .retAddr 0] [] (97, s.2.2, J, R) Q) (fun x => Q (some (.int x.1)) (97, x.2, J, R)) x) : az_E az_F ex 2 170 69 [.ref 73, .int v1, .int v2, .int v3, .int v4, .int v5, .retAddr 0] [] (97, I, J, R) Q := by
  unfold rs_M_walkers_69_b at h
  refine az_E.sn 1 (pc' := 71) (L' := [.ref 73, .int v1, .int v2, .int v3, .int v4, .int v5, .retAddr 0]) (S' := [.int v5]) (σ' := (97, I, J, R)) rfl ?_
  refine az_E.br (c := v5 = 0) (tt := 212) (ff := 74) (L' := [.ref 73, .int v1, .int v2, .int v3, .int v4, .int v5, .retAddr 0]) (S' := []) (σ' := (97, I, J, R)) rfl (fun hc_10 => ?_) (fun hc_10 => ?_)
  · rw [if_pos hc_10] at h
    refine az_E.sn 1 (pc' := 214) (L' := [.ref 73, .int v1, .int v2, .int v3, .int v4, .int v5, .retAddr 0]) (S' := [.int v4]) (σ' := (97, I, J, R)) rfl ?_
    have h := Option.some.inj h
    subst h
    exact az_E.ret (v := some (.int v4)) (σ' := (97, I, J, R)) rfl hQ
  · rw [if_neg hc_10] at h
    refine az_E.sn 2 (pc' := 77) (L' := [.ref 73, .int v1, .int v2, .int v3, .int v4, .int v5, .retAddr 0]) (S' := [.int v3, .int v4]) (σ' := (97, I, J, R)) rfl ?_
    refine az_E.br (c := v3 ≤ v4) (tt := 212) (ff := 80) (L' := [.ref 73, .int v1, .int v2, .int v3, .int v4, .int v5, .retAddr 0]) (S' := []) (σ' := (97, I, J, R)) rfl (fun hc_11 => ?_) (fun hc_11 => ?_)
    · rw [if_pos hc_11] at h
      refine az_E.sn 1 (pc' := 214) (L' := [.ref 73, .int v1, .int v2, .int v3, .int v4, .int v5, .retAddr 0]) (S' := [.int v4]) (σ' := (97, I, J, R)) rfl ?_
      have h := Option.some.inj h
      subst h
      exact az_E.ret (v := some (.int v4)) (σ' := (97, I, J, R)) rfl hQ
    · rw [if_neg hc_11] at h
      refine az_E.sn 4 (pc' := 86) (L' := [.ref 73, .int v1, .int v2, .int v3, .int v4, .int v5, .retAddr 0]) (S' := [.int v1, .ref 97, .int v2]) (σ' := (97, I, J, R)) rfl ?_
      by_cases hc_12 : v1 < 0 ∨ 6 ≤ v1.toNatClampNeg
      · rw [if_pos hc_12] at h; cases h
      · rw [if_neg hc_12] at h
        refine az_E.oi (o := az_ai az_F ex (97, I, J, R) 97 v1) (pc' := 87) (L' := [.ref 73, .int v1, .int v2, .int v3, .int v4, .int v5, .retAddr 0]) (S' := [.int v2]) (σ' := (97, I, J, R)) (x := (I 97 v1.toNatClampNeg)) rfl (if_neg hc_12) ?_
        refine az_E.sn 6 (pc' := 94) (L' := [.ref 73, .int v1, .int v2, .int v3, .int v4, .int v5, .retAddr 0]) (S' := [.int (((I 97 v1.toNatClampNeg) - (3 : Int32)) - ((3 : Int32) * v4)), .int v2]) (σ' := (97, I, J, R)) rfl ?_
        refine az_E.br (c := (((I 97 v1.toNatClampNeg) - (3 : Int32)) - ((3 : Int32) * v4)) < v2) (tt := 110) (ff := 97) (L' := [.ref 73, .int v1, .int v2, .int v3, .int v4, .int v5, .retAddr 0]) (S' := []) (σ' := (97, I, J, R)) rfl (fun hc_13 => ?_) (fun hc_13 => ?_)
        · rw [if_pos hc_13] at h
          exact az_E.forget (L := [.ref 73, .int v1, .int v2, .int v3, .int v4, .retAddr 0, .retAddr 0]) ⟨rfl, rfl, rfl, rfl, rfl, trivial, trivial, trivial⟩ (re_M_walkers_110 (I := I) (J := J) (R := R)  h hQ)
        · rw [if_neg hc_13] at h
          refine az_E.sn 3 (pc' := 103) (L' := [.ref 73, .int v1, .int v2, .int v3, .int v4, .int v5, .retAddr 0]) (S' := [.int (6 : Int32), .int (I 73 7)]) (σ' := (97, I, J, R)) rfl ?_
          refine az_E.br (c := (6 : Int32) ≤ (I 73 7)) (tt := 110) (ff := 106) (L' := [.ref 73, .int v1, .int v2, .int v3, .int v4, .int v5, .retAddr 0]) (S' := []) (σ' := (97, I, J, R)) rfl (fun hc_27 => ?_) (fun hc_27 => ?_)
          · rw [if_pos hc_27] at h
            exact az_E.forget (L := [.ref 73, .int v1, .int v2, .int v3, .int v4, .retAddr 0, .retAddr 0]) ⟨rfl, rfl, rfl, rfl, rfl, trivial, trivial, trivial⟩ (re_M_walkers_110 (I := I) (J := J) (R := R)  h hQ)
          · rw [if_neg hc_27] at h
            refine az_E.sn 2 (pc' := 111) (L' := [.ref 73, .int v1, .int v2, .int v3, .int v4, .int v5, .retAddr 0]) (S' := [.int (1 : Int32)]) (σ' := (97, I, J, R)) rfl ?_
            exact az_E.forget (L := [.ref 73, .int v1, .int v2, .int v3, .int v4, .retAddr 0, .retAddr 0]) ⟨rfl, rfl, rfl, rfl, rfl, trivial, trivial, trivial⟩ (re_M_walkers_111 (I := I) (J := J) (R := R)  h hQ)
set_option maxRecDepth 100000 in
set_option maxHeartbeats 4000000 in
theorem re_M_walkers_69 {ex : az_X} {I : Nat → Nat → Int32} {J : Nat → Nat → Int64} {R : Nat → Nat → Option Nat} {v1 : Int32} {v2 : Int32} {v3 : Int32} {v4 : Int32} {v5 : Int32} {x : Int32 × (Nat → Nat → Int32)} (h : rs_M_walkers_69 I J v1 v2 v3 v4 v5 = some x) {Q : Option Value → az_S → Prop} (hQ : Q (some (.int x.1)) (97, x.2, J, R)) : az_E az_F ex 2 170 69 [.ref 73, .int v1, .int v2, .int v3, .int v4, .int v5, .retAddr 0] [] (97, I, J, R) Q := by
  unfold rs_M_walkers_69 at h
  refine az_lp_E (G := fun s => az_E az_F ex 2 170 69 [.ref 73, .int v1, .int v2, .int v3, .int s.1, .int s.2.1, .retAddr 0] [] (97, s.2.2, J, R) Q) (H := fun x => Q (some (.int x.1)) (97, x.2, J, R)) (fun s o hb ho => ?_) _ _ _ h hQ
  exact re_M_walkers_69_b  hb ho
set_option maxRecDepth 100000 in
set_option maxHeartbeats 4000000 in
theorem re_M_walkers_44 {ex : az_X} {I : Nat → Nat → Int32} {J : Nat → Nat → Int64} {R : Nat → Nat → Option Nat} {v1 : Int32} {v2 : Int32} {v3 : Int32} {x : Int32 × (Nat → Nat → Int32)} (h : rs_M_walkers_44 I J v1 v2 v3 = some x) {Q : Option Value → az_S → Prop} (hQ : Q (some (.int x.1)) (97, x.2, J, R)) : az_E az_F ex 2 170 44 [.ref 73, .int v1, .int v2, .int v3, .retAddr 0, .retAddr 0, .retAddr 0] [] (97, I, J, R) Q := by
  unfold rs_M_walkers_44 at h
  refine az_E.sn 5 (pc' := 52) (L' := [.ref 73, .int v1, .int v2, .int v3, .int (0 : Int32), .retAddr 0, .retAddr 0]) (S' := [.int v1, .ref 96]) (σ' := (97, I, J, R)) rfl ?_
  by_cases hc_7 : v1 < 0 ∨ 6 ≤ v1.toNatClampNeg
  · rw [if_pos hc_7] at h; cases h
  · rw [if_neg hc_7] at h
    refine az_E.oi (o := az_ai az_F ex (97, I, J, R) 96 v1) (pc' := 53) (L' := [.ref 73, .int v1, .int v2, .int v3, .int (0 : Int32), .retAddr 0, .retAddr 0]) (S' := []) (σ' := (97, I, J, R)) (x := (I 96 v1.toNatClampNeg)) rfl (if_neg hc_7) ?_
    refine az_E.sn 1 (pc' := 55) (L' := [.ref 73, .int v1, .int v2, .int v3, .int (0 : Int32), .retAddr 0, .retAddr 0]) (S' := [.int (50 : Int32), .int (I 96 v1.toNatClampNeg)]) (σ' := (97, I, J, R)) rfl ?_
    refine az_E.br (c := (I 96 v1.toNatClampNeg) = (50 : Int32)) (tt := 58) (ff := 66) (L' := [.ref 73, .int v1, .int v2, .int v3, .int (0 : Int32), .retAddr 0, .retAddr 0]) (S' := []) (σ' := (97, I, J, R)) rfl (fun hc_8 => ?_) (fun hc_8 => ?_)
    · rw [if_pos hc_8] at h
      refine az_E.sn 1 (pc' := 59) (L' := [.ref 73, .int v1, .int v2, .int v3, .int (0 : Int32), .retAddr 0, .retAddr 0]) (S' := [.int v2]) (σ' := (97, I, J, R)) rfl ?_
      refine az_E.br (c := v2 < 0) (tt := 66) (ff := 62) (L' := [.ref 73, .int v1, .int v2, .int v3, .int (0 : Int32), .retAddr 0, .retAddr 0]) (S' := []) (σ' := (97, I, J, R)) rfl (fun hc_9 => ?_) (fun hc_9 => ?_)
      · rw [if_pos hc_9] at h
        refine az_E.sn 2 (pc' := 69) (L' := [.ref 73, .int v1, .int v2, .int v3, .int (0 : Int32), .int (0 : Int32), .retAddr 0]) (S' := []) (σ' := (97, I, J, R)) rfl ?_
        exact az_E.forget (L := [.ref 73, .int v1, .int v2, .int v3, .int (0 : Int32), .int (0 : Int32), .retAddr 0]) ⟨rfl, rfl, rfl, rfl, rfl, rfl, trivial, trivial⟩ (re_M_walkers_69 (I := I) (J := J) (R := R)  h hQ)
      · rw [if_neg hc_9] at h
        refine az_E.sn 3 (pc' := 69) (L' := [.ref 73, .int v1, .int v2, .int v3, .int (0 : Int32), .int (1 : Int32), .retAddr 0]) (S' := []) (σ' := (97, I, J, R)) rfl ?_
        exact az_E.forget (L := [.ref 73, .int v1, .int v2, .int v3, .int (0 : Int32), .int (1 : Int32), .retAddr 0]) ⟨rfl, rfl, rfl, rfl, rfl, rfl, trivial, trivial⟩ (re_M_walkers_69 (I := I) (J := J) (R := R)  h hQ)
    · rw [if_neg hc_8] at h
      refine az_E.sn 2 (pc' := 69) (L' := [.ref 73, .int v1, .int v2, .int v3, .int (0 : Int32), .int (0 : Int32), .retAddr 0]) (S' := []) (σ' := (97, I, J, R)) rfl ?_
      exact az_E.forget (L := [.ref 73, .int v1, .int v2, .int v3, .int (0 : Int32), .int (0 : Int32), .retAddr 0]) ⟨rfl, rfl, rfl, rfl, rfl, rfl, trivial, trivial⟩ (re_M_walkers_69 (I := I) (J := J) (R := R)  h hQ)
set_option maxRecDepth 100000 in
set_option maxHeartbeats 4000000 in
theorem re_M_walkers {ex : az_X} {I : Nat → Nat → Int32} {J : Nat → Nat → Int64} {R : Nat → Nat → Option Nat} {a1 : Int32} {a2 : Int32} {a3 : Int32} {o : Int32 × (Nat → Nat → Int32)} (h : rs_M_walkers I J a1 a2 a3 = some o) {Q : Option Value → az_S → Prop} (hQ : Q (some (.int o.1)) (97, o.2, J, R)) : az_E az_F ex 2 170 0 [.ref 73, .int a1, .int a2, .int a3, .retAddr 0, .retAddr 0, .retAddr 0] [] (97, I, J, R) Q := by
  unfold rs_M_walkers at h
  refine az_E.sn 1 (pc' := 1) (L' := [.ref 73, .int a1, .int a2, .int a3, .retAddr 0, .retAddr 0, .retAddr 0]) (S' := [.int a1]) (σ' := (97, I, J, R)) rfl ?_
  refine az_E.call (d := 1) (k' := 245) (vs := [.int a1]) (pc' := 4) (S' := []) rfl ?_ (fun _ _ hq => hq)
  show az_E az_F ex 1 245 0 [.int a1] [] (97, I, J, R) _
  refine az_E.sn 4 (pc' := 6) (L' := [.int a1]) (S' := [.long (5 : Int64), .long (0 : Int64), .long a1.toInt64]) (σ' := (97, I, J, R)) rfl ?_
  refine az_E.call (d := 0) (k' := 154) (vs := [.long a1.toInt64, .long (0 : Int64), .long (5 : Int64)]) (pc' := 9) (S' := []) rfl ?_ (fun _ _ hq => hq)
  show az_E az_F ex 0 154 0 [.long a1.toInt64, .retAddr 0, .long (0 : Int64), .retAddr 0, .long (5 : Int64), .retAddr 0] [] (97, I, J, R) _
  refine az_E.sn 3 (pc' := 3) (L' := [.long a1.toInt64, .retAddr 0, .long (0 : Int64), .retAddr 0, .long (5 : Int64), .retAddr 0]) (S' := [.int (lg_cmp a1.toInt64 (0 : Int64))]) (σ' := (97, I, J, R)) rfl ?_
  refine az_E.br (c := (lg_cmp a1.toInt64 (0 : Int64)) < 0) (tt := 17) (ff := 6) (L' := [.long a1.toInt64, .retAddr 0, .long (0 : Int64), .retAddr 0, .long (5 : Int64), .retAddr 0]) (S' := []) (σ' := (97, I, J, R)) rfl (fun hc_1 => ?_) (fun hc_1 => ?_)
  · rw [if_pos hc_1] at h
    refine az_E.sn 1 (pc' := 18) (L' := [.long a1.toInt64, .retAddr 0, .long (0 : Int64), .retAddr 0, .long (5 : Int64), .retAddr 0]) (S' := [.int (0 : Int32)]) (σ' := (97, I, J, R)) rfl ?_
    refine az_E.ret (v := some (.int (0 : Int32))) (σ' := (97, I, J, R)) rfl ?_
    show az_E az_F ex 1 245 9 [.int a1] [.int (0 : Int32)] (97, I, J, R) _
    refine az_E.ret (v := some (.int (0 : Int32))) (σ' := (97, I, J, R)) rfl ?_
    show az_E az_F ex 2 170 4 [.ref 73, .int a1, .int a2, .int a3, .retAddr 0, .retAddr 0, .retAddr 0] [.int (0 : Int32)] (97, I, J, R) _
    refine az_E.br (c := (0 : Int32) = 0) (tt := 19) (ff := 7) (L' := [.ref 73, .int a1, .int a2, .int a3, .retAddr 0, .retAddr 0, .retAddr 0]) (S' := []) (σ' := (97, I, J, R)) rfl (fun _ => ?_) (fun hn => absurd (by decide) hn)
    refine az_E.sn 1 (pc' := 20) (L' := [.ref 73, .int a1, .int a2, .int a3, .retAddr 0, .retAddr 0, .retAddr 0]) (S' := [.int (-1 : Int32)]) (σ' := (97, I, J, R)) rfl ?_
    have h := Option.some.inj h
    subst h
    exact az_E.ret (v := some (.int (-1 : Int32))) (σ' := (97, I, J, R)) rfl hQ
  · rw [if_neg hc_1] at h
    refine az_E.sn 3 (pc' := 10) (L' := [.long a1.toInt64, .retAddr 0, .long (0 : Int64), .retAddr 0, .long (5 : Int64), .retAddr 0]) (S' := [.int (lg_cmp a1.toInt64 (5 : Int64))]) (σ' := (97, I, J, R)) rfl ?_
    refine az_E.br (c := 0 < (lg_cmp a1.toInt64 (5 : Int64))) (tt := 17) (ff := 13) (L' := [.long a1.toInt64, .retAddr 0, .long (0 : Int64), .retAddr 0, .long (5 : Int64), .retAddr 0]) (S' := []) (σ' := (97, I, J, R)) rfl (fun hc_2 => ?_) (fun hc_2 => ?_)
    · rw [if_pos hc_2] at h
      refine az_E.sn 1 (pc' := 18) (L' := [.long a1.toInt64, .retAddr 0, .long (0 : Int64), .retAddr 0, .long (5 : Int64), .retAddr 0]) (S' := [.int (0 : Int32)]) (σ' := (97, I, J, R)) rfl ?_
      refine az_E.ret (v := some (.int (0 : Int32))) (σ' := (97, I, J, R)) rfl ?_
      show az_E az_F ex 1 245 9 [.int a1] [.int (0 : Int32)] (97, I, J, R) _
      refine az_E.ret (v := some (.int (0 : Int32))) (σ' := (97, I, J, R)) rfl ?_
      show az_E az_F ex 2 170 4 [.ref 73, .int a1, .int a2, .int a3, .retAddr 0, .retAddr 0, .retAddr 0] [.int (0 : Int32)] (97, I, J, R) _
      refine az_E.br (c := (0 : Int32) = 0) (tt := 19) (ff := 7) (L' := [.ref 73, .int a1, .int a2, .int a3, .retAddr 0, .retAddr 0, .retAddr 0]) (S' := []) (σ' := (97, I, J, R)) rfl (fun _ => ?_) (fun hn => absurd (by decide) hn)
      refine az_E.sn 1 (pc' := 20) (L' := [.ref 73, .int a1, .int a2, .int a3, .retAddr 0, .retAddr 0, .retAddr 0]) (S' := [.int (-1 : Int32)]) (σ' := (97, I, J, R)) rfl ?_
      have h := Option.some.inj h
      subst h
      exact az_E.ret (v := some (.int (-1 : Int32))) (σ' := (97, I, J, R)) rfl hQ
    · rw [if_neg hc_2] at h
      refine az_E.sn 2 (pc' := 18) (L' := [.long a1.toInt64, .retAddr 0, .long (0 : Int64), .retAddr 0, .long (5 : Int64), .retAddr 0]) (S' := [.int (1 : Int32)]) (σ' := (97, I, J, R)) rfl ?_
      refine az_E.ret (v := some (.int (1 : Int32))) (σ' := (97, I, J, R)) rfl ?_
      show az_E az_F ex 1 245 9 [.int a1] [.int (1 : Int32)] (97, I, J, R) _
      refine az_E.ret (v := some (.int (1 : Int32))) (σ' := (97, I, J, R)) rfl ?_
      show az_E az_F ex 2 170 4 [.ref 73, .int a1, .int a2, .int a3, .retAddr 0, .retAddr 0, .retAddr 0] [.int (1 : Int32)] (97, I, J, R) _
      refine az_E.br (c := (1 : Int32) = 0) (tt := 19) (ff := 7) (L' := [.ref 73, .int a1, .int a2, .int a3, .retAddr 0, .retAddr 0, .retAddr 0]) (S' := []) (σ' := (97, I, J, R)) rfl (fun hn => absurd hn (by decide)) (fun _ => ?_)
      refine az_E.sn 4 (pc' := 13) (L' := [.ref 73, .int a1, .int a2, .int a3, .retAddr 0, .retAddr 0, .retAddr 0]) (S' := [.long (6 : Int64), .long (1 : Int64), .long a3.toInt64]) (σ' := (97, I, J, R)) rfl ?_
      refine az_E.call (d := 1) (k' := 154) (vs := [.long a3.toInt64, .long (1 : Int64), .long (6 : Int64)]) (pc' := 16) (S' := []) rfl ?_ (fun _ _ hq => hq)
      show az_E az_F ex 1 154 0 [.long a3.toInt64, .retAddr 0, .long (1 : Int64), .retAddr 0, .long (6 : Int64), .retAddr 0] [] (97, I, J, R) _
      refine az_E.sn 3 (pc' := 3) (L' := [.long a3.toInt64, .retAddr 0, .long (1 : Int64), .retAddr 0, .long (6 : Int64), .retAddr 0]) (S' := [.int (lg_cmp a3.toInt64 (1 : Int64))]) (σ' := (97, I, J, R)) rfl ?_
      refine az_E.br (c := (lg_cmp a3.toInt64 (1 : Int64)) < 0) (tt := 17) (ff := 6) (L' := [.long a3.toInt64, .retAddr 0, .long (1 : Int64), .retAddr 0, .long (6 : Int64), .retAddr 0]) (S' := []) (σ' := (97, I, J, R)) rfl (fun hc_3 => ?_) (fun hc_3 => ?_)
      · rw [if_pos hc_3] at h
        refine az_E.sn 1 (pc' := 18) (L' := [.long a3.toInt64, .retAddr 0, .long (1 : Int64), .retAddr 0, .long (6 : Int64), .retAddr 0]) (S' := [.int (0 : Int32)]) (σ' := (97, I, J, R)) rfl ?_
        refine az_E.ret (v := some (.int (0 : Int32))) (σ' := (97, I, J, R)) rfl ?_
        show az_E az_F ex 2 170 16 [.ref 73, .int a1, .int a2, .int a3, .retAddr 0, .retAddr 0, .retAddr 0] [.int (0 : Int32)] (97, I, J, R) _
        refine az_E.br (c := (0 : Int32) = 0) (tt := 19) (ff := 21) (L' := [.ref 73, .int a1, .int a2, .int a3, .retAddr 0, .retAddr 0, .retAddr 0]) (S' := []) (σ' := (97, I, J, R)) rfl (fun _ => ?_) (fun hn => absurd (by decide) hn)
        refine az_E.sn 1 (pc' := 20) (L' := [.ref 73, .int a1, .int a2, .int a3, .retAddr 0, .retAddr 0, .retAddr 0]) (S' := [.int (-1 : Int32)]) (σ' := (97, I, J, R)) rfl ?_
        have h := Option.some.inj h
        subst h
        exact az_E.ret (v := some (.int (-1 : Int32))) (σ' := (97, I, J, R)) rfl hQ
      · rw [if_neg hc_3] at h
        refine az_E.sn 3 (pc' := 10) (L' := [.long a3.toInt64, .retAddr 0, .long (1 : Int64), .retAddr 0, .long (6 : Int64), .retAddr 0]) (S' := [.int (lg_cmp a3.toInt64 (6 : Int64))]) (σ' := (97, I, J, R)) rfl ?_
        refine az_E.br (c := 0 < (lg_cmp a3.toInt64 (6 : Int64))) (tt := 17) (ff := 13) (L' := [.long a3.toInt64, .retAddr 0, .long (1 : Int64), .retAddr 0, .long (6 : Int64), .retAddr 0]) (S' := []) (σ' := (97, I, J, R)) rfl (fun hc_4 => ?_) (fun hc_4 => ?_)
        · rw [if_pos hc_4] at h
          refine az_E.sn 1 (pc' := 18) (L' := [.long a3.toInt64, .retAddr 0, .long (1 : Int64), .retAddr 0, .long (6 : Int64), .retAddr 0]) (S' := [.int (0 : Int32)]) (σ' := (97, I, J, R)) rfl ?_
          refine az_E.ret (v := some (.int (0 : Int32))) (σ' := (97, I, J, R)) rfl ?_
          show az_E az_F ex 2 170 16 [.ref 73, .int a1, .int a2, .int a3, .retAddr 0, .retAddr 0, .retAddr 0] [.int (0 : Int32)] (97, I, J, R) _
          refine az_E.br (c := (0 : Int32) = 0) (tt := 19) (ff := 21) (L' := [.ref 73, .int a1, .int a2, .int a3, .retAddr 0, .retAddr 0, .retAddr 0]) (S' := []) (σ' := (97, I, J, R)) rfl (fun _ => ?_) (fun hn => absurd (by decide) hn)
          refine az_E.sn 1 (pc' := 20) (L' := [.ref 73, .int a1, .int a2, .int a3, .retAddr 0, .retAddr 0, .retAddr 0]) (S' := [.int (-1 : Int32)]) (σ' := (97, I, J, R)) rfl ?_
          have h := Option.some.inj h
          subst h
          exact az_E.ret (v := some (.int (-1 : Int32))) (σ' := (97, I, J, R)) rfl hQ
        · rw [if_neg hc_4] at h
          refine az_E.sn 2 (pc' := 18) (L' := [.long a3.toInt64, .retAddr 0, .long (1 : Int64), .retAddr 0, .long (6 : Int64), .retAddr 0]) (S' := [.int (1 : Int32)]) (σ' := (97, I, J, R)) rfl ?_
          refine az_E.ret (v := some (.int (1 : Int32))) (σ' := (97, I, J, R)) rfl ?_
          show az_E az_F ex 2 170 16 [.ref 73, .int a1, .int a2, .int a3, .retAddr 0, .retAddr 0, .retAddr 0] [.int (1 : Int32)] (97, I, J, R) _
          refine az_E.br (c := (1 : Int32) = 0) (tt := 19) (ff := 21) (L' := [.ref 73, .int a1, .int a2, .int a3, .retAddr 0, .retAddr 0, .retAddr 0]) (S' := []) (σ' := (97, I, J, R)) rfl (fun hn => absurd hn (by decide)) (fun _ => ?_)
          refine az_E.sn 3 (pc' := 26) (L' := [.ref 73, .int a1, .int a2, .int a3, .retAddr 0, .retAddr 0, .retAddr 0]) (S' := [.int a1, .ref 96]) (σ' := (97, I, J, R)) rfl ?_
          by_cases hc_5 : a1 < 0 ∨ 6 ≤ a1.toNatClampNeg
          · rw [if_pos hc_5] at h; cases h
          · rw [if_neg hc_5] at h
            refine az_E.oi (o := az_ai az_F ex (97, I, J, R) 96 a1) (pc' := 27) (L' := [.ref 73, .int a1, .int a2, .int a3, .retAddr 0, .retAddr 0, .retAddr 0]) (S' := []) (σ' := (97, I, J, R)) (x := (I 96 a1.toNatClampNeg)) rfl (if_neg hc_5) ?_
            refine az_E.br (c := (I 96 a1.toNatClampNeg) < 0) (tt := 44) (ff := 30) (L' := [.ref 73, .int a1, .int a2, .int a3, .retAddr 0, .retAddr 0, .retAddr 0]) (S' := []) (σ' := (97, I, J, R)) rfl (fun hc_6 => ?_) (fun hc_6 => ?_)
            · rw [if_pos hc_6] at h
              exact az_E.forget (L := [.ref 73, .int a1, .int a2, .int a3, .retAddr 0, .retAddr 0, .retAddr 0]) ⟨rfl, rfl, rfl, rfl, trivial, trivial, trivial, trivial⟩ (re_M_walkers_44 (I := I) (J := J) (R := R)  h hQ)
            · rw [if_neg hc_6] at h
              refine az_E.sn 3 (pc' := 35) (L' := [.ref 73, .int a1, .int a2, .int a3, .retAddr 0, .retAddr 0, .retAddr 0]) (S' := [.int a1, .ref 96]) (σ' := (97, I, J, R)) rfl ?_
              by_cases hc_28 : a1 < 0 ∨ 6 ≤ a1.toNatClampNeg
              · rw [if_pos hc_28] at h; cases h
              · rw [if_neg hc_28] at h
                refine az_E.oi (o := az_ai az_F ex (97, I, J, R) 96 a1) (pc' := 36) (L' := [.ref 73, .int a1, .int a2, .int a3, .retAddr 0, .retAddr 0, .retAddr 0]) (S' := []) (σ' := (97, I, J, R)) (x := (I 96 a1.toNatClampNeg)) rfl (if_neg hc_28) ?_
                refine az_E.sn 1 (pc' := 38) (L' := [.ref 73, .int a1, .int a2, .int a3, .retAddr 0, .retAddr 0, .retAddr 0]) (S' := [.int (50 : Int32), .int (I 96 a1.toNatClampNeg)]) (σ' := (97, I, J, R)) rfl ?_
                refine az_E.br (c := (I 96 a1.toNatClampNeg) = (50 : Int32)) (tt := 44) (ff := 41) (L' := [.ref 73, .int a1, .int a2, .int a3, .retAddr 0, .retAddr 0, .retAddr 0]) (S' := []) (σ' := (97, I, J, R)) rfl (fun hc_29 => ?_) (fun hc_29 => ?_)
                · rw [if_pos hc_29] at h
                  exact az_E.forget (L := [.ref 73, .int a1, .int a2, .int a3, .retAddr 0, .retAddr 0, .retAddr 0]) ⟨rfl, rfl, rfl, rfl, trivial, trivial, trivial, trivial⟩ (re_M_walkers_44 (I := I) (J := J) (R := R)  h hQ)
                · rw [if_neg hc_29] at h
                  refine az_E.sn 1 (pc' := 43) (L' := [.ref 73, .int a1, .int a2, .int a3, .retAddr 0, .retAddr 0, .retAddr 0]) (S' := [.int (-12 : Int32)]) (σ' := (97, I, J, R)) rfl ?_
                  have h := Option.some.inj h
                  subst h
                  exact az_E.ret (v := some (.int (-12 : Int32))) (σ' := (97, I, J, R)) rfl hQ
set_option maxRecDepth 100000 in
set_option maxHeartbeats 4000000 in
theorem re_Mo_isThere_57 {ex : az_X} {I : Nat → Nat → Int32} {J : Nat → Nat → Int64} {R : Nat → Nat → Option Nat} {v1 : Int32} {x : Int32} (h : rs_Mo_isThere_57 I v1 = some x) {Q : Option Value → az_S → Prop} (hQ : Q (some (.int x)) (97, I, J, R)) : az_E az_F ex 2 37 57 [.ref 4, .int v1, .retAddr 0] [] (97, I, J, R) Q := by
  unfold rs_Mo_isThere_57 at h
  refine az_E.sn 6 (pc' := 65) (L' := [.ref 4, .int v1, .retAddr 0]) (S' := [.int ((I 4 3) - (1 : Int32)), .int (0 : Int32), .int v1]) (σ' := (97, I, J, R)) rfl ?_
  refine az_E.call (d := 1) (k' := 131) (vs := [.int v1, .int (0 : Int32), .int ((I 4 3) - (1 : Int32))]) (pc' := 68) (S' := []) rfl ?_ (fun _ _ hq => hq)
  show az_E az_F ex 1 131 0 [.int v1, .int (0 : Int32), .int ((I 4 3) - (1 : Int32))] [] (97, I, J, R) _
  refine az_E.sn 2 (pc' := 2) (L' := [.int v1, .int (0 : Int32), .int ((I 4 3) - (1 : Int32))]) (S' := [.int (0 : Int32), .int v1]) (σ' := (97, I, J, R)) rfl ?_
  refine az_E.br (c := v1 < (0 : Int32)) (tt := 14) (ff := 5) (L' := [.int v1, .int (0 : Int32), .int ((I 4 3) - (1 : Int32))]) (S' := []) (σ' := (97, I, J, R)) rfl (fun hc_5 => ?_) (fun hc_5 => ?_)
  · rw [if_pos hc_5] at h
    refine az_E.sn 1 (pc' := 15) (L' := [.int v1, .int (0 : Int32), .int ((I 4 3) - (1 : Int32))]) (S' := [.int (0 : Int32)]) (σ' := (97, I, J, R)) rfl ?_
    refine az_E.ret (v := some (.int (0 : Int32))) (σ' := (97, I, J, R)) rfl ?_
    show az_E az_F ex 2 37 68 [.ref 4, .int v1, .retAddr 0] [.int (0 : Int32)] (97, I, J, R) _
    have h := Option.some.inj h
    subst h
    exact az_E.ret (v := some (.int (0 : Int32))) (σ' := (97, I, J, R)) rfl hQ
  · rw [if_neg hc_5] at h
    refine az_E.sn 2 (pc' := 7) (L' := [.int v1, .int (0 : Int32), .int ((I 4 3) - (1 : Int32))]) (S' := [.int ((I 4 3) - (1 : Int32)), .int v1]) (σ' := (97, I, J, R)) rfl ?_
    refine az_E.br (c := ((I 4 3) - (1 : Int32)) < v1) (tt := 14) (ff := 10) (L' := [.int v1, .int (0 : Int32), .int ((I 4 3) - (1 : Int32))]) (S' := []) (σ' := (97, I, J, R)) rfl (fun hc_6 => ?_) (fun hc_6 => ?_)
    · rw [if_pos hc_6] at h
      refine az_E.sn 1 (pc' := 15) (L' := [.int v1, .int (0 : Int32), .int ((I 4 3) - (1 : Int32))]) (S' := [.int (0 : Int32)]) (σ' := (97, I, J, R)) rfl ?_
      refine az_E.ret (v := some (.int (0 : Int32))) (σ' := (97, I, J, R)) rfl ?_
      show az_E az_F ex 2 37 68 [.ref 4, .int v1, .retAddr 0] [.int (0 : Int32)] (97, I, J, R) _
      have h := Option.some.inj h
      subst h
      exact az_E.ret (v := some (.int (0 : Int32))) (σ' := (97, I, J, R)) rfl hQ
    · rw [if_neg hc_6] at h
      refine az_E.sn 2 (pc' := 15) (L' := [.int v1, .int (0 : Int32), .int ((I 4 3) - (1 : Int32))]) (S' := [.int (1 : Int32)]) (σ' := (97, I, J, R)) rfl ?_
      refine az_E.ret (v := some (.int (1 : Int32))) (σ' := (97, I, J, R)) rfl ?_
      show az_E az_F ex 2 37 68 [.ref 4, .int v1, .retAddr 0] [.int (1 : Int32)] (97, I, J, R) _
      have h := Option.some.inj h
      subst h
      exact az_E.ret (v := some (.int (1 : Int32))) (σ' := (97, I, J, R)) rfl hQ
set_option maxRecDepth 100000 in
set_option maxHeartbeats 4000000 in
theorem re_Mo_isThere_69 {ex : az_X} {I : Nat → Nat → Int32} {J : Nat → Nat → Int64} {R : Nat → Nat → Option Nat} {v1 : Int32} {x : Int32} (h : rs_Mo_isThere_69 I v1 = some x) {Q : Option Value → az_S → Prop} (hQ : Q (some (.int x)) (97, I, J, R)) : az_E az_F ex 2 37 69 [.ref 4, .int v1, .retAddr 0] [] (97, I, J, R) Q := by
  unfold rs_Mo_isThere_69 at h
  refine az_E.sn 6 (pc' := 77) (L' := [.ref 4, .int v1, .retAddr 0]) (S' := [.int ((I 4 9) - (1 : Int32)), .int (0 : Int32), .int v1]) (σ' := (97, I, J, R)) rfl ?_
  refine az_E.call (d := 1) (k' := 131) (vs := [.int v1, .int (0 : Int32), .int ((I 4 9) - (1 : Int32))]) (pc' := 80) (S' := []) rfl ?_ (fun _ _ hq => hq)
  show az_E az_F ex 1 131 0 [.int v1, .int (0 : Int32), .int ((I 4 9) - (1 : Int32))] [] (97, I, J, R) _
  refine az_E.sn 2 (pc' := 2) (L' := [.int v1, .int (0 : Int32), .int ((I 4 9) - (1 : Int32))]) (S' := [.int (0 : Int32), .int v1]) (σ' := (97, I, J, R)) rfl ?_
  refine az_E.br (c := v1 < (0 : Int32)) (tt := 14) (ff := 5) (L' := [.int v1, .int (0 : Int32), .int ((I 4 9) - (1 : Int32))]) (S' := []) (σ' := (97, I, J, R)) rfl (fun hc_9 => ?_) (fun hc_9 => ?_)
  · rw [if_pos hc_9] at h
    refine az_E.sn 1 (pc' := 15) (L' := [.int v1, .int (0 : Int32), .int ((I 4 9) - (1 : Int32))]) (S' := [.int (0 : Int32)]) (σ' := (97, I, J, R)) rfl ?_
    refine az_E.ret (v := some (.int (0 : Int32))) (σ' := (97, I, J, R)) rfl ?_
    show az_E az_F ex 2 37 80 [.ref 4, .int v1, .retAddr 0] [.int (0 : Int32)] (97, I, J, R) _
    have h := Option.some.inj h
    subst h
    exact az_E.ret (v := some (.int (0 : Int32))) (σ' := (97, I, J, R)) rfl hQ
  · rw [if_neg hc_9] at h
    refine az_E.sn 2 (pc' := 7) (L' := [.int v1, .int (0 : Int32), .int ((I 4 9) - (1 : Int32))]) (S' := [.int ((I 4 9) - (1 : Int32)), .int v1]) (σ' := (97, I, J, R)) rfl ?_
    refine az_E.br (c := ((I 4 9) - (1 : Int32)) < v1) (tt := 14) (ff := 10) (L' := [.int v1, .int (0 : Int32), .int ((I 4 9) - (1 : Int32))]) (S' := []) (σ' := (97, I, J, R)) rfl (fun hc_10 => ?_) (fun hc_10 => ?_)
    · rw [if_pos hc_10] at h
      refine az_E.sn 1 (pc' := 15) (L' := [.int v1, .int (0 : Int32), .int ((I 4 9) - (1 : Int32))]) (S' := [.int (0 : Int32)]) (σ' := (97, I, J, R)) rfl ?_
      refine az_E.ret (v := some (.int (0 : Int32))) (σ' := (97, I, J, R)) rfl ?_
      show az_E az_F ex 2 37 80 [.ref 4, .int v1, .retAddr 0] [.int (0 : Int32)] (97, I, J, R) _
      have h := Option.some.inj h
      subst h
      exact az_E.ret (v := some (.int (0 : Int32))) (σ' := (97, I, J, R)) rfl hQ
    · rw [if_neg hc_10] at h
      refine az_E.sn 2 (pc' := 15) (L' := [.int v1, .int (0 : Int32), .int ((I 4 9) - (1 : Int32))]) (S' := [.int (1 : Int32)]) (σ' := (97, I, J, R)) rfl ?_
      refine az_E.ret (v := some (.int (1 : Int32))) (σ' := (97, I, J, R)) rfl ?_
      show az_E az_F ex 2 37 80 [.ref 4, .int v1, .retAddr 0] [.int (1 : Int32)] (97, I, J, R) _
      have h := Option.some.inj h
      subst h
      exact az_E.ret (v := some (.int (1 : Int32))) (σ' := (97, I, J, R)) rfl hQ
set_option maxRecDepth 100000 in
set_option maxHeartbeats 4000000 in
theorem re_Mo_isThere {ex : az_X} {I : Nat → Nat → Int32} {J : Nat → Nat → Int64} {R : Nat → Nat → Option Nat} {a1 : Int32} {a2 : Int32} {o : Int32} (h : rs_Mo_isThere I a1 a2 = some o) {Q : Option Value → az_S → Prop} (hQ : Q (some (.int o)) (97, I, J, R)) : az_E az_F ex 2 37 0 [.ref 4, .int a1, .int a2] [] (97, I, J, R) Q := by
  unfold rs_Mo_isThere at h
  refine az_E.sn 1 (pc' := 1) (L' := [.ref 4, .int a1, .int a2]) (S' := [.int a2]) (σ' := (97, I, J, R)) rfl ?_
  by_cases hc_1 : a2 = (0 : Int32)
  · rw [if_pos hc_1] at h
    refine az_E.sw hc_1 (pc' := 52) (L' := [.ref 4, .int a1, .int a2]) (S' := []) (σ' := (97, I, J, R)) rfl ?_
    refine az_E.sn 1 (pc' := 53) (L' := [.ref 4, .int a1, .int a2]) (S' := [.int a1]) (σ' := (97, I, J, R)) rfl ?_
    refine az_E.call (d := 1) (k' := 133) (vs := [.int a1]) (pc' := 56) (S' := []) rfl ?_ (fun _ _ hq => hq)
    show az_E az_F ex 1 133 0 [.int a1] [] (97, I, J, R) _
    refine az_E.sn 3 (pc' := 5) (L' := [.int a1]) (S' := [.int (143 : Int32), .int (0 : Int32), .int a1]) (σ' := (97, I, J, R)) rfl ?_
    refine az_E.call (d := 0) (k' := 131) (vs := [.int a1, .int (0 : Int32), .int (143 : Int32)]) (pc' := 8) (S' := []) rfl ?_ (fun _ _ hq => hq)
    show az_E az_F ex 0 131 0 [.int a1, .int (0 : Int32), .int (143 : Int32)] [] (97, I, J, R) _
    refine az_E.sn 2 (pc' := 2) (L' := [.int a1, .int (0 : Int32), .int (143 : Int32)]) (S' := [.int (0 : Int32), .int a1]) (σ' := (97, I, J, R)) rfl ?_
    refine az_E.br (c := a1 < (0 : Int32)) (tt := 14) (ff := 5) (L' := [.int a1, .int (0 : Int32), .int (143 : Int32)]) (S' := []) (σ' := (97, I, J, R)) rfl (fun hc_2 => ?_) (fun hc_2 => ?_)
    · rw [if_pos hc_2] at h
      refine az_E.sn 1 (pc' := 15) (L' := [.int a1, .int (0 : Int32), .int (143 : Int32)]) (S' := [.int (0 : Int32)]) (σ' := (97, I, J, R)) rfl ?_
      refine az_E.ret (v := some (.int (0 : Int32))) (σ' := (97, I, J, R)) rfl ?_
      show az_E az_F ex 1 133 8 [.int a1] [.int (0 : Int32)] (97, I, J, R) _
      refine az_E.ret (v := some (.int (0 : Int32))) (σ' := (97, I, J, R)) rfl ?_
      show az_E az_F ex 2 37 56 [.ref 4, .int a1, .int a2] [.int (0 : Int32)] (97, I, J, R) _
      have h := Option.some.inj h
      subst h
      exact az_E.ret (v := some (.int (0 : Int32))) (σ' := (97, I, J, R)) rfl hQ
    · rw [if_neg hc_2] at h
      refine az_E.sn 2 (pc' := 7) (L' := [.int a1, .int (0 : Int32), .int (143 : Int32)]) (S' := [.int (143 : Int32), .int a1]) (σ' := (97, I, J, R)) rfl ?_
      refine az_E.br (c := (143 : Int32) < a1) (tt := 14) (ff := 10) (L' := [.int a1, .int (0 : Int32), .int (143 : Int32)]) (S' := []) (σ' := (97, I, J, R)) rfl (fun hc_3 => ?_) (fun hc_3 => ?_)
      · rw [if_pos hc_3] at h
        refine az_E.sn 1 (pc' := 15) (L' := [.int a1, .int (0 : Int32), .int (143 : Int32)]) (S' := [.int (0 : Int32)]) (σ' := (97, I, J, R)) rfl ?_
        refine az_E.ret (v := some (.int (0 : Int32))) (σ' := (97, I, J, R)) rfl ?_
        show az_E az_F ex 1 133 8 [.int a1] [.int (0 : Int32)] (97, I, J, R) _
        refine az_E.ret (v := some (.int (0 : Int32))) (σ' := (97, I, J, R)) rfl ?_
        show az_E az_F ex 2 37 56 [.ref 4, .int a1, .int a2] [.int (0 : Int32)] (97, I, J, R) _
        have h := Option.some.inj h
        subst h
        exact az_E.ret (v := some (.int (0 : Int32))) (σ' := (97, I, J, R)) rfl hQ
      · rw [if_neg hc_3] at h
        refine az_E.sn 2 (pc' := 15) (L' := [.int a1, .int (0 : Int32), .int (143 : Int32)]) (S' := [.int (1 : Int32)]) (σ' := (97, I, J, R)) rfl ?_
        refine az_E.ret (v := some (.int (1 : Int32))) (σ' := (97, I, J, R)) rfl ?_
        show az_E az_F ex 1 133 8 [.int a1] [.int (1 : Int32)] (97, I, J, R) _
        refine az_E.ret (v := some (.int (1 : Int32))) (σ' := (97, I, J, R)) rfl ?_
        show az_E az_F ex 2 37 56 [.ref 4, .int a1, .int a2] [.int (1 : Int32)] (97, I, J, R) _
        have h := Option.some.inj h
        subst h
        exact az_E.ret (v := some (.int (1 : Int32))) (σ' := (97, I, J, R)) rfl hQ
  · rw [if_neg hc_1] at h
    by_cases hc_4 : a2 = (1 : Int32)
    · rw [if_pos hc_4] at h
      refine az_E.sw hc_4 (pc' := 57) (L' := [.ref 4, .int a1, .int a2]) (S' := []) (σ' := (97, I, J, R)) rfl ?_
      exact az_E.forget (L := [.ref 4, .int a1, .retAddr 0]) ⟨rfl, rfl, trivial, trivial⟩ (re_Mo_isThere_57 (I := I) (J := J) (R := R)  h hQ)
    · rw [if_neg hc_4] at h
      by_cases hc_7 : a2 = (2 : Int32)
      · rw [if_pos hc_7] at h
        refine az_E.sw hc_7 (pc' := 57) (L' := [.ref 4, .int a1, .int a2]) (S' := []) (σ' := (97, I, J, R)) rfl ?_
        exact az_E.forget (L := [.ref 4, .int a1, .retAddr 0]) ⟨rfl, rfl, trivial, trivial⟩ (re_Mo_isThere_57 (I := I) (J := J) (R := R)  h hQ)
      · rw [if_neg hc_7] at h
        by_cases hc_8 : a2 = (3 : Int32)
        · rw [if_pos hc_8] at h
          refine az_E.sw hc_8 (pc' := 69) (L' := [.ref 4, .int a1, .int a2]) (S' := []) (σ' := (97, I, J, R)) rfl ?_
          exact az_E.forget (L := [.ref 4, .int a1, .retAddr 0]) ⟨rfl, rfl, trivial, trivial⟩ (re_Mo_isThere_69 (I := I) (J := J) (R := R)  h hQ)
        · rw [if_neg hc_8] at h
          by_cases hc_11 : a2 = (4 : Int32)
          · rw [if_pos hc_11] at h
            refine az_E.sw hc_11 (pc' := 69) (L' := [.ref 4, .int a1, .int a2]) (S' := []) (σ' := (97, I, J, R)) rfl ?_
            exact az_E.forget (L := [.ref 4, .int a1, .retAddr 0]) ⟨rfl, rfl, trivial, trivial⟩ (re_Mo_isThere_69 (I := I) (J := J) (R := R)  h hQ)
          · rw [if_neg hc_11] at h
            by_cases hc_12 : a2 = (5 : Int32)
            · rw [if_pos hc_12] at h
              refine az_E.sw hc_12 (pc' := 69) (L' := [.ref 4, .int a1, .int a2]) (S' := []) (σ' := (97, I, J, R)) rfl ?_
              exact az_E.forget (L := [.ref 4, .int a1, .retAddr 0]) ⟨rfl, rfl, trivial, trivial⟩ (re_Mo_isThere_69 (I := I) (J := J) (R := R)  h hQ)
            · rw [if_neg hc_12] at h
              by_cases hc_13 : a2 = (6 : Int32)
              · rw [if_pos hc_13] at h
                refine az_E.sw hc_13 (pc' := 81) (L' := [.ref 4, .int a1, .int a2]) (S' := []) (σ' := (97, I, J, R)) rfl ?_
                refine az_E.sn 1 (pc' := 82) (L' := [.ref 4, .int a1, .int a2]) (S' := [.int a1]) (σ' := (97, I, J, R)) rfl ?_
                refine az_E.br (c := a1 = 0) (tt := 85) (ff := 89) (L' := [.ref 4, .int a1, .int a2]) (S' := []) (σ' := (97, I, J, R)) rfl (fun hc_14 => ?_) (fun hc_14 => ?_)
                · rw [if_pos hc_14] at h
                  refine az_E.sn 2 (pc' := 90) (L' := [.ref 4, .int a1, .int a2]) (S' := [.int (1 : Int32)]) (σ' := (97, I, J, R)) rfl ?_
                  have h := Option.some.inj h
                  subst h
                  exact az_E.ret (v := some (.int (1 : Int32))) (σ' := (97, I, J, R)) rfl hQ
                · rw [if_neg hc_14] at h
                  refine az_E.sn 1 (pc' := 90) (L' := [.ref 4, .int a1, .int a2]) (S' := [.int (0 : Int32)]) (σ' := (97, I, J, R)) rfl ?_
                  have h := Option.some.inj h
                  subst h
                  exact az_E.ret (v := some (.int (0 : Int32))) (σ' := (97, I, J, R)) rfl hQ
              · rw [if_neg hc_13] at h
                by_cases hc_15 : a2 = (7 : Int32)
                · rw [if_pos hc_15] at h
                  refine az_E.sw hc_15 (pc' := 69) (L' := [.ref 4, .int a1, .int a2]) (S' := []) (σ' := (97, I, J, R)) rfl ?_
                  exact az_E.forget (L := [.ref 4, .int a1, .retAddr 0]) ⟨rfl, rfl, trivial, trivial⟩ (re_Mo_isThere_69 (I := I) (J := J) (R := R)  h hQ)
                · rw [if_neg hc_15] at h
                  by_cases hc_16 : a2 = (8 : Int32)
                  · rw [if_pos hc_16] at h
                    refine az_E.sw hc_16 (pc' := 69) (L' := [.ref 4, .int a1, .int a2]) (S' := []) (σ' := (97, I, J, R)) rfl ?_
                    exact az_E.forget (L := [.ref 4, .int a1, .retAddr 0]) ⟨rfl, rfl, trivial, trivial⟩ (re_Mo_isThere_69 (I := I) (J := J) (R := R)  h hQ)
                  · rw [if_neg hc_16] at h
                    have ehc_1 := az_nei hc_1 (z := 0) (by decide)
                    have ehc_4 := az_nei hc_4 (z := 1) (by decide)
                    have ehc_7 := az_nei hc_7 (z := 2) (by decide)
                    have ehc_8 := az_nei hc_8 (z := 3) (by decide)
                    have ehc_11 := az_nei hc_11 (z := 4) (by decide)
                    have ehc_12 := az_nei hc_12 (z := 5) (by decide)
                    have ehc_13 := az_nei hc_13 (z := 6) (by decide)
                    have ehc_15 := az_nei hc_15 (z := 7) (by decide)
                    have ehc_16 := az_nei hc_16 (z := 8) (by decide)
                    refine az_E.swd (a := 91) (lo := 0) (hi := 8) (offs := #[51, 56, 56, 68, 68, 68, 80, 68, 68]) rfl (by omega) ?_
                    refine az_E.sn 1 (pc' := 92) (L' := [.ref 4, .int a1, .int a2]) (S' := [.int (0 : Int32)]) (σ' := (97, I, J, R)) rfl ?_
                    have h := Option.some.inj h
                    subst h
                    exact az_E.ret (v := some (.int (0 : Int32))) (σ' := (97, I, J, R)) rfl hQ
set_option maxRecDepth 100000 in
set_option maxHeartbeats 4000000 in
theorem re_Mo_read {ex : az_X} {I : Nat → Nat → Int32} {J : Nat → Nat → Int64} {R : Nat → Nat → Option Nat} {a1 : Int32} {a2 : Int32} {o : Int32} (h : rs_Mo_read I a1 a2 = some o) {Q : Option Value → az_S → Prop} (hQ : Q (some (.int o)) (97, I, J, R)) : az_E az_F ex 1 40 0 [.ref 4, .int a1, .int a2, .retAddr 0] [] (97, I, J, R) Q := by
  unfold rs_Mo_read at h
  refine az_E.sn 2 (pc' := 2) (L' := [.ref 4, .int a1, .int a2, .retAddr 0]) (S' := [.int a2, .ref 4]) (σ' := (97, I, J, R)) rfl ?_
  refine az_E.call (d := 0) (k' := 39) (vs := [.ref 4, .int a2]) (pc' := 5) (S' := []) rfl ?_ (fun _ _ hq => hq)
  show az_E az_F ex 0 39 0 [.ref 4, .int a2] [] (97, I, J, R) _
  refine az_E.sn 1 (pc' := 1) (L' := [.ref 4, .int a2]) (S' := [.int a2]) (σ' := (97, I, J, R)) rfl ?_
  by_cases hc_1 : a2 = (0 : Int32)
  · rw [if_pos hc_1] at h
    refine az_E.sw hc_1 (pc' := 52) (L' := [.ref 4, .int a2]) (S' := []) (σ' := (97, I, J, R)) rfl ?_
    refine az_E.sn 2 (pc' := 56) (L' := [.ref 4, .int a2]) (S' := [.ref 5]) (σ' := (97, I, J, R)) rfl ?_
    refine az_E.ret (v := some (.ref 5)) (σ' := (97, I, J, R)) rfl ?_
    show az_E az_F ex 1 40 5 [.ref 4, .int a1, .int a2, .retAddr 0] [.ref 5] (97, I, J, R) _
    refine az_E.sn 9 (pc' := 16) (L' := [.ref 4, .int a1, .int a2, .ref 5]) (S' := [.int ((144 : Int32) - (1 : Int32)), .int (0 : Int32), .int a1]) (σ' := (97, I, J, R)) rfl ?_
    refine az_E.call (d := 0) (k' := 131) (vs := [.int a1, .int (0 : Int32), .int ((144 : Int32) - (1 : Int32))]) (pc' := 19) (S' := []) rfl ?_ (fun _ _ hq => hq)
    show az_E az_F ex 0 131 0 [.int a1, .int (0 : Int32), .int ((144 : Int32) - (1 : Int32))] [] (97, I, J, R) _
    refine az_E.sn 2 (pc' := 2) (L' := [.int a1, .int (0 : Int32), .int ((144 : Int32) - (1 : Int32))]) (S' := [.int (0 : Int32), .int a1]) (σ' := (97, I, J, R)) rfl ?_
    refine az_E.br (c := a1 < (0 : Int32)) (tt := 14) (ff := 5) (L' := [.int a1, .int (0 : Int32), .int ((144 : Int32) - (1 : Int32))]) (S' := []) (σ' := (97, I, J, R)) rfl (fun hc_2 => ?_) (fun hc_2 => ?_)
    · rw [if_pos hc_2] at h
      refine az_E.sn 1 (pc' := 15) (L' := [.int a1, .int (0 : Int32), .int ((144 : Int32) - (1 : Int32))]) (S' := [.int (0 : Int32)]) (σ' := (97, I, J, R)) rfl ?_
      refine az_E.ret (v := some (.int (0 : Int32))) (σ' := (97, I, J, R)) rfl ?_
      show az_E az_F ex 1 40 19 [.ref 4, .int a1, .int a2, .ref 5] [.int (0 : Int32)] (97, I, J, R) _
      refine az_E.br (c := (0 : Int32) = 0) (tt := 22) (ff := 27) (L' := [.ref 4, .int a1, .int a2, .ref 5]) (S' := []) (σ' := (97, I, J, R)) rfl (fun _ => ?_) (fun hn => absurd (by decide) hn)
      refine az_E.sn 2 (pc' := 26) (L' := [.ref 4, .int a1, .int a2, .ref 5]) (S' := [.int (I 4 10)]) (σ' := (97, I, J, R)) rfl ?_
      have h := Option.some.inj h
      subst h
      exact az_E.ret (v := some (.int (I 4 10))) (σ' := (97, I, J, R)) rfl hQ
    · rw [if_neg hc_2] at h
      refine az_E.sn 2 (pc' := 7) (L' := [.int a1, .int (0 : Int32), .int ((144 : Int32) - (1 : Int32))]) (S' := [.int ((144 : Int32) - (1 : Int32)), .int a1]) (σ' := (97, I, J, R)) rfl ?_
      refine az_E.br (c := ((144 : Int32) - (1 : Int32)) < a1) (tt := 14) (ff := 10) (L' := [.int a1, .int (0 : Int32), .int ((144 : Int32) - (1 : Int32))]) (S' := []) (σ' := (97, I, J, R)) rfl (fun hc_3 => ?_) (fun hc_3 => ?_)
      · rw [if_pos hc_3] at h
        refine az_E.sn 1 (pc' := 15) (L' := [.int a1, .int (0 : Int32), .int ((144 : Int32) - (1 : Int32))]) (S' := [.int (0 : Int32)]) (σ' := (97, I, J, R)) rfl ?_
        refine az_E.ret (v := some (.int (0 : Int32))) (σ' := (97, I, J, R)) rfl ?_
        show az_E az_F ex 1 40 19 [.ref 4, .int a1, .int a2, .ref 5] [.int (0 : Int32)] (97, I, J, R) _
        refine az_E.br (c := (0 : Int32) = 0) (tt := 22) (ff := 27) (L' := [.ref 4, .int a1, .int a2, .ref 5]) (S' := []) (σ' := (97, I, J, R)) rfl (fun _ => ?_) (fun hn => absurd (by decide) hn)
        refine az_E.sn 2 (pc' := 26) (L' := [.ref 4, .int a1, .int a2, .ref 5]) (S' := [.int (I 4 10)]) (σ' := (97, I, J, R)) rfl ?_
        have h := Option.some.inj h
        subst h
        exact az_E.ret (v := some (.int (I 4 10))) (σ' := (97, I, J, R)) rfl hQ
      · rw [if_neg hc_3] at h
        refine az_E.sn 2 (pc' := 15) (L' := [.int a1, .int (0 : Int32), .int ((144 : Int32) - (1 : Int32))]) (S' := [.int (1 : Int32)]) (σ' := (97, I, J, R)) rfl ?_
        refine az_E.ret (v := some (.int (1 : Int32))) (σ' := (97, I, J, R)) rfl ?_
        show az_E az_F ex 1 40 19 [.ref 4, .int a1, .int a2, .ref 5] [.int (1 : Int32)] (97, I, J, R) _
        refine az_E.br (c := (1 : Int32) = 0) (tt := 22) (ff := 27) (L' := [.ref 4, .int a1, .int a2, .ref 5]) (S' := []) (σ' := (97, I, J, R)) rfl (fun hn => absurd hn (by decide)) (fun _ => ?_)
        refine az_E.sn 2 (pc' := 29) (L' := [.ref 4, .int a1, .int a2, .ref 5]) (S' := [.int a1, .ref 5]) (σ' := (97, I, J, R)) rfl ?_
        by_cases hc_4 : a1 < 0 ∨ 144 ≤ a1.toNatClampNeg
        · rw [if_pos hc_4] at h; cases h
        · rw [if_neg hc_4] at h
          refine az_E.oi (o := az_ai az_F ex (97, I, J, R) 5 a1) (pc' := 30) (L' := [.ref 4, .int a1, .int a2, .ref 5]) (S' := []) (σ' := (97, I, J, R)) (x := (I 5 a1.toNatClampNeg)) rfl (if_neg hc_4) ?_
          have h := Option.some.inj h
          subst h
          exact az_E.ret (v := some (.int (I 5 a1.toNatClampNeg))) (σ' := (97, I, J, R)) rfl hQ
  · rw [if_neg hc_1] at h
    by_cases hc_5 : a2 = (1 : Int32)
    · rw [if_pos hc_5] at h
      refine az_E.sw hc_5 (pc' := 57) (L' := [.ref 4, .int a2]) (S' := []) (σ' := (97, I, J, R)) rfl ?_
      refine az_E.sn 2 (pc' := 61) (L' := [.ref 4, .int a2]) (S' := [.ref 6]) (σ' := (97, I, J, R)) rfl ?_
      refine az_E.ret (v := some (.ref 6)) (σ' := (97, I, J, R)) rfl ?_
      show az_E az_F ex 1 40 5 [.ref 4, .int a1, .int a2, .retAddr 0] [.ref 6] (97, I, J, R) _
      refine az_E.sn 9 (pc' := 16) (L' := [.ref 4, .int a1, .int a2, .ref 6]) (S' := [.int ((8 : Int32) - (1 : Int32)), .int (0 : Int32), .int a1]) (σ' := (97, I, J, R)) rfl ?_
      refine az_E.call (d := 0) (k' := 131) (vs := [.int a1, .int (0 : Int32), .int ((8 : Int32) - (1 : Int32))]) (pc' := 19) (S' := []) rfl ?_ (fun _ _ hq => hq)
      show az_E az_F ex 0 131 0 [.int a1, .int (0 : Int32), .int ((8 : Int32) - (1 : Int32))] [] (97, I, J, R) _
      refine az_E.sn 2 (pc' := 2) (L' := [.int a1, .int (0 : Int32), .int ((8 : Int32) - (1 : Int32))]) (S' := [.int (0 : Int32), .int a1]) (σ' := (97, I, J, R)) rfl ?_
      refine az_E.br (c := a1 < (0 : Int32)) (tt := 14) (ff := 5) (L' := [.int a1, .int (0 : Int32), .int ((8 : Int32) - (1 : Int32))]) (S' := []) (σ' := (97, I, J, R)) rfl (fun hc_6 => ?_) (fun hc_6 => ?_)
      · rw [if_pos hc_6] at h
        refine az_E.sn 1 (pc' := 15) (L' := [.int a1, .int (0 : Int32), .int ((8 : Int32) - (1 : Int32))]) (S' := [.int (0 : Int32)]) (σ' := (97, I, J, R)) rfl ?_
        refine az_E.ret (v := some (.int (0 : Int32))) (σ' := (97, I, J, R)) rfl ?_
        show az_E az_F ex 1 40 19 [.ref 4, .int a1, .int a2, .ref 6] [.int (0 : Int32)] (97, I, J, R) _
        refine az_E.br (c := (0 : Int32) = 0) (tt := 22) (ff := 27) (L' := [.ref 4, .int a1, .int a2, .ref 6]) (S' := []) (σ' := (97, I, J, R)) rfl (fun _ => ?_) (fun hn => absurd (by decide) hn)
        refine az_E.sn 2 (pc' := 26) (L' := [.ref 4, .int a1, .int a2, .ref 6]) (S' := [.int (I 4 10)]) (σ' := (97, I, J, R)) rfl ?_
        have h := Option.some.inj h
        subst h
        exact az_E.ret (v := some (.int (I 4 10))) (σ' := (97, I, J, R)) rfl hQ
      · rw [if_neg hc_6] at h
        refine az_E.sn 2 (pc' := 7) (L' := [.int a1, .int (0 : Int32), .int ((8 : Int32) - (1 : Int32))]) (S' := [.int ((8 : Int32) - (1 : Int32)), .int a1]) (σ' := (97, I, J, R)) rfl ?_
        refine az_E.br (c := ((8 : Int32) - (1 : Int32)) < a1) (tt := 14) (ff := 10) (L' := [.int a1, .int (0 : Int32), .int ((8 : Int32) - (1 : Int32))]) (S' := []) (σ' := (97, I, J, R)) rfl (fun hc_7 => ?_) (fun hc_7 => ?_)
        · rw [if_pos hc_7] at h
          refine az_E.sn 1 (pc' := 15) (L' := [.int a1, .int (0 : Int32), .int ((8 : Int32) - (1 : Int32))]) (S' := [.int (0 : Int32)]) (σ' := (97, I, J, R)) rfl ?_
          refine az_E.ret (v := some (.int (0 : Int32))) (σ' := (97, I, J, R)) rfl ?_
          show az_E az_F ex 1 40 19 [.ref 4, .int a1, .int a2, .ref 6] [.int (0 : Int32)] (97, I, J, R) _
          refine az_E.br (c := (0 : Int32) = 0) (tt := 22) (ff := 27) (L' := [.ref 4, .int a1, .int a2, .ref 6]) (S' := []) (σ' := (97, I, J, R)) rfl (fun _ => ?_) (fun hn => absurd (by decide) hn)
          refine az_E.sn 2 (pc' := 26) (L' := [.ref 4, .int a1, .int a2, .ref 6]) (S' := [.int (I 4 10)]) (σ' := (97, I, J, R)) rfl ?_
          have h := Option.some.inj h
          subst h
          exact az_E.ret (v := some (.int (I 4 10))) (σ' := (97, I, J, R)) rfl hQ
        · rw [if_neg hc_7] at h
          refine az_E.sn 2 (pc' := 15) (L' := [.int a1, .int (0 : Int32), .int ((8 : Int32) - (1 : Int32))]) (S' := [.int (1 : Int32)]) (σ' := (97, I, J, R)) rfl ?_
          refine az_E.ret (v := some (.int (1 : Int32))) (σ' := (97, I, J, R)) rfl ?_
          show az_E az_F ex 1 40 19 [.ref 4, .int a1, .int a2, .ref 6] [.int (1 : Int32)] (97, I, J, R) _
          refine az_E.br (c := (1 : Int32) = 0) (tt := 22) (ff := 27) (L' := [.ref 4, .int a1, .int a2, .ref 6]) (S' := []) (σ' := (97, I, J, R)) rfl (fun hn => absurd hn (by decide)) (fun _ => ?_)
          refine az_E.sn 2 (pc' := 29) (L' := [.ref 4, .int a1, .int a2, .ref 6]) (S' := [.int a1, .ref 6]) (σ' := (97, I, J, R)) rfl ?_
          by_cases hc_8 : a1 < 0 ∨ 8 ≤ a1.toNatClampNeg
          · rw [if_pos hc_8] at h; cases h
          · rw [if_neg hc_8] at h
            refine az_E.oi (o := az_ai az_F ex (97, I, J, R) 6 a1) (pc' := 30) (L' := [.ref 4, .int a1, .int a2, .ref 6]) (S' := []) (σ' := (97, I, J, R)) (x := (I 6 a1.toNatClampNeg)) rfl (if_neg hc_8) ?_
            have h := Option.some.inj h
            subst h
            exact az_E.ret (v := some (.int (I 6 a1.toNatClampNeg))) (σ' := (97, I, J, R)) rfl hQ
    · rw [if_neg hc_5] at h
      by_cases hc_9 : a2 = (2 : Int32)
      · rw [if_pos hc_9] at h
        refine az_E.sw hc_9 (pc' := 62) (L' := [.ref 4, .int a2]) (S' := []) (σ' := (97, I, J, R)) rfl ?_
        refine az_E.sn 2 (pc' := 66) (L' := [.ref 4, .int a2]) (S' := [.ref 7]) (σ' := (97, I, J, R)) rfl ?_
        refine az_E.ret (v := some (.ref 7)) (σ' := (97, I, J, R)) rfl ?_
        show az_E az_F ex 1 40 5 [.ref 4, .int a1, .int a2, .retAddr 0] [.ref 7] (97, I, J, R) _
        refine az_E.sn 9 (pc' := 16) (L' := [.ref 4, .int a1, .int a2, .ref 7]) (S' := [.int ((8 : Int32) - (1 : Int32)), .int (0 : Int32), .int a1]) (σ' := (97, I, J, R)) rfl ?_
        refine az_E.call (d := 0) (k' := 131) (vs := [.int a1, .int (0 : Int32), .int ((8 : Int32) - (1 : Int32))]) (pc' := 19) (S' := []) rfl ?_ (fun _ _ hq => hq)
        show az_E az_F ex 0 131 0 [.int a1, .int (0 : Int32), .int ((8 : Int32) - (1 : Int32))] [] (97, I, J, R) _
        refine az_E.sn 2 (pc' := 2) (L' := [.int a1, .int (0 : Int32), .int ((8 : Int32) - (1 : Int32))]) (S' := [.int (0 : Int32), .int a1]) (σ' := (97, I, J, R)) rfl ?_
        refine az_E.br (c := a1 < (0 : Int32)) (tt := 14) (ff := 5) (L' := [.int a1, .int (0 : Int32), .int ((8 : Int32) - (1 : Int32))]) (S' := []) (σ' := (97, I, J, R)) rfl (fun hc_10 => ?_) (fun hc_10 => ?_)
        · rw [if_pos hc_10] at h
          refine az_E.sn 1 (pc' := 15) (L' := [.int a1, .int (0 : Int32), .int ((8 : Int32) - (1 : Int32))]) (S' := [.int (0 : Int32)]) (σ' := (97, I, J, R)) rfl ?_
          refine az_E.ret (v := some (.int (0 : Int32))) (σ' := (97, I, J, R)) rfl ?_
          show az_E az_F ex 1 40 19 [.ref 4, .int a1, .int a2, .ref 7] [.int (0 : Int32)] (97, I, J, R) _
          refine az_E.br (c := (0 : Int32) = 0) (tt := 22) (ff := 27) (L' := [.ref 4, .int a1, .int a2, .ref 7]) (S' := []) (σ' := (97, I, J, R)) rfl (fun _ => ?_) (fun hn => absurd (by decide) hn)
          refine az_E.sn 2 (pc' := 26) (L' := [.ref 4, .int a1, .int a2, .ref 7]) (S' := [.int (I 4 10)]) (σ' := (97, I, J, R)) rfl ?_
          have h := Option.some.inj h
          subst h
          exact az_E.ret (v := some (.int (I 4 10))) (σ' := (97, I, J, R)) rfl hQ
        · rw [if_neg hc_10] at h
          refine az_E.sn 2 (pc' := 7) (L' := [.int a1, .int (0 : Int32), .int ((8 : Int32) - (1 : Int32))]) (S' := [.int ((8 : Int32) - (1 : Int32)), .int a1]) (σ' := (97, I, J, R)) rfl ?_
          refine az_E.br (c := ((8 : Int32) - (1 : Int32)) < a1) (tt := 14) (ff := 10) (L' := [.int a1, .int (0 : Int32), .int ((8 : Int32) - (1 : Int32))]) (S' := []) (σ' := (97, I, J, R)) rfl (fun hc_11 => ?_) (fun hc_11 => ?_)
          · rw [if_pos hc_11] at h
            refine az_E.sn 1 (pc' := 15) (L' := [.int a1, .int (0 : Int32), .int ((8 : Int32) - (1 : Int32))]) (S' := [.int (0 : Int32)]) (σ' := (97, I, J, R)) rfl ?_
            refine az_E.ret (v := some (.int (0 : Int32))) (σ' := (97, I, J, R)) rfl ?_
            show az_E az_F ex 1 40 19 [.ref 4, .int a1, .int a2, .ref 7] [.int (0 : Int32)] (97, I, J, R) _
            refine az_E.br (c := (0 : Int32) = 0) (tt := 22) (ff := 27) (L' := [.ref 4, .int a1, .int a2, .ref 7]) (S' := []) (σ' := (97, I, J, R)) rfl (fun _ => ?_) (fun hn => absurd (by decide) hn)
            refine az_E.sn 2 (pc' := 26) (L' := [.ref 4, .int a1, .int a2, .ref 7]) (S' := [.int (I 4 10)]) (σ' := (97, I, J, R)) rfl ?_
            have h := Option.some.inj h
            subst h
            exact az_E.ret (v := some (.int (I 4 10))) (σ' := (97, I, J, R)) rfl hQ
          · rw [if_neg hc_11] at h
            refine az_E.sn 2 (pc' := 15) (L' := [.int a1, .int (0 : Int32), .int ((8 : Int32) - (1 : Int32))]) (S' := [.int (1 : Int32)]) (σ' := (97, I, J, R)) rfl ?_
            refine az_E.ret (v := some (.int (1 : Int32))) (σ' := (97, I, J, R)) rfl ?_
            show az_E az_F ex 1 40 19 [.ref 4, .int a1, .int a2, .ref 7] [.int (1 : Int32)] (97, I, J, R) _
            refine az_E.br (c := (1 : Int32) = 0) (tt := 22) (ff := 27) (L' := [.ref 4, .int a1, .int a2, .ref 7]) (S' := []) (σ' := (97, I, J, R)) rfl (fun hn => absurd hn (by decide)) (fun _ => ?_)
            refine az_E.sn 2 (pc' := 29) (L' := [.ref 4, .int a1, .int a2, .ref 7]) (S' := [.int a1, .ref 7]) (σ' := (97, I, J, R)) rfl ?_
            by_cases hc_12 : a1 < 0 ∨ 8 ≤ a1.toNatClampNeg
            · rw [if_pos hc_12] at h; cases h
            · rw [if_neg hc_12] at h
              refine az_E.oi (o := az_ai az_F ex (97, I, J, R) 7 a1) (pc' := 30) (L' := [.ref 4, .int a1, .int a2, .ref 7]) (S' := []) (σ' := (97, I, J, R)) (x := (I 7 a1.toNatClampNeg)) rfl (if_neg hc_12) ?_
              have h := Option.some.inj h
              subst h
              exact az_E.ret (v := some (.int (I 7 a1.toNatClampNeg))) (σ' := (97, I, J, R)) rfl hQ
      · rw [if_neg hc_9] at h
        by_cases hc_13 : a2 = (3 : Int32)
        · rw [if_pos hc_13] at h
          refine az_E.sw hc_13 (pc' := 67) (L' := [.ref 4, .int a2]) (S' := []) (σ' := (97, I, J, R)) rfl ?_
          refine az_E.sn 2 (pc' := 71) (L' := [.ref 4, .int a2]) (S' := [.ref 8]) (σ' := (97, I, J, R)) rfl ?_
          refine az_E.ret (v := some (.ref 8)) (σ' := (97, I, J, R)) rfl ?_
          show az_E az_F ex 1 40 5 [.ref 4, .int a1, .int a2, .retAddr 0] [.ref 8] (97, I, J, R) _
          refine az_E.sn 9 (pc' := 16) (L' := [.ref 4, .int a1, .int a2, .ref 8]) (S' := [.int ((6 : Int32) - (1 : Int32)), .int (0 : Int32), .int a1]) (σ' := (97, I, J, R)) rfl ?_
          refine az_E.call (d := 0) (k' := 131) (vs := [.int a1, .int (0 : Int32), .int ((6 : Int32) - (1 : Int32))]) (pc' := 19) (S' := []) rfl ?_ (fun _ _ hq => hq)
          show az_E az_F ex 0 131 0 [.int a1, .int (0 : Int32), .int ((6 : Int32) - (1 : Int32))] [] (97, I, J, R) _
          refine az_E.sn 2 (pc' := 2) (L' := [.int a1, .int (0 : Int32), .int ((6 : Int32) - (1 : Int32))]) (S' := [.int (0 : Int32), .int a1]) (σ' := (97, I, J, R)) rfl ?_
          refine az_E.br (c := a1 < (0 : Int32)) (tt := 14) (ff := 5) (L' := [.int a1, .int (0 : Int32), .int ((6 : Int32) - (1 : Int32))]) (S' := []) (σ' := (97, I, J, R)) rfl (fun hc_14 => ?_) (fun hc_14 => ?_)
          · rw [if_pos hc_14] at h
            refine az_E.sn 1 (pc' := 15) (L' := [.int a1, .int (0 : Int32), .int ((6 : Int32) - (1 : Int32))]) (S' := [.int (0 : Int32)]) (σ' := (97, I, J, R)) rfl ?_
            refine az_E.ret (v := some (.int (0 : Int32))) (σ' := (97, I, J, R)) rfl ?_
            show az_E az_F ex 1 40 19 [.ref 4, .int a1, .int a2, .ref 8] [.int (0 : Int32)] (97, I, J, R) _
            refine az_E.br (c := (0 : Int32) = 0) (tt := 22) (ff := 27) (L' := [.ref 4, .int a1, .int a2, .ref 8]) (S' := []) (σ' := (97, I, J, R)) rfl (fun _ => ?_) (fun hn => absurd (by decide) hn)
            refine az_E.sn 2 (pc' := 26) (L' := [.ref 4, .int a1, .int a2, .ref 8]) (S' := [.int (I 4 10)]) (σ' := (97, I, J, R)) rfl ?_
            have h := Option.some.inj h
            subst h
            exact az_E.ret (v := some (.int (I 4 10))) (σ' := (97, I, J, R)) rfl hQ
          · rw [if_neg hc_14] at h
            refine az_E.sn 2 (pc' := 7) (L' := [.int a1, .int (0 : Int32), .int ((6 : Int32) - (1 : Int32))]) (S' := [.int ((6 : Int32) - (1 : Int32)), .int a1]) (σ' := (97, I, J, R)) rfl ?_
            refine az_E.br (c := ((6 : Int32) - (1 : Int32)) < a1) (tt := 14) (ff := 10) (L' := [.int a1, .int (0 : Int32), .int ((6 : Int32) - (1 : Int32))]) (S' := []) (σ' := (97, I, J, R)) rfl (fun hc_15 => ?_) (fun hc_15 => ?_)
            · rw [if_pos hc_15] at h
              refine az_E.sn 1 (pc' := 15) (L' := [.int a1, .int (0 : Int32), .int ((6 : Int32) - (1 : Int32))]) (S' := [.int (0 : Int32)]) (σ' := (97, I, J, R)) rfl ?_
              refine az_E.ret (v := some (.int (0 : Int32))) (σ' := (97, I, J, R)) rfl ?_
              show az_E az_F ex 1 40 19 [.ref 4, .int a1, .int a2, .ref 8] [.int (0 : Int32)] (97, I, J, R) _
              refine az_E.br (c := (0 : Int32) = 0) (tt := 22) (ff := 27) (L' := [.ref 4, .int a1, .int a2, .ref 8]) (S' := []) (σ' := (97, I, J, R)) rfl (fun _ => ?_) (fun hn => absurd (by decide) hn)
              refine az_E.sn 2 (pc' := 26) (L' := [.ref 4, .int a1, .int a2, .ref 8]) (S' := [.int (I 4 10)]) (σ' := (97, I, J, R)) rfl ?_
              have h := Option.some.inj h
              subst h
              exact az_E.ret (v := some (.int (I 4 10))) (σ' := (97, I, J, R)) rfl hQ
            · rw [if_neg hc_15] at h
              refine az_E.sn 2 (pc' := 15) (L' := [.int a1, .int (0 : Int32), .int ((6 : Int32) - (1 : Int32))]) (S' := [.int (1 : Int32)]) (σ' := (97, I, J, R)) rfl ?_
              refine az_E.ret (v := some (.int (1 : Int32))) (σ' := (97, I, J, R)) rfl ?_
              show az_E az_F ex 1 40 19 [.ref 4, .int a1, .int a2, .ref 8] [.int (1 : Int32)] (97, I, J, R) _
              refine az_E.br (c := (1 : Int32) = 0) (tt := 22) (ff := 27) (L' := [.ref 4, .int a1, .int a2, .ref 8]) (S' := []) (σ' := (97, I, J, R)) rfl (fun hn => absurd hn (by decide)) (fun _ => ?_)
              refine az_E.sn 2 (pc' := 29) (L' := [.ref 4, .int a1, .int a2, .ref 8]) (S' := [.int a1, .ref 8]) (σ' := (97, I, J, R)) rfl ?_
              by_cases hc_16 : a1 < 0 ∨ 6 ≤ a1.toNatClampNeg
              · rw [if_pos hc_16] at h; cases h
              · rw [if_neg hc_16] at h
                refine az_E.oi (o := az_ai az_F ex (97, I, J, R) 8 a1) (pc' := 30) (L' := [.ref 4, .int a1, .int a2, .ref 8]) (S' := []) (σ' := (97, I, J, R)) (x := (I 8 a1.toNatClampNeg)) rfl (if_neg hc_16) ?_
                have h := Option.some.inj h
                subst h
                exact az_E.ret (v := some (.int (I 8 a1.toNatClampNeg))) (σ' := (97, I, J, R)) rfl hQ
        · rw [if_neg hc_13] at h
          by_cases hc_17 : a2 = (4 : Int32)
          · rw [if_pos hc_17] at h
            refine az_E.sw hc_17 (pc' := 72) (L' := [.ref 4, .int a2]) (S' := []) (σ' := (97, I, J, R)) rfl ?_
            refine az_E.sn 2 (pc' := 76) (L' := [.ref 4, .int a2]) (S' := [.ref 9]) (σ' := (97, I, J, R)) rfl ?_
            refine az_E.ret (v := some (.ref 9)) (σ' := (97, I, J, R)) rfl ?_
            show az_E az_F ex 1 40 5 [.ref 4, .int a1, .int a2, .retAddr 0] [.ref 9] (97, I, J, R) _
            refine az_E.sn 9 (pc' := 16) (L' := [.ref 4, .int a1, .int a2, .ref 9]) (S' := [.int ((6 : Int32) - (1 : Int32)), .int (0 : Int32), .int a1]) (σ' := (97, I, J, R)) rfl ?_
            refine az_E.call (d := 0) (k' := 131) (vs := [.int a1, .int (0 : Int32), .int ((6 : Int32) - (1 : Int32))]) (pc' := 19) (S' := []) rfl ?_ (fun _ _ hq => hq)
            show az_E az_F ex 0 131 0 [.int a1, .int (0 : Int32), .int ((6 : Int32) - (1 : Int32))] [] (97, I, J, R) _
            refine az_E.sn 2 (pc' := 2) (L' := [.int a1, .int (0 : Int32), .int ((6 : Int32) - (1 : Int32))]) (S' := [.int (0 : Int32), .int a1]) (σ' := (97, I, J, R)) rfl ?_
            refine az_E.br (c := a1 < (0 : Int32)) (tt := 14) (ff := 5) (L' := [.int a1, .int (0 : Int32), .int ((6 : Int32) - (1 : Int32))]) (S' := []) (σ' := (97, I, J, R)) rfl (fun hc_18 => ?_) (fun hc_18 => ?_)
            · rw [if_pos hc_18] at h
              refine az_E.sn 1 (pc' := 15) (L' := [.int a1, .int (0 : Int32), .int ((6 : Int32) - (1 : Int32))]) (S' := [.int (0 : Int32)]) (σ' := (97, I, J, R)) rfl ?_
              refine az_E.ret (v := some (.int (0 : Int32))) (σ' := (97, I, J, R)) rfl ?_
              show az_E az_F ex 1 40 19 [.ref 4, .int a1, .int a2, .ref 9] [.int (0 : Int32)] (97, I, J, R) _
              refine az_E.br (c := (0 : Int32) = 0) (tt := 22) (ff := 27) (L' := [.ref 4, .int a1, .int a2, .ref 9]) (S' := []) (σ' := (97, I, J, R)) rfl (fun _ => ?_) (fun hn => absurd (by decide) hn)
              refine az_E.sn 2 (pc' := 26) (L' := [.ref 4, .int a1, .int a2, .ref 9]) (S' := [.int (I 4 10)]) (σ' := (97, I, J, R)) rfl ?_
              have h := Option.some.inj h
              subst h
              exact az_E.ret (v := some (.int (I 4 10))) (σ' := (97, I, J, R)) rfl hQ
            · rw [if_neg hc_18] at h
              refine az_E.sn 2 (pc' := 7) (L' := [.int a1, .int (0 : Int32), .int ((6 : Int32) - (1 : Int32))]) (S' := [.int ((6 : Int32) - (1 : Int32)), .int a1]) (σ' := (97, I, J, R)) rfl ?_
              refine az_E.br (c := ((6 : Int32) - (1 : Int32)) < a1) (tt := 14) (ff := 10) (L' := [.int a1, .int (0 : Int32), .int ((6 : Int32) - (1 : Int32))]) (S' := []) (σ' := (97, I, J, R)) rfl (fun hc_19 => ?_) (fun hc_19 => ?_)
              · rw [if_pos hc_19] at h
                refine az_E.sn 1 (pc' := 15) (L' := [.int a1, .int (0 : Int32), .int ((6 : Int32) - (1 : Int32))]) (S' := [.int (0 : Int32)]) (σ' := (97, I, J, R)) rfl ?_
                refine az_E.ret (v := some (.int (0 : Int32))) (σ' := (97, I, J, R)) rfl ?_
                show az_E az_F ex 1 40 19 [.ref 4, .int a1, .int a2, .ref 9] [.int (0 : Int32)] (97, I, J, R) _
                refine az_E.br (c := (0 : Int32) = 0) (tt := 22) (ff := 27) (L' := [.ref 4, .int a1, .int a2, .ref 9]) (S' := []) (σ' := (97, I, J, R)) rfl (fun _ => ?_) (fun hn => absurd (by decide) hn)
                refine az_E.sn 2 (pc' := 26) (L' := [.ref 4, .int a1, .int a2, .ref 9]) (S' := [.int (I 4 10)]) (σ' := (97, I, J, R)) rfl ?_
                have h := Option.some.inj h
                subst h
                exact az_E.ret (v := some (.int (I 4 10))) (σ' := (97, I, J, R)) rfl hQ
              · rw [if_neg hc_19] at h
                refine az_E.sn 2 (pc' := 15) (L' := [.int a1, .int (0 : Int32), .int ((6 : Int32) - (1 : Int32))]) (S' := [.int (1 : Int32)]) (σ' := (97, I, J, R)) rfl ?_
                refine az_E.ret (v := some (.int (1 : Int32))) (σ' := (97, I, J, R)) rfl ?_
                show az_E az_F ex 1 40 19 [.ref 4, .int a1, .int a2, .ref 9] [.int (1 : Int32)] (97, I, J, R) _
                refine az_E.br (c := (1 : Int32) = 0) (tt := 22) (ff := 27) (L' := [.ref 4, .int a1, .int a2, .ref 9]) (S' := []) (σ' := (97, I, J, R)) rfl (fun hn => absurd hn (by decide)) (fun _ => ?_)
                refine az_E.sn 2 (pc' := 29) (L' := [.ref 4, .int a1, .int a2, .ref 9]) (S' := [.int a1, .ref 9]) (σ' := (97, I, J, R)) rfl ?_
                by_cases hc_20 : a1 < 0 ∨ 6 ≤ a1.toNatClampNeg
                · rw [if_pos hc_20] at h; cases h
                · rw [if_neg hc_20] at h
                  refine az_E.oi (o := az_ai az_F ex (97, I, J, R) 9 a1) (pc' := 30) (L' := [.ref 4, .int a1, .int a2, .ref 9]) (S' := []) (σ' := (97, I, J, R)) (x := (I 9 a1.toNatClampNeg)) rfl (if_neg hc_20) ?_
                  have h := Option.some.inj h
                  subst h
                  exact az_E.ret (v := some (.int (I 9 a1.toNatClampNeg))) (σ' := (97, I, J, R)) rfl hQ
          · rw [if_neg hc_17] at h
            by_cases hc_21 : a2 = (5 : Int32)
            · rw [if_pos hc_21] at h
              refine az_E.sw hc_21 (pc' := 77) (L' := [.ref 4, .int a2]) (S' := []) (σ' := (97, I, J, R)) rfl ?_
              refine az_E.sn 2 (pc' := 81) (L' := [.ref 4, .int a2]) (S' := [.ref 10]) (σ' := (97, I, J, R)) rfl ?_
              refine az_E.ret (v := some (.ref 10)) (σ' := (97, I, J, R)) rfl ?_
              show az_E az_F ex 1 40 5 [.ref 4, .int a1, .int a2, .retAddr 0] [.ref 10] (97, I, J, R) _
              refine az_E.sn 9 (pc' := 16) (L' := [.ref 4, .int a1, .int a2, .ref 10]) (S' := [.int ((6 : Int32) - (1 : Int32)), .int (0 : Int32), .int a1]) (σ' := (97, I, J, R)) rfl ?_
              refine az_E.call (d := 0) (k' := 131) (vs := [.int a1, .int (0 : Int32), .int ((6 : Int32) - (1 : Int32))]) (pc' := 19) (S' := []) rfl ?_ (fun _ _ hq => hq)
              show az_E az_F ex 0 131 0 [.int a1, .int (0 : Int32), .int ((6 : Int32) - (1 : Int32))] [] (97, I, J, R) _
              refine az_E.sn 2 (pc' := 2) (L' := [.int a1, .int (0 : Int32), .int ((6 : Int32) - (1 : Int32))]) (S' := [.int (0 : Int32), .int a1]) (σ' := (97, I, J, R)) rfl ?_
              refine az_E.br (c := a1 < (0 : Int32)) (tt := 14) (ff := 5) (L' := [.int a1, .int (0 : Int32), .int ((6 : Int32) - (1 : Int32))]) (S' := []) (σ' := (97, I, J, R)) rfl (fun hc_22 => ?_) (fun hc_22 => ?_)
              · rw [if_pos hc_22] at h
                refine az_E.sn 1 (pc' := 15) (L' := [.int a1, .int (0 : Int32), .int ((6 : Int32) - (1 : Int32))]) (S' := [.int (0 : Int32)]) (σ' := (97, I, J, R)) rfl ?_
                refine az_E.ret (v := some (.int (0 : Int32))) (σ' := (97, I, J, R)) rfl ?_
                show az_E az_F ex 1 40 19 [.ref 4, .int a1, .int a2, .ref 10] [.int (0 : Int32)] (97, I, J, R) _
                refine az_E.br (c := (0 : Int32) = 0) (tt := 22) (ff := 27) (L' := [.ref 4, .int a1, .int a2, .ref 10]) (S' := []) (σ' := (97, I, J, R)) rfl (fun _ => ?_) (fun hn => absurd (by decide) hn)
                refine az_E.sn 2 (pc' := 26) (L' := [.ref 4, .int a1, .int a2, .ref 10]) (S' := [.int (I 4 10)]) (σ' := (97, I, J, R)) rfl ?_
                have h := Option.some.inj h
                subst h
                exact az_E.ret (v := some (.int (I 4 10))) (σ' := (97, I, J, R)) rfl hQ
              · rw [if_neg hc_22] at h
                refine az_E.sn 2 (pc' := 7) (L' := [.int a1, .int (0 : Int32), .int ((6 : Int32) - (1 : Int32))]) (S' := [.int ((6 : Int32) - (1 : Int32)), .int a1]) (σ' := (97, I, J, R)) rfl ?_
                refine az_E.br (c := ((6 : Int32) - (1 : Int32)) < a1) (tt := 14) (ff := 10) (L' := [.int a1, .int (0 : Int32), .int ((6 : Int32) - (1 : Int32))]) (S' := []) (σ' := (97, I, J, R)) rfl (fun hc_23 => ?_) (fun hc_23 => ?_)
                · rw [if_pos hc_23] at h
                  refine az_E.sn 1 (pc' := 15) (L' := [.int a1, .int (0 : Int32), .int ((6 : Int32) - (1 : Int32))]) (S' := [.int (0 : Int32)]) (σ' := (97, I, J, R)) rfl ?_
                  refine az_E.ret (v := some (.int (0 : Int32))) (σ' := (97, I, J, R)) rfl ?_
                  show az_E az_F ex 1 40 19 [.ref 4, .int a1, .int a2, .ref 10] [.int (0 : Int32)] (97, I, J, R) _
                  refine az_E.br (c := (0 : Int32) = 0) (tt := 22) (ff := 27) (L' := [.ref 4, .int a1, .int a2, .ref 10]) (S' := []) (σ' := (97, I, J, R)) rfl (fun _ => ?_) (fun hn => absurd (by decide) hn)
                  refine az_E.sn 2 (pc' := 26) (L' := [.ref 4, .int a1, .int a2, .ref 10]) (S' := [.int (I 4 10)]) (σ' := (97, I, J, R)) rfl ?_
                  have h := Option.some.inj h
                  subst h
                  exact az_E.ret (v := some (.int (I 4 10))) (σ' := (97, I, J, R)) rfl hQ
                · rw [if_neg hc_23] at h
                  refine az_E.sn 2 (pc' := 15) (L' := [.int a1, .int (0 : Int32), .int ((6 : Int32) - (1 : Int32))]) (S' := [.int (1 : Int32)]) (σ' := (97, I, J, R)) rfl ?_
                  refine az_E.ret (v := some (.int (1 : Int32))) (σ' := (97, I, J, R)) rfl ?_
                  show az_E az_F ex 1 40 19 [.ref 4, .int a1, .int a2, .ref 10] [.int (1 : Int32)] (97, I, J, R) _
                  refine az_E.br (c := (1 : Int32) = 0) (tt := 22) (ff := 27) (L' := [.ref 4, .int a1, .int a2, .ref 10]) (S' := []) (σ' := (97, I, J, R)) rfl (fun hn => absurd hn (by decide)) (fun _ => ?_)
                  refine az_E.sn 2 (pc' := 29) (L' := [.ref 4, .int a1, .int a2, .ref 10]) (S' := [.int a1, .ref 10]) (σ' := (97, I, J, R)) rfl ?_
                  by_cases hc_24 : a1 < 0 ∨ 6 ≤ a1.toNatClampNeg
                  · rw [if_pos hc_24] at h; cases h
                  · rw [if_neg hc_24] at h
                    refine az_E.oi (o := az_ai az_F ex (97, I, J, R) 10 a1) (pc' := 30) (L' := [.ref 4, .int a1, .int a2, .ref 10]) (S' := []) (σ' := (97, I, J, R)) (x := (I 10 a1.toNatClampNeg)) rfl (if_neg hc_24) ?_
                    have h := Option.some.inj h
                    subst h
                    exact az_E.ret (v := some (.int (I 10 a1.toNatClampNeg))) (σ' := (97, I, J, R)) rfl hQ
            · rw [if_neg hc_21] at h
              by_cases hc_25 : a2 = (6 : Int32)
              · rw [if_pos hc_25] at h
                refine az_E.sw hc_25 (pc' := 92) (L' := [.ref 4, .int a2]) (S' := []) (σ' := (97, I, J, R)) rfl ?_
                refine az_E.sn 1 (pc' := 93) (L' := [.ref 4, .int a2]) (S' := [.null]) (σ' := (97, I, J, R)) rfl ?_
                refine az_E.ret (v := some (.null)) (σ' := (97, I, J, R)) rfl ?_
                show az_E az_F ex 1 40 5 [.ref 4, .int a1, .int a2, .retAddr 0] [.null] (97, I, J, R) _
                refine az_E.sn 5 (pc' := 26) (L' := [.ref 4, .int a1, .int a2, .null]) (S' := [.int (I 4 10)]) (σ' := (97, I, J, R)) rfl ?_
                have h := Option.some.inj h
                subst h
                exact az_E.ret (v := some (.int (I 4 10))) (σ' := (97, I, J, R)) rfl hQ
              · rw [if_neg hc_25] at h
                by_cases hc_26 : a2 = (7 : Int32)
                · rw [if_pos hc_26] at h
                  refine az_E.sw hc_26 (pc' := 82) (L' := [.ref 4, .int a2]) (S' := []) (σ' := (97, I, J, R)) rfl ?_
                  refine az_E.sn 2 (pc' := 86) (L' := [.ref 4, .int a2]) (S' := [.ref 11]) (σ' := (97, I, J, R)) rfl ?_
                  refine az_E.ret (v := some (.ref 11)) (σ' := (97, I, J, R)) rfl ?_
                  show az_E az_F ex 1 40 5 [.ref 4, .int a1, .int a2, .retAddr 0] [.ref 11] (97, I, J, R) _
                  refine az_E.sn 9 (pc' := 16) (L' := [.ref 4, .int a1, .int a2, .ref 11]) (S' := [.int ((6 : Int32) - (1 : Int32)), .int (0 : Int32), .int a1]) (σ' := (97, I, J, R)) rfl ?_
                  refine az_E.call (d := 0) (k' := 131) (vs := [.int a1, .int (0 : Int32), .int ((6 : Int32) - (1 : Int32))]) (pc' := 19) (S' := []) rfl ?_ (fun _ _ hq => hq)
                  show az_E az_F ex 0 131 0 [.int a1, .int (0 : Int32), .int ((6 : Int32) - (1 : Int32))] [] (97, I, J, R) _
                  refine az_E.sn 2 (pc' := 2) (L' := [.int a1, .int (0 : Int32), .int ((6 : Int32) - (1 : Int32))]) (S' := [.int (0 : Int32), .int a1]) (σ' := (97, I, J, R)) rfl ?_
                  refine az_E.br (c := a1 < (0 : Int32)) (tt := 14) (ff := 5) (L' := [.int a1, .int (0 : Int32), .int ((6 : Int32) - (1 : Int32))]) (S' := []) (σ' := (97, I, J, R)) rfl (fun hc_27 => ?_) (fun hc_27 => ?_)
                  · rw [if_pos hc_27] at h
                    refine az_E.sn 1 (pc' := 15) (L' := [.int a1, .int (0 : Int32), .int ((6 : Int32) - (1 : Int32))]) (S' := [.int (0 : Int32)]) (σ' := (97, I, J, R)) rfl ?_
                    refine az_E.ret (v := some (.int (0 : Int32))) (σ' := (97, I, J, R)) rfl ?_
                    show az_E az_F ex 1 40 19 [.ref 4, .int a1, .int a2, .ref 11] [.int (0 : Int32)] (97, I, J, R) _
                    refine az_E.br (c := (0 : Int32) = 0) (tt := 22) (ff := 27) (L' := [.ref 4, .int a1, .int a2, .ref 11]) (S' := []) (σ' := (97, I, J, R)) rfl (fun _ => ?_) (fun hn => absurd (by decide) hn)
                    refine az_E.sn 2 (pc' := 26) (L' := [.ref 4, .int a1, .int a2, .ref 11]) (S' := [.int (I 4 10)]) (σ' := (97, I, J, R)) rfl ?_
                    have h := Option.some.inj h
                    subst h
                    exact az_E.ret (v := some (.int (I 4 10))) (σ' := (97, I, J, R)) rfl hQ
                  · rw [if_neg hc_27] at h
                    refine az_E.sn 2 (pc' := 7) (L' := [.int a1, .int (0 : Int32), .int ((6 : Int32) - (1 : Int32))]) (S' := [.int ((6 : Int32) - (1 : Int32)), .int a1]) (σ' := (97, I, J, R)) rfl ?_
                    refine az_E.br (c := ((6 : Int32) - (1 : Int32)) < a1) (tt := 14) (ff := 10) (L' := [.int a1, .int (0 : Int32), .int ((6 : Int32) - (1 : Int32))]) (S' := []) (σ' := (97, I, J, R)) rfl (fun hc_28 => ?_) (fun hc_28 => ?_)
                    · rw [if_pos hc_28] at h
                      refine az_E.sn 1 (pc' := 15) (L' := [.int a1, .int (0 : Int32), .int ((6 : Int32) - (1 : Int32))]) (S' := [.int (0 : Int32)]) (σ' := (97, I, J, R)) rfl ?_
                      refine az_E.ret (v := some (.int (0 : Int32))) (σ' := (97, I, J, R)) rfl ?_
                      show az_E az_F ex 1 40 19 [.ref 4, .int a1, .int a2, .ref 11] [.int (0 : Int32)] (97, I, J, R) _
                      refine az_E.br (c := (0 : Int32) = 0) (tt := 22) (ff := 27) (L' := [.ref 4, .int a1, .int a2, .ref 11]) (S' := []) (σ' := (97, I, J, R)) rfl (fun _ => ?_) (fun hn => absurd (by decide) hn)
                      refine az_E.sn 2 (pc' := 26) (L' := [.ref 4, .int a1, .int a2, .ref 11]) (S' := [.int (I 4 10)]) (σ' := (97, I, J, R)) rfl ?_
                      have h := Option.some.inj h
                      subst h
                      exact az_E.ret (v := some (.int (I 4 10))) (σ' := (97, I, J, R)) rfl hQ
                    · rw [if_neg hc_28] at h
                      refine az_E.sn 2 (pc' := 15) (L' := [.int a1, .int (0 : Int32), .int ((6 : Int32) - (1 : Int32))]) (S' := [.int (1 : Int32)]) (σ' := (97, I, J, R)) rfl ?_
                      refine az_E.ret (v := some (.int (1 : Int32))) (σ' := (97, I, J, R)) rfl ?_
                      show az_E az_F ex 1 40 19 [.ref 4, .int a1, .int a2, .ref 11] [.int (1 : Int32)] (97, I, J, R) _
                      refine az_E.br (c := (1 : Int32) = 0) (tt := 22) (ff := 27) (L' := [.ref 4, .int a1, .int a2, .ref 11]) (S' := []) (σ' := (97, I, J, R)) rfl (fun hn => absurd hn (by decide)) (fun _ => ?_)
                      refine az_E.sn 2 (pc' := 29) (L' := [.ref 4, .int a1, .int a2, .ref 11]) (S' := [.int a1, .ref 11]) (σ' := (97, I, J, R)) rfl ?_
                      by_cases hc_29 : a1 < 0 ∨ 6 ≤ a1.toNatClampNeg
                      · rw [if_pos hc_29] at h; cases h
                      · rw [if_neg hc_29] at h
                        refine az_E.oi (o := az_ai az_F ex (97, I, J, R) 11 a1) (pc' := 30) (L' := [.ref 4, .int a1, .int a2, .ref 11]) (S' := []) (σ' := (97, I, J, R)) (x := (I 11 a1.toNatClampNeg)) rfl (if_neg hc_29) ?_
                        have h := Option.some.inj h
                        subst h
                        exact az_E.ret (v := some (.int (I 11 a1.toNatClampNeg))) (σ' := (97, I, J, R)) rfl hQ
                · rw [if_neg hc_26] at h
                  by_cases hc_30 : a2 = (8 : Int32)
                  · rw [if_pos hc_30] at h
                    refine az_E.sw hc_30 (pc' := 87) (L' := [.ref 4, .int a2]) (S' := []) (σ' := (97, I, J, R)) rfl ?_
                    refine az_E.sn 2 (pc' := 91) (L' := [.ref 4, .int a2]) (S' := [.ref 12]) (σ' := (97, I, J, R)) rfl ?_
                    refine az_E.ret (v := some (.ref 12)) (σ' := (97, I, J, R)) rfl ?_
                    show az_E az_F ex 1 40 5 [.ref 4, .int a1, .int a2, .retAddr 0] [.ref 12] (97, I, J, R) _
                    refine az_E.sn 9 (pc' := 16) (L' := [.ref 4, .int a1, .int a2, .ref 12]) (S' := [.int ((6 : Int32) - (1 : Int32)), .int (0 : Int32), .int a1]) (σ' := (97, I, J, R)) rfl ?_
                    refine az_E.call (d := 0) (k' := 131) (vs := [.int a1, .int (0 : Int32), .int ((6 : Int32) - (1 : Int32))]) (pc' := 19) (S' := []) rfl ?_ (fun _ _ hq => hq)
                    show az_E az_F ex 0 131 0 [.int a1, .int (0 : Int32), .int ((6 : Int32) - (1 : Int32))] [] (97, I, J, R) _
                    refine az_E.sn 2 (pc' := 2) (L' := [.int a1, .int (0 : Int32), .int ((6 : Int32) - (1 : Int32))]) (S' := [.int (0 : Int32), .int a1]) (σ' := (97, I, J, R)) rfl ?_
                    refine az_E.br (c := a1 < (0 : Int32)) (tt := 14) (ff := 5) (L' := [.int a1, .int (0 : Int32), .int ((6 : Int32) - (1 : Int32))]) (S' := []) (σ' := (97, I, J, R)) rfl (fun hc_31 => ?_) (fun hc_31 => ?_)
                    · rw [if_pos hc_31] at h
                      refine az_E.sn 1 (pc' := 15) (L' := [.int a1, .int (0 : Int32), .int ((6 : Int32) - (1 : Int32))]) (S' := [.int (0 : Int32)]) (σ' := (97, I, J, R)) rfl ?_
                      refine az_E.ret (v := some (.int (0 : Int32))) (σ' := (97, I, J, R)) rfl ?_
                      show az_E az_F ex 1 40 19 [.ref 4, .int a1, .int a2, .ref 12] [.int (0 : Int32)] (97, I, J, R) _
                      refine az_E.br (c := (0 : Int32) = 0) (tt := 22) (ff := 27) (L' := [.ref 4, .int a1, .int a2, .ref 12]) (S' := []) (σ' := (97, I, J, R)) rfl (fun _ => ?_) (fun hn => absurd (by decide) hn)
                      refine az_E.sn 2 (pc' := 26) (L' := [.ref 4, .int a1, .int a2, .ref 12]) (S' := [.int (I 4 10)]) (σ' := (97, I, J, R)) rfl ?_
                      have h := Option.some.inj h
                      subst h
                      exact az_E.ret (v := some (.int (I 4 10))) (σ' := (97, I, J, R)) rfl hQ
                    · rw [if_neg hc_31] at h
                      refine az_E.sn 2 (pc' := 7) (L' := [.int a1, .int (0 : Int32), .int ((6 : Int32) - (1 : Int32))]) (S' := [.int ((6 : Int32) - (1 : Int32)), .int a1]) (σ' := (97, I, J, R)) rfl ?_
                      refine az_E.br (c := ((6 : Int32) - (1 : Int32)) < a1) (tt := 14) (ff := 10) (L' := [.int a1, .int (0 : Int32), .int ((6 : Int32) - (1 : Int32))]) (S' := []) (σ' := (97, I, J, R)) rfl (fun hc_32 => ?_) (fun hc_32 => ?_)
                      · rw [if_pos hc_32] at h
                        refine az_E.sn 1 (pc' := 15) (L' := [.int a1, .int (0 : Int32), .int ((6 : Int32) - (1 : Int32))]) (S' := [.int (0 : Int32)]) (σ' := (97, I, J, R)) rfl ?_
                        refine az_E.ret (v := some (.int (0 : Int32))) (σ' := (97, I, J, R)) rfl ?_
                        show az_E az_F ex 1 40 19 [.ref 4, .int a1, .int a2, .ref 12] [.int (0 : Int32)] (97, I, J, R) _
                        refine az_E.br (c := (0 : Int32) = 0) (tt := 22) (ff := 27) (L' := [.ref 4, .int a1, .int a2, .ref 12]) (S' := []) (σ' := (97, I, J, R)) rfl (fun _ => ?_) (fun hn => absurd (by decide) hn)
                        refine az_E.sn 2 (pc' := 26) (L' := [.ref 4, .int a1, .int a2, .ref 12]) (S' := [.int (I 4 10)]) (σ' := (97, I, J, R)) rfl ?_
                        have h := Option.some.inj h
                        subst h
                        exact az_E.ret (v := some (.int (I 4 10))) (σ' := (97, I, J, R)) rfl hQ
                      · rw [if_neg hc_32] at h
                        refine az_E.sn 2 (pc' := 15) (L' := [.int a1, .int (0 : Int32), .int ((6 : Int32) - (1 : Int32))]) (S' := [.int (1 : Int32)]) (σ' := (97, I, J, R)) rfl ?_
                        refine az_E.ret (v := some (.int (1 : Int32))) (σ' := (97, I, J, R)) rfl ?_
                        show az_E az_F ex 1 40 19 [.ref 4, .int a1, .int a2, .ref 12] [.int (1 : Int32)] (97, I, J, R) _
                        refine az_E.br (c := (1 : Int32) = 0) (tt := 22) (ff := 27) (L' := [.ref 4, .int a1, .int a2, .ref 12]) (S' := []) (σ' := (97, I, J, R)) rfl (fun hn => absurd hn (by decide)) (fun _ => ?_)
                        refine az_E.sn 2 (pc' := 29) (L' := [.ref 4, .int a1, .int a2, .ref 12]) (S' := [.int a1, .ref 12]) (σ' := (97, I, J, R)) rfl ?_
                        by_cases hc_33 : a1 < 0 ∨ 6 ≤ a1.toNatClampNeg
                        · rw [if_pos hc_33] at h; cases h
                        · rw [if_neg hc_33] at h
                          refine az_E.oi (o := az_ai az_F ex (97, I, J, R) 12 a1) (pc' := 30) (L' := [.ref 4, .int a1, .int a2, .ref 12]) (S' := []) (σ' := (97, I, J, R)) (x := (I 12 a1.toNatClampNeg)) rfl (if_neg hc_33) ?_
                          have h := Option.some.inj h
                          subst h
                          exact az_E.ret (v := some (.int (I 12 a1.toNatClampNeg))) (σ' := (97, I, J, R)) rfl hQ
                  · rw [if_neg hc_30] at h
                    have ehc_1 := az_nei hc_1 (z := 0) (by decide)
                    have ehc_5 := az_nei hc_5 (z := 1) (by decide)
                    have ehc_9 := az_nei hc_9 (z := 2) (by decide)
                    have ehc_13 := az_nei hc_13 (z := 3) (by decide)
                    have ehc_17 := az_nei hc_17 (z := 4) (by decide)
                    have ehc_21 := az_nei hc_21 (z := 5) (by decide)
                    have ehc_25 := az_nei hc_25 (z := 6) (by decide)
                    have ehc_26 := az_nei hc_26 (z := 7) (by decide)
                    have ehc_30 := az_nei hc_30 (z := 8) (by decide)
                    refine az_E.swd (a := 92) (lo := 0) (hi := 8) (offs := #[51, 56, 61, 66, 71, 76, 91, 81, 86]) rfl (by omega) ?_
                    refine az_E.sn 1 (pc' := 93) (L' := [.ref 4, .int a2]) (S' := [.null]) (σ' := (97, I, J, R)) rfl ?_
                    refine az_E.ret (v := some (.null)) (σ' := (97, I, J, R)) rfl ?_
                    show az_E az_F ex 1 40 5 [.ref 4, .int a1, .int a2, .retAddr 0] [.null] (97, I, J, R) _
                    refine az_E.sn 5 (pc' := 26) (L' := [.ref 4, .int a1, .int a2, .null]) (S' := [.int (I 4 10)]) (σ' := (97, I, J, R)) rfl ?_
                    have h := Option.some.inj h
                    subst h
                    exact az_E.ret (v := some (.int (I 4 10))) (σ' := (97, I, J, R)) rfl hQ
set_option maxRecDepth 100000 in
set_option maxHeartbeats 4000000 in
theorem re_Ch_forgetOldest {ex : az_X} {I : Nat → Nat → Int32} {J : Nat → Nat → Int64} {R : Nat → Nat → Option Nat} {o : (Nat → Nat → Int32)} (h : rs_Ch_forgetOldest I = some o) {Q : Option Value → az_S → Prop} (hQ : Q none (97, o, J, R)) : az_E az_F ex 1 12 0 [.ref 44] [] (97, I, J, R) Q := by
  unfold rs_Ch_forgetOldest at h
  refine az_E.sn 11 (pc' := 20) (L' := [.ref 44]) (S' := [.int (39 : Int32), .int (0 : Int32), .ref 45, .int (1 : Int32), .ref 45]) (σ' := (97, (az_u I 44 4 (39 : Int32)), J, R)) rfl ?_
  refine az_E.o (o := az_cp az_F (97, (az_u I 44 4 (39 : Int32)), J, R) 45 (1 : Int32) 45 (0 : Int32) (39 : Int32)) (pc' := 23) (L' := [.ref 44]) (S' := []) (x := (97, (az_ur (az_u I 44 4 (39 : Int32)) 45 (va_cpy ((az_u I 44 4 (39 : Int32)) 45) ((az_u I 44 4 (39 : Int32)) 45) 1 0 39)), J, R)) rfl rfl ?_
  refine az_E.sn 8 (pc' := 37) (L' := [.ref 44]) (S' := [.int (39 : Int32), .int (0 : Int32), .ref 46, .int (1 : Int32), .ref 46]) (σ' := (97, (az_ur (az_u I 44 4 (39 : Int32)) 45 (va_cpy ((az_u I 44 4 (39 : Int32)) 45) ((az_u I 44 4 (39 : Int32)) 45) 1 0 39)), J, R)) rfl ?_
  refine az_E.o (o := az_cp az_F (97, (az_ur (az_u I 44 4 (39 : Int32)) 45 (va_cpy ((az_u I 44 4 (39 : Int32)) 45) ((az_u I 44 4 (39 : Int32)) 45) 1 0 39)), J, R) 46 (1 : Int32) 46 (0 : Int32) (39 : Int32)) (pc' := 40) (L' := [.ref 44]) (S' := []) (x := (97, (az_ur (az_ur (az_u I 44 4 (39 : Int32)) 45 (va_cpy ((az_u I 44 4 (39 : Int32)) 45) ((az_u I 44 4 (39 : Int32)) 45) 1 0 39)) 46 (va_cpy ((az_ur (az_u I 44 4 (39 : Int32)) 45 (va_cpy ((az_u I 44 4 (39 : Int32)) 45) ((az_u I 44 4 (39 : Int32)) 45) 1 0 39)) 46) ((az_ur (az_u I 44 4 (39 : Int32)) 45 (va_cpy ((az_u I 44 4 (39 : Int32)) 45) ((az_u I 44 4 (39 : Int32)) 45) 1 0 39)) 46) 1 0 39)), J, R)) rfl rfl ?_
  refine az_E.sn 8 (pc' := 54) (L' := [.ref 44]) (S' := [.int (39 : Int32), .int (0 : Int32), .ref 47, .int (1 : Int32), .ref 47]) (σ' := (97, (az_ur (az_ur (az_u I 44 4 (39 : Int32)) 45 (va_cpy ((az_u I 44 4 (39 : Int32)) 45) ((az_u I 44 4 (39 : Int32)) 45) 1 0 39)) 46 (va_cpy ((az_ur (az_u I 44 4 (39 : Int32)) 45 (va_cpy ((az_u I 44 4 (39 : Int32)) 45) ((az_u I 44 4 (39 : Int32)) 45) 1 0 39)) 46) ((az_ur (az_u I 44 4 (39 : Int32)) 45 (va_cpy ((az_u I 44 4 (39 : Int32)) 45) ((az_u I 44 4 (39 : Int32)) 45) 1 0 39)) 46) 1 0 39)), J, R)) rfl ?_
  refine az_E.o (o := az_cp az_F (97, (az_ur (az_ur (az_u I 44 4 (39 : Int32)) 45 (va_cpy ((az_u I 44 4 (39 : Int32)) 45) ((az_u I 44 4 (39 : Int32)) 45) 1 0 39)) 46 (va_cpy ((az_ur (az_u I 44 4 (39 : Int32)) 45 (va_cpy ((az_u I 44 4 (39 : Int32)) 45) ((az_u I 44 4 (39 : Int32)) 45) 1 0 39)) 46) ((az_ur (az_u I 44 4 (39 : Int32)) 45 (va_cpy ((az_u I 44 4 (39 : Int32)) 45) ((az_u I 44 4 (39 : Int32)) 45) 1 0 39)) 46) 1 0 39)), J, R) 47 (1 : Int32) 47 (0 : Int32) (39 : Int32)) (pc' := 57) (L' := [.ref 44]) (S' := []) (x := (97, (az_ur (az_ur (az_ur (az_u I 44 4 (39 : Int32)) 45 (va_cpy ((az_u I 44 4 (39 : Int32)) 45) ((az_u I 44 4 (39 : Int32)) 45) 1 0 39)) 46 (va_cpy ((az_ur (az_u I 44 4 (39 : Int32)) 45 (va_cpy ((az_u I 44 4 (39 : Int32)) 45) ((az_u I 44 4 (39 : Int32)) 45) 1 0 39)) 46) ((az_ur (az_u I 44 4 (39 : Int32)) 45 (va_cpy ((az_u I 44 4 (39 : Int32)) 45) ((az_u I 44 4 (39 : Int32)) 45) 1 0 39)) 46) 1 0 39)) 47 (va_cpy ((az_ur (az_ur (az_u I 44 4 (39 : Int32)) 45 (va_cpy ((az_u I 44 4 (39 : Int32)) 45) ((az_u I 44 4 (39 : Int32)) 45) 1 0 39)) 46 (va_cpy ((az_ur (az_u I 44 4 (39 : Int32)) 45 (va_cpy ((az_u I 44 4 (39 : Int32)) 45) ((az_u I 44 4 (39 : Int32)) 45) 1 0 39)) 46) ((az_ur (az_u I 44 4 (39 : Int32)) 45 (va_cpy ((az_u I 44 4 (39 : Int32)) 45) ((az_u I 44 4 (39 : Int32)) 45) 1 0 39)) 46) 1 0 39)) 47) ((az_ur (az_ur (az_u I 44 4 (39 : Int32)) 45 (va_cpy ((az_u I 44 4 (39 : Int32)) 45) ((az_u I 44 4 (39 : Int32)) 45) 1 0 39)) 46 (va_cpy ((az_ur (az_u I 44 4 (39 : Int32)) 45 (va_cpy ((az_u I 44 4 (39 : Int32)) 45) ((az_u I 44 4 (39 : Int32)) 45) 1 0 39)) 46) ((az_ur (az_u I 44 4 (39 : Int32)) 45 (va_cpy ((az_u I 44 4 (39 : Int32)) 45) ((az_u I 44 4 (39 : Int32)) 45) 1 0 39)) 46) 1 0 39)) 47) 1 0 39)), J, R)) rfl rfl ?_
  refine az_E.sn 8 (pc' := 71) (L' := [.ref 44]) (S' := [.int (39 : Int32), .int (0 : Int32), .ref 48, .int (1 : Int32), .ref 48]) (σ' := (97, (az_ur (az_ur (az_ur (az_u I 44 4 (39 : Int32)) 45 (va_cpy ((az_u I 44 4 (39 : Int32)) 45) ((az_u I 44 4 (39 : Int32)) 45) 1 0 39)) 46 (va_cpy ((az_ur (az_u I 44 4 (39 : Int32)) 45 (va_cpy ((az_u I 44 4 (39 : Int32)) 45) ((az_u I 44 4 (39 : Int32)) 45) 1 0 39)) 46) ((az_ur (az_u I 44 4 (39 : Int32)) 45 (va_cpy ((az_u I 44 4 (39 : Int32)) 45) ((az_u I 44 4 (39 : Int32)) 45) 1 0 39)) 46) 1 0 39)) 47 (va_cpy ((az_ur (az_ur (az_u I 44 4 (39 : Int32)) 45 (va_cpy ((az_u I 44 4 (39 : Int32)) 45) ((az_u I 44 4 (39 : Int32)) 45) 1 0 39)) 46 (va_cpy ((az_ur (az_u I 44 4 (39 : Int32)) 45 (va_cpy ((az_u I 44 4 (39 : Int32)) 45) ((az_u I 44 4 (39 : Int32)) 45) 1 0 39)) 46) ((az_ur (az_u I 44 4 (39 : Int32)) 45 (va_cpy ((az_u I 44 4 (39 : Int32)) 45) ((az_u I 44 4 (39 : Int32)) 45) 1 0 39)) 46) 1 0 39)) 47) ((az_ur (az_ur (az_u I 44 4 (39 : Int32)) 45 (va_cpy ((az_u I 44 4 (39 : Int32)) 45) ((az_u I 44 4 (39 : Int32)) 45) 1 0 39)) 46 (va_cpy ((az_ur (az_u I 44 4 (39 : Int32)) 45 (va_cpy ((az_u I 44 4 (39 : Int32)) 45) ((az_u I 44 4 (39 : Int32)) 45) 1 0 39)) 46) ((az_ur (az_u I 44 4 (39 : Int32)) 45 (va_cpy ((az_u I 44 4 (39 : Int32)) 45) ((az_u I 44 4 (39 : Int32)) 45) 1 0 39)) 46) 1 0 39)) 47) 1 0 39)), J, R)) rfl ?_
  refine az_E.o (o := az_cp az_F (97, (az_ur (az_ur (az_ur (az_u I 44 4 (39 : Int32)) 45 (va_cpy ((az_u I 44 4 (39 : Int32)) 45) ((az_u I 44 4 (39 : Int32)) 45) 1 0 39)) 46 (va_cpy ((az_ur (az_u I 44 4 (39 : Int32)) 45 (va_cpy ((az_u I 44 4 (39 : Int32)) 45) ((az_u I 44 4 (39 : Int32)) 45) 1 0 39)) 46) ((az_ur (az_u I 44 4 (39 : Int32)) 45 (va_cpy ((az_u I 44 4 (39 : Int32)) 45) ((az_u I 44 4 (39 : Int32)) 45) 1 0 39)) 46) 1 0 39)) 47 (va_cpy ((az_ur (az_ur (az_u I 44 4 (39 : Int32)) 45 (va_cpy ((az_u I 44 4 (39 : Int32)) 45) ((az_u I 44 4 (39 : Int32)) 45) 1 0 39)) 46 (va_cpy ((az_ur (az_u I 44 4 (39 : Int32)) 45 (va_cpy ((az_u I 44 4 (39 : Int32)) 45) ((az_u I 44 4 (39 : Int32)) 45) 1 0 39)) 46) ((az_ur (az_u I 44 4 (39 : Int32)) 45 (va_cpy ((az_u I 44 4 (39 : Int32)) 45) ((az_u I 44 4 (39 : Int32)) 45) 1 0 39)) 46) 1 0 39)) 47) ((az_ur (az_ur (az_u I 44 4 (39 : Int32)) 45 (va_cpy ((az_u I 44 4 (39 : Int32)) 45) ((az_u I 44 4 (39 : Int32)) 45) 1 0 39)) 46 (va_cpy ((az_ur (az_u I 44 4 (39 : Int32)) 45 (va_cpy ((az_u I 44 4 (39 : Int32)) 45) ((az_u I 44 4 (39 : Int32)) 45) 1 0 39)) 46) ((az_ur (az_u I 44 4 (39 : Int32)) 45 (va_cpy ((az_u I 44 4 (39 : Int32)) 45) ((az_u I 44 4 (39 : Int32)) 45) 1 0 39)) 46) 1 0 39)) 47) 1 0 39)), J, R) 48 (1 : Int32) 48 (0 : Int32) (39 : Int32)) (pc' := 74) (L' := [.ref 44]) (S' := []) (x := (97, (az_ur (az_ur (az_ur (az_ur (az_u I 44 4 (39 : Int32)) 45 (va_cpy ((az_u I 44 4 (39 : Int32)) 45) ((az_u I 44 4 (39 : Int32)) 45) 1 0 39)) 46 (va_cpy ((az_ur (az_u I 44 4 (39 : Int32)) 45 (va_cpy ((az_u I 44 4 (39 : Int32)) 45) ((az_u I 44 4 (39 : Int32)) 45) 1 0 39)) 46) ((az_ur (az_u I 44 4 (39 : Int32)) 45 (va_cpy ((az_u I 44 4 (39 : Int32)) 45) ((az_u I 44 4 (39 : Int32)) 45) 1 0 39)) 46) 1 0 39)) 47 (va_cpy ((az_ur (az_ur (az_u I 44 4 (39 : Int32)) 45 (va_cpy ((az_u I 44 4 (39 : Int32)) 45) ((az_u I 44 4 (39 : Int32)) 45) 1 0 39)) 46 (va_cpy ((az_ur (az_u I 44 4 (39 : Int32)) 45 (va_cpy ((az_u I 44 4 (39 : Int32)) 45) ((az_u I 44 4 (39 : Int32)) 45) 1 0 39)) 46) ((az_ur (az_u I 44 4 (39 : Int32)) 45 (va_cpy ((az_u I 44 4 (39 : Int32)) 45) ((az_u I 44 4 (39 : Int32)) 45) 1 0 39)) 46) 1 0 39)) 47) ((az_ur (az_ur (az_u I 44 4 (39 : Int32)) 45 (va_cpy ((az_u I 44 4 (39 : Int32)) 45) ((az_u I 44 4 (39 : Int32)) 45) 1 0 39)) 46 (va_cpy ((az_ur (az_u I 44 4 (39 : Int32)) 45 (va_cpy ((az_u I 44 4 (39 : Int32)) 45) ((az_u I 44 4 (39 : Int32)) 45) 1 0 39)) 46) ((az_ur (az_u I 44 4 (39 : Int32)) 45 (va_cpy ((az_u I 44 4 (39 : Int32)) 45) ((az_u I 44 4 (39 : Int32)) 45) 1 0 39)) 46) 1 0 39)) 47) 1 0 39)) 48 (va_cpy ((az_ur (az_ur (az_ur (az_u I 44 4 (39 : Int32)) 45 (va_cpy ((az_u I 44 4 (39 : Int32)) 45) ((az_u I 44 4 (39 : Int32)) 45) 1 0 39)) 46 (va_cpy ((az_ur (az_u I 44 4 (39 : Int32)) 45 (va_cpy ((az_u I 44 4 (39 : Int32)) 45) ((az_u I 44 4 (39 : Int32)) 45) 1 0 39)) 46) ((az_ur (az_u I 44 4 (39 : Int32)) 45 (va_cpy ((az_u I 44 4 (39 : Int32)) 45) ((az_u I 44 4 (39 : Int32)) 45) 1 0 39)) 46) 1 0 39)) 47 (va_cpy ((az_ur (az_ur (az_u I 44 4 (39 : Int32)) 45 (va_cpy ((az_u I 44 4 (39 : Int32)) 45) ((az_u I 44 4 (39 : Int32)) 45) 1 0 39)) 46 (va_cpy ((az_ur (az_u I 44 4 (39 : Int32)) 45 (va_cpy ((az_u I 44 4 (39 : Int32)) 45) ((az_u I 44 4 (39 : Int32)) 45) 1 0 39)) 46) ((az_ur (az_u I 44 4 (39 : Int32)) 45 (va_cpy ((az_u I 44 4 (39 : Int32)) 45) ((az_u I 44 4 (39 : Int32)) 45) 1 0 39)) 46) 1 0 39)) 47) ((az_ur (az_ur (az_u I 44 4 (39 : Int32)) 45 (va_cpy ((az_u I 44 4 (39 : Int32)) 45) ((az_u I 44 4 (39 : Int32)) 45) 1 0 39)) 46 (va_cpy ((az_ur (az_u I 44 4 (39 : Int32)) 45 (va_cpy ((az_u I 44 4 (39 : Int32)) 45) ((az_u I 44 4 (39 : Int32)) 45) 1 0 39)) 46) ((az_ur (az_u I 44 4 (39 : Int32)) 45 (va_cpy ((az_u I 44 4 (39 : Int32)) 45) ((az_u I 44 4 (39 : Int32)) 45) 1 0 39)) 46) 1 0 39)) 47) 1 0 39)) 48) ((az_ur (az_ur (az_ur (az_u I 44 4 (39 : Int32)) 45 (va_cpy ((az_u I 44 4 (39 : Int32)) 45) ((az_u I 44 4 (39 : Int32)) 45) 1 0 39)) 46 (va_cpy ((az_ur (az_u I 44 4 (39 : Int32)) 45 (va_cpy ((az_u I 44 4 (39 : Int32)) 45) ((az_u I 44 4 (39 : Int32)) 45) 1 0 39)) 46) ((az_ur (az_u I 44 4 (39 : Int32)) 45 (va_cpy ((az_u I 44 4 (39 : Int32)) 45) ((az_u I 44 4 (39 : Int32)) 45) 1 0 39)) 46) 1 0 39)) 47 (va_cpy ((az_ur (az_ur (az_u I 44 4 (39 : Int32)) 45 (va_cpy ((az_u I 44 4 (39 : Int32)) 45) ((az_u I 44 4 (39 : Int32)) 45) 1 0 39)) 46 (va_cpy ((az_ur (az_u I 44 4 (39 : Int32)) 45 (va_cpy ((az_u I 44 4 (39 : Int32)) 45) ((az_u I 44 4 (39 : Int32)) 45) 1 0 39)) 46) ((az_ur (az_u I 44 4 (39 : Int32)) 45 (va_cpy ((az_u I 44 4 (39 : Int32)) 45) ((az_u I 44 4 (39 : Int32)) 45) 1 0 39)) 46) 1 0 39)) 47) ((az_ur (az_ur (az_u I 44 4 (39 : Int32)) 45 (va_cpy ((az_u I 44 4 (39 : Int32)) 45) ((az_u I 44 4 (39 : Int32)) 45) 1 0 39)) 46 (va_cpy ((az_ur (az_u I 44 4 (39 : Int32)) 45 (va_cpy ((az_u I 44 4 (39 : Int32)) 45) ((az_u I 44 4 (39 : Int32)) 45) 1 0 39)) 46) ((az_ur (az_u I 44 4 (39 : Int32)) 45 (va_cpy ((az_u I 44 4 (39 : Int32)) 45) ((az_u I 44 4 (39 : Int32)) 45) 1 0 39)) 46) 1 0 39)) 47) 1 0 39)) 48) 1 0 39)), J, R)) rfl rfl ?_
  have h := Option.some.inj h
  subst h
  exact az_E.ret (v := none) (σ' := (97, (az_ur (az_ur (az_ur (az_ur (az_u I 44 4 (39 : Int32)) 45 (va_cpy ((az_u I 44 4 (39 : Int32)) 45) ((az_u I 44 4 (39 : Int32)) 45) 1 0 39)) 46 (va_cpy ((az_ur (az_u I 44 4 (39 : Int32)) 45 (va_cpy ((az_u I 44 4 (39 : Int32)) 45) ((az_u I 44 4 (39 : Int32)) 45) 1 0 39)) 46) ((az_ur (az_u I 44 4 (39 : Int32)) 45 (va_cpy ((az_u I 44 4 (39 : Int32)) 45) ((az_u I 44 4 (39 : Int32)) 45) 1 0 39)) 46) 1 0 39)) 47 (va_cpy ((az_ur (az_ur (az_u I 44 4 (39 : Int32)) 45 (va_cpy ((az_u I 44 4 (39 : Int32)) 45) ((az_u I 44 4 (39 : Int32)) 45) 1 0 39)) 46 (va_cpy ((az_ur (az_u I 44 4 (39 : Int32)) 45 (va_cpy ((az_u I 44 4 (39 : Int32)) 45) ((az_u I 44 4 (39 : Int32)) 45) 1 0 39)) 46) ((az_ur (az_u I 44 4 (39 : Int32)) 45 (va_cpy ((az_u I 44 4 (39 : Int32)) 45) ((az_u I 44 4 (39 : Int32)) 45) 1 0 39)) 46) 1 0 39)) 47) ((az_ur (az_ur (az_u I 44 4 (39 : Int32)) 45 (va_cpy ((az_u I 44 4 (39 : Int32)) 45) ((az_u I 44 4 (39 : Int32)) 45) 1 0 39)) 46 (va_cpy ((az_ur (az_u I 44 4 (39 : Int32)) 45 (va_cpy ((az_u I 44 4 (39 : Int32)) 45) ((az_u I 44 4 (39 : Int32)) 45) 1 0 39)) 46) ((az_ur (az_u I 44 4 (39 : Int32)) 45 (va_cpy ((az_u I 44 4 (39 : Int32)) 45) ((az_u I 44 4 (39 : Int32)) 45) 1 0 39)) 46) 1 0 39)) 47) 1 0 39)) 48 (va_cpy ((az_ur (az_ur (az_ur (az_u I 44 4 (39 : Int32)) 45 (va_cpy ((az_u I 44 4 (39 : Int32)) 45) ((az_u I 44 4 (39 : Int32)) 45) 1 0 39)) 46 (va_cpy ((az_ur (az_u I 44 4 (39 : Int32)) 45 (va_cpy ((az_u I 44 4 (39 : Int32)) 45) ((az_u I 44 4 (39 : Int32)) 45) 1 0 39)) 46) ((az_ur (az_u I 44 4 (39 : Int32)) 45 (va_cpy ((az_u I 44 4 (39 : Int32)) 45) ((az_u I 44 4 (39 : Int32)) 45) 1 0 39)) 46) 1 0 39)) 47 (va_cpy ((az_ur (az_ur (az_u I 44 4 (39 : Int32)) 45 (va_cpy ((az_u I 44 4 (39 : Int32)) 45) ((az_u I 44 4 (39 : Int32)) 45) 1 0 39)) 46 (va_cpy ((az_ur (az_u I 44 4 (39 : Int32)) 45 (va_cpy ((az_u I 44 4 (39 : Int32)) 45) ((az_u I 44 4 (39 : Int32)) 45) 1 0 39)) 46) ((az_ur (az_u I 44 4 (39 : Int32)) 45 (va_cpy ((az_u I 44 4 (39 : Int32)) 45) ((az_u I 44 4 (39 : Int32)) 45) 1 0 39)) 46) 1 0 39)) 47) ((az_ur (az_ur (az_u I 44 4 (39 : Int32)) 45 (va_cpy ((az_u I 44 4 (39 : Int32)) 45) ((az_u I 44 4 (39 : Int32)) 45) 1 0 39)) 46 (va_cpy ((az_ur (az_u I 44 4 (39 : Int32)) 45 (va_cpy ((az_u I 44 4 (39 : Int32)) 45) ((az_u I 44 4 (39 : Int32)) 45) 1 0 39)) 46) ((az_ur (az_u I 44 4 (39 : Int32)) 45 (va_cpy ((az_u I 44 4 (39 : Int32)) 45) ((az_u I 44 4 (39 : Int32)) 45) 1 0 39)) 46) 1 0 39)) 47) 1 0 39)) 48) ((az_ur (az_ur (az_ur (az_u I 44 4 (39 : Int32)) 45 (va_cpy ((az_u I 44 4 (39 : Int32)) 45) ((az_u I 44 4 (39 : Int32)) 45) 1 0 39)) 46 (va_cpy ((az_ur (az_u I 44 4 (39 : Int32)) 45 (va_cpy ((az_u I 44 4 (39 : Int32)) 45) ((az_u I 44 4 (39 : Int32)) 45) 1 0 39)) 46) ((az_ur (az_u I 44 4 (39 : Int32)) 45 (va_cpy ((az_u I 44 4 (39 : Int32)) 45) ((az_u I 44 4 (39 : Int32)) 45) 1 0 39)) 46) 1 0 39)) 47 (va_cpy ((az_ur (az_ur (az_u I 44 4 (39 : Int32)) 45 (va_cpy ((az_u I 44 4 (39 : Int32)) 45) ((az_u I 44 4 (39 : Int32)) 45) 1 0 39)) 46 (va_cpy ((az_ur (az_u I 44 4 (39 : Int32)) 45 (va_cpy ((az_u I 44 4 (39 : Int32)) 45) ((az_u I 44 4 (39 : Int32)) 45) 1 0 39)) 46) ((az_ur (az_u I 44 4 (39 : Int32)) 45 (va_cpy ((az_u I 44 4 (39 : Int32)) 45) ((az_u I 44 4 (39 : Int32)) 45) 1 0 39)) 46) 1 0 39)) 47) ((az_ur (az_ur (az_u I 44 4 (39 : Int32)) 45 (va_cpy ((az_u I 44 4 (39 : Int32)) 45) ((az_u I 44 4 (39 : Int32)) 45) 1 0 39)) 46 (va_cpy ((az_ur (az_u I 44 4 (39 : Int32)) 45 (va_cpy ((az_u I 44 4 (39 : Int32)) 45) ((az_u I 44 4 (39 : Int32)) 45) 1 0 39)) 46) ((az_ur (az_u I 44 4 (39 : Int32)) 45 (va_cpy ((az_u I 44 4 (39 : Int32)) 45) ((az_u I 44 4 (39 : Int32)) 45) 1 0 39)) 46) 1 0 39)) 47) 1 0 39)) 48) 1 0 39)), J, R)) rfl hQ
set_option maxRecDepth 100000 in
set_option maxHeartbeats 4000000 in
theorem re_Ch_add_13 {ex : az_X} {I : Nat → Nat → Int32} {J : Nat → Nat → Int64} {R : Nat → Nat → Option Nat} {v1 : Int32} {v2 : Int32} {v3 : Int32} {v4 : Int32} {x : (Nat → Nat → Int32)} (h : rs_Ch_add_13 I v1 v2 v3 v4 = some x) {Q : Option Value → az_S → Prop} (hQ : Q none (97, x, J, R)) : az_E az_F ex 2 11 13 [.ref 44, .int v1, .int v2, .int v3, .int v4] [] (97, I, J, R) Q := by
  unfold rs_Ch_add_13 at h
  refine az_E.sn 5 (pc' := 22) (L' := [.ref 44, .int v1, .int v2, .int v3, .int v4]) (S' := [.int v1, .int (I 44 4), .ref 45]) (σ' := (97, I, J, R)) rfl ?_
  by_cases hc_2 : (I 44 4) < 0 ∨ 40 ≤ (I 44 4).toNatClampNeg
  · rw [if_pos hc_2] at h; cases h
  · rw [if_neg hc_2] at h
    refine az_E.o (o := az_si az_F (97, I, J, R) 45 (I 44 4) v1) (pc' := 23) (L' := [.ref 44, .int v1, .int v2, .int v3, .int v4]) (S' := []) (x := (97, (az_u I 45 (I 44 4).toNatClampNeg v1), J, R)) rfl (if_neg hc_2) ?_
    refine az_E.sn 5 (pc' := 32) (L' := [.ref 44, .int v1, .int v2, .int v3, .int v4]) (S' := [.int v2, .int (I 44 4), .ref 46]) (σ' := (97, (az_u I 45 (I 44 4).toNatClampNeg v1), J, R)) rfl ?_
    by_cases hc_3 : (I 44 4) < 0 ∨ 40 ≤ (I 44 4).toNatClampNeg
    · rw [if_pos hc_3] at h; cases h
    · rw [if_neg hc_3] at h
      refine az_E.o (o := az_si az_F (97, (az_u I 45 (I 44 4).toNatClampNeg v1), J, R) 46 (I 44 4) v2) (pc' := 33) (L' := [.ref 44, .int v1, .int v2, .int v3, .int v4]) (S' := []) (x := (97, (az_u (az_u I 45 (I 44 4).toNatClampNeg v1) 46 (I 44 4).toNatClampNeg v2), J, R)) rfl (if_neg hc_3) ?_
      refine az_E.sn 5 (pc' := 42) (L' := [.ref 44, .int v1, .int v2, .int v3, .int v4]) (S' := [.int v3, .int (I 44 4), .ref 47]) (σ' := (97, (az_u (az_u I 45 (I 44 4).toNatClampNeg v1) 46 (I 44 4).toNatClampNeg v2), J, R)) rfl ?_
      by_cases hc_4 : (I 44 4) < 0 ∨ 40 ≤ (I 44 4).toNatClampNeg
      · rw [if_pos hc_4] at h; cases h
      · rw [if_neg hc_4] at h
        refine az_E.o (o := az_si az_F (97, (az_u (az_u I 45 (I 44 4).toNatClampNeg v1) 46 (I 44 4).toNatClampNeg v2), J, R) 47 (I 44 4) v3) (pc' := 43) (L' := [.ref 44, .int v1, .int v2, .int v3, .int v4]) (S' := []) (x := (97, (az_u (az_u (az_u I 45 (I 44 4).toNatClampNeg v1) 46 (I 44 4).toNatClampNeg v2) 47 (I 44 4).toNatClampNeg v3), J, R)) rfl (if_neg hc_4) ?_
        refine az_E.sn 5 (pc' := 53) (L' := [.ref 44, .int v1, .int v2, .int v3, .int v4]) (S' := [.int v4, .int (I 44 4), .ref 48]) (σ' := (97, (az_u (az_u (az_u I 45 (I 44 4).toNatClampNeg v1) 46 (I 44 4).toNatClampNeg v2) 47 (I 44 4).toNatClampNeg v3), J, R)) rfl ?_
        by_cases hc_5 : (I 44 4) < 0 ∨ 40 ≤ (I 44 4).toNatClampNeg
        · rw [if_pos hc_5] at h; cases h
        · rw [if_neg hc_5] at h
          refine az_E.o (o := az_si az_F (97, (az_u (az_u (az_u I 45 (I 44 4).toNatClampNeg v1) 46 (I 44 4).toNatClampNeg v2) 47 (I 44 4).toNatClampNeg v3), J, R) 48 (I 44 4) v4) (pc' := 54) (L' := [.ref 44, .int v1, .int v2, .int v3, .int v4]) (S' := []) (x := (97, (az_u (az_u (az_u (az_u I 45 (I 44 4).toNatClampNeg v1) 46 (I 44 4).toNatClampNeg v2) 47 (I 44 4).toNatClampNeg v3) 48 (I 44 4).toNatClampNeg v4), J, R)) rfl (if_neg hc_5) ?_
          refine az_E.sn 10 (pc' := 72) (L' := [.ref 44, .int v1, .int v2, .int v3, .int v4]) (S' := []) (σ' := (97, (az_u (az_u (az_u (az_u (az_u (az_u I 45 (I 44 4).toNatClampNeg v1) 46 (I 44 4).toNatClampNeg v2) 47 (I 44 4).toNatClampNeg v3) 48 (I 44 4).toNatClampNeg v4) 44 4 ((I 44 4) + (1 : Int32))) 44 5 ((I 44 4) + (1 : Int32))), J, R)) rfl ?_
          have h := Option.some.inj h
          subst h
          exact az_E.ret (v := none) (σ' := (97, (az_u (az_u (az_u (az_u (az_u (az_u I 45 (I 44 4).toNatClampNeg v1) 46 (I 44 4).toNatClampNeg v2) 47 (I 44 4).toNatClampNeg v3) 48 (I 44 4).toNatClampNeg v4) 44 4 ((I 44 4) + (1 : Int32))) 44 5 ((I 44 4) + (1 : Int32))), J, R)) rfl hQ
set_option maxRecDepth 100000 in
set_option maxHeartbeats 4000000 in
theorem re_Ch_add {ex : az_X} {I : Nat → Nat → Int32} {J : Nat → Nat → Int64} {R : Nat → Nat → Option Nat} {a1 : Int32} {a2 : Int32} {a3 : Int32} {a4 : Int32} {o : (Nat → Nat → Int32)} (h : rs_Ch_add I a1 a2 a3 a4 = some o) {Q : Option Value → az_S → Prop} (hQ : Q none (97, o, J, R)) : az_E az_F ex 2 11 0 [.ref 44, .int a1, .int a2, .int a3, .int a4] [] (97, I, J, R) Q := by
  unfold rs_Ch_add at h
  refine az_E.sn 3 (pc' := 6) (L' := [.ref 44, .int a1, .int a2, .int a3, .int a4]) (S' := [.int (40 : Int32), .int (I 44 4)]) (σ' := (97, I, J, R)) rfl ?_
  refine az_E.br (c := (I 44 4) < (40 : Int32)) (tt := 13) (ff := 9) (L' := [.ref 44, .int a1, .int a2, .int a3, .int a4]) (S' := []) (σ' := (97, I, J, R)) rfl (fun hc_1 => ?_) (fun hc_1 => ?_)
  · rw [if_pos hc_1] at h
    exact az_E.forget (L := [.ref 44, .int a1, .int a2, .int a3, .int a4]) ⟨rfl, rfl, rfl, rfl, rfl, trivial⟩ (re_Ch_add_13 (I := I) (J := J) (R := R)  h hQ)
  · rw [if_neg hc_1] at h
    refine az_E.sn 1 (pc' := 10) (L' := [.ref 44, .int a1, .int a2, .int a3, .int a4]) (S' := [.ref 44]) (σ' := (97, I, J, R)) rfl ?_
    cases hx_7 : rs_Ch_forgetOldest I with
    | none => rw [hx_7] at h; cases h
    | some I_6 =>
      rw [hx_7] at h
      dsimp only at h
      refine az_E.call (d := 1) (k' := 12) (vs := [.ref 44]) (pc' := 13) (S' := []) (Q1 := fun v s => v = none ∧ s = (97, I_6, J, R)) rfl (az_E.deep (by omega) (re_Ch_forgetOldest (J := J) (R := R)  hx_7 ⟨rfl, rfl⟩)) (fun v s hq => ?_)
      obtain ⟨rfl, rfl⟩ := hq
      show az_E az_F ex 2 11 13 [.ref 44, .int a1, .int a2, .int a3, .int a4] [] (97, I_6, J, R) _
      exact az_E.forget (L := [.ref 44, .int a1, .int a2, .int a3, .int a4]) ⟨rfl, rfl, rfl, rfl, rfl, trivial⟩ (re_Ch_add_13 (I := I_6) (J := J) (R := R)  h hQ)
set_option maxRecDepth 100000 in
set_option maxHeartbeats 4000000 in
theorem re_Mo_write {ex : az_X} {I : Nat → Nat → Int32} {J : Nat → Nat → Int64} {R : Nat → Nat → Option Nat} {a1 : Int32} {a2 : Int32} {a3 : Int32} {o : (Nat → Nat → Int32)} (h : rs_Mo_write I a1 a2 a3 = some o) {Q : Option Value → az_S → Prop} (hQ : Q none (97, o, J, R)) : az_E az_F ex 1 41 0 [.ref 4, .int a1, .int a2, .int a3, .retAddr 0] [] (97, I, J, R) Q := by
  unfold rs_Mo_write at h
  refine az_E.sn 2 (pc' := 2) (L' := [.ref 4, .int a1, .int a2, .int a3, .retAddr 0]) (S' := [.int a2, .ref 4]) (σ' := (97, I, J, R)) rfl ?_
  refine az_E.call (d := 0) (k' := 39) (vs := [.ref 4, .int a2]) (pc' := 5) (S' := []) rfl ?_ (fun _ _ hq => hq)
  show az_E az_F ex 0 39 0 [.ref 4, .int a2] [] (97, I, J, R) _
  refine az_E.sn 1 (pc' := 1) (L' := [.ref 4, .int a2]) (S' := [.int a2]) (σ' := (97, I, J, R)) rfl ?_
  by_cases hc_1 : a2 = (0 : Int32)
  · rw [if_pos hc_1] at h
    refine az_E.sw hc_1 (pc' := 52) (L' := [.ref 4, .int a2]) (S' := []) (σ' := (97, I, J, R)) rfl ?_
    refine az_E.sn 2 (pc' := 56) (L' := [.ref 4, .int a2]) (S' := [.ref 5]) (σ' := (97, I, J, R)) rfl ?_
    refine az_E.ret (v := some (.ref 5)) (σ' := (97, I, J, R)) rfl ?_
    show az_E az_F ex 1 41 5 [.ref 4, .int a1, .int a2, .int a3, .retAddr 0] [.ref 5] (97, I, J, R) _
    refine az_E.sn 9 (pc' := 19) (L' := [.ref 4, .int a1, .int a2, .int a3, .ref 5]) (S' := [.int ((144 : Int32) - (1 : Int32)), .int (0 : Int32), .int a1]) (σ' := (97, I, J, R)) rfl ?_
    refine az_E.call (d := 0) (k' := 131) (vs := [.int a1, .int (0 : Int32), .int ((144 : Int32) - (1 : Int32))]) (pc' := 22) (S' := []) rfl ?_ (fun _ _ hq => hq)
    show az_E az_F ex 0 131 0 [.int a1, .int (0 : Int32), .int ((144 : Int32) - (1 : Int32))] [] (97, I, J, R) _
    refine az_E.sn 2 (pc' := 2) (L' := [.int a1, .int (0 : Int32), .int ((144 : Int32) - (1 : Int32))]) (S' := [.int (0 : Int32), .int a1]) (σ' := (97, I, J, R)) rfl ?_
    refine az_E.br (c := a1 < (0 : Int32)) (tt := 14) (ff := 5) (L' := [.int a1, .int (0 : Int32), .int ((144 : Int32) - (1 : Int32))]) (S' := []) (σ' := (97, I, J, R)) rfl (fun hc_2 => ?_) (fun hc_2 => ?_)
    · rw [if_pos hc_2] at h
      refine az_E.sn 1 (pc' := 15) (L' := [.int a1, .int (0 : Int32), .int ((144 : Int32) - (1 : Int32))]) (S' := [.int (0 : Int32)]) (σ' := (97, I, J, R)) rfl ?_
      refine az_E.ret (v := some (.int (0 : Int32))) (σ' := (97, I, J, R)) rfl ?_
      show az_E az_F ex 1 41 22 [.ref 4, .int a1, .int a2, .int a3, .ref 5] [.int (0 : Int32)] (97, I, J, R) _
      refine az_E.br (c := (0 : Int32) = 0) (tt := 25) (ff := 33) (L' := [.ref 4, .int a1, .int a2, .int a3, .ref 5]) (S' := []) (σ' := (97, I, J, R)) rfl (fun _ => ?_) (fun hn => absurd (by decide) hn)
      refine az_E.sn 4 (pc' := 38) (L' := [.ref 4, .int a1, .int a2, .int a3, .ref 5]) (S' := []) (σ' := (97, (az_u I 4 10 a3), J, R)) rfl ?_
      have h := Option.some.inj h
      subst h
      exact az_E.ret (v := none) (σ' := (97, (az_u I 4 10 a3), J, R)) rfl hQ
    · rw [if_neg hc_2] at h
      refine az_E.sn 2 (pc' := 7) (L' := [.int a1, .int (0 : Int32), .int ((144 : Int32) - (1 : Int32))]) (S' := [.int ((144 : Int32) - (1 : Int32)), .int a1]) (σ' := (97, I, J, R)) rfl ?_
      refine az_E.br (c := ((144 : Int32) - (1 : Int32)) < a1) (tt := 14) (ff := 10) (L' := [.int a1, .int (0 : Int32), .int ((144 : Int32) - (1 : Int32))]) (S' := []) (σ' := (97, I, J, R)) rfl (fun hc_3 => ?_) (fun hc_3 => ?_)
      · rw [if_pos hc_3] at h
        refine az_E.sn 1 (pc' := 15) (L' := [.int a1, .int (0 : Int32), .int ((144 : Int32) - (1 : Int32))]) (S' := [.int (0 : Int32)]) (σ' := (97, I, J, R)) rfl ?_
        refine az_E.ret (v := some (.int (0 : Int32))) (σ' := (97, I, J, R)) rfl ?_
        show az_E az_F ex 1 41 22 [.ref 4, .int a1, .int a2, .int a3, .ref 5] [.int (0 : Int32)] (97, I, J, R) _
        refine az_E.br (c := (0 : Int32) = 0) (tt := 25) (ff := 33) (L' := [.ref 4, .int a1, .int a2, .int a3, .ref 5]) (S' := []) (σ' := (97, I, J, R)) rfl (fun _ => ?_) (fun hn => absurd (by decide) hn)
        refine az_E.sn 4 (pc' := 38) (L' := [.ref 4, .int a1, .int a2, .int a3, .ref 5]) (S' := []) (σ' := (97, (az_u I 4 10 a3), J, R)) rfl ?_
        have h := Option.some.inj h
        subst h
        exact az_E.ret (v := none) (σ' := (97, (az_u I 4 10 a3), J, R)) rfl hQ
      · rw [if_neg hc_3] at h
        refine az_E.sn 2 (pc' := 15) (L' := [.int a1, .int (0 : Int32), .int ((144 : Int32) - (1 : Int32))]) (S' := [.int (1 : Int32)]) (σ' := (97, I, J, R)) rfl ?_
        refine az_E.ret (v := some (.int (1 : Int32))) (σ' := (97, I, J, R)) rfl ?_
        show az_E az_F ex 1 41 22 [.ref 4, .int a1, .int a2, .int a3, .ref 5] [.int (1 : Int32)] (97, I, J, R) _
        refine az_E.br (c := (1 : Int32) = 0) (tt := 25) (ff := 33) (L' := [.ref 4, .int a1, .int a2, .int a3, .ref 5]) (S' := []) (σ' := (97, I, J, R)) rfl (fun hn => absurd hn (by decide)) (fun _ => ?_)
        refine az_E.sn 3 (pc' := 37) (L' := [.ref 4, .int a1, .int a2, .int a3, .ref 5]) (S' := [.int a3, .int a1, .ref 5]) (σ' := (97, I, J, R)) rfl ?_
        by_cases hc_4 : a1 < 0 ∨ 144 ≤ a1.toNatClampNeg
        · rw [if_pos hc_4] at h; cases h
        · rw [if_neg hc_4] at h
          refine az_E.o (o := az_si az_F (97, I, J, R) 5 a1 a3) (pc' := 38) (L' := [.ref 4, .int a1, .int a2, .int a3, .ref 5]) (S' := []) (x := (97, (az_u I 5 a1.toNatClampNeg a3), J, R)) rfl (if_neg hc_4) ?_
          have h := Option.some.inj h
          subst h
          exact az_E.ret (v := none) (σ' := (97, (az_u I 5 a1.toNatClampNeg a3), J, R)) rfl hQ
  · rw [if_neg hc_1] at h
    by_cases hc_5 : a2 = (1 : Int32)
    · rw [if_pos hc_5] at h
      refine az_E.sw hc_5 (pc' := 57) (L' := [.ref 4, .int a2]) (S' := []) (σ' := (97, I, J, R)) rfl ?_
      refine az_E.sn 2 (pc' := 61) (L' := [.ref 4, .int a2]) (S' := [.ref 6]) (σ' := (97, I, J, R)) rfl ?_
      refine az_E.ret (v := some (.ref 6)) (σ' := (97, I, J, R)) rfl ?_
      show az_E az_F ex 1 41 5 [.ref 4, .int a1, .int a2, .int a3, .retAddr 0] [.ref 6] (97, I, J, R) _
      refine az_E.sn 9 (pc' := 19) (L' := [.ref 4, .int a1, .int a2, .int a3, .ref 6]) (S' := [.int ((8 : Int32) - (1 : Int32)), .int (0 : Int32), .int a1]) (σ' := (97, I, J, R)) rfl ?_
      refine az_E.call (d := 0) (k' := 131) (vs := [.int a1, .int (0 : Int32), .int ((8 : Int32) - (1 : Int32))]) (pc' := 22) (S' := []) rfl ?_ (fun _ _ hq => hq)
      show az_E az_F ex 0 131 0 [.int a1, .int (0 : Int32), .int ((8 : Int32) - (1 : Int32))] [] (97, I, J, R) _
      refine az_E.sn 2 (pc' := 2) (L' := [.int a1, .int (0 : Int32), .int ((8 : Int32) - (1 : Int32))]) (S' := [.int (0 : Int32), .int a1]) (σ' := (97, I, J, R)) rfl ?_
      refine az_E.br (c := a1 < (0 : Int32)) (tt := 14) (ff := 5) (L' := [.int a1, .int (0 : Int32), .int ((8 : Int32) - (1 : Int32))]) (S' := []) (σ' := (97, I, J, R)) rfl (fun hc_6 => ?_) (fun hc_6 => ?_)
      · rw [if_pos hc_6] at h
        refine az_E.sn 1 (pc' := 15) (L' := [.int a1, .int (0 : Int32), .int ((8 : Int32) - (1 : Int32))]) (S' := [.int (0 : Int32)]) (σ' := (97, I, J, R)) rfl ?_
        refine az_E.ret (v := some (.int (0 : Int32))) (σ' := (97, I, J, R)) rfl ?_
        show az_E az_F ex 1 41 22 [.ref 4, .int a1, .int a2, .int a3, .ref 6] [.int (0 : Int32)] (97, I, J, R) _
        refine az_E.br (c := (0 : Int32) = 0) (tt := 25) (ff := 33) (L' := [.ref 4, .int a1, .int a2, .int a3, .ref 6]) (S' := []) (σ' := (97, I, J, R)) rfl (fun _ => ?_) (fun hn => absurd (by decide) hn)
        refine az_E.sn 4 (pc' := 38) (L' := [.ref 4, .int a1, .int a2, .int a3, .ref 6]) (S' := []) (σ' := (97, (az_u I 4 10 a3), J, R)) rfl ?_
        have h := Option.some.inj h
        subst h
        exact az_E.ret (v := none) (σ' := (97, (az_u I 4 10 a3), J, R)) rfl hQ
      · rw [if_neg hc_6] at h
        refine az_E.sn 2 (pc' := 7) (L' := [.int a1, .int (0 : Int32), .int ((8 : Int32) - (1 : Int32))]) (S' := [.int ((8 : Int32) - (1 : Int32)), .int a1]) (σ' := (97, I, J, R)) rfl ?_
        refine az_E.br (c := ((8 : Int32) - (1 : Int32)) < a1) (tt := 14) (ff := 10) (L' := [.int a1, .int (0 : Int32), .int ((8 : Int32) - (1 : Int32))]) (S' := []) (σ' := (97, I, J, R)) rfl (fun hc_7 => ?_) (fun hc_7 => ?_)
        · rw [if_pos hc_7] at h
          refine az_E.sn 1 (pc' := 15) (L' := [.int a1, .int (0 : Int32), .int ((8 : Int32) - (1 : Int32))]) (S' := [.int (0 : Int32)]) (σ' := (97, I, J, R)) rfl ?_
          refine az_E.ret (v := some (.int (0 : Int32))) (σ' := (97, I, J, R)) rfl ?_
          show az_E az_F ex 1 41 22 [.ref 4, .int a1, .int a2, .int a3, .ref 6] [.int (0 : Int32)] (97, I, J, R) _
          refine az_E.br (c := (0 : Int32) = 0) (tt := 25) (ff := 33) (L' := [.ref 4, .int a1, .int a2, .int a3, .ref 6]) (S' := []) (σ' := (97, I, J, R)) rfl (fun _ => ?_) (fun hn => absurd (by decide) hn)
          refine az_E.sn 4 (pc' := 38) (L' := [.ref 4, .int a1, .int a2, .int a3, .ref 6]) (S' := []) (σ' := (97, (az_u I 4 10 a3), J, R)) rfl ?_
          have h := Option.some.inj h
          subst h
          exact az_E.ret (v := none) (σ' := (97, (az_u I 4 10 a3), J, R)) rfl hQ
        · rw [if_neg hc_7] at h
          refine az_E.sn 2 (pc' := 15) (L' := [.int a1, .int (0 : Int32), .int ((8 : Int32) - (1 : Int32))]) (S' := [.int (1 : Int32)]) (σ' := (97, I, J, R)) rfl ?_
          refine az_E.ret (v := some (.int (1 : Int32))) (σ' := (97, I, J, R)) rfl ?_
          show az_E az_F ex 1 41 22 [.ref 4, .int a1, .int a2, .int a3, .ref 6] [.int (1 : Int32)] (97, I, J, R) _
          refine az_E.br (c := (1 : Int32) = 0) (tt := 25) (ff := 33) (L' := [.ref 4, .int a1, .int a2, .int a3, .ref 6]) (S' := []) (σ' := (97, I, J, R)) rfl (fun hn => absurd hn (by decide)) (fun _ => ?_)
          refine az_E.sn 3 (pc' := 37) (L' := [.ref 4, .int a1, .int a2, .int a3, .ref 6]) (S' := [.int a3, .int a1, .ref 6]) (σ' := (97, I, J, R)) rfl ?_
          by_cases hc_8 : a1 < 0 ∨ 8 ≤ a1.toNatClampNeg
          · rw [if_pos hc_8] at h; cases h
          · rw [if_neg hc_8] at h
            refine az_E.o (o := az_si az_F (97, I, J, R) 6 a1 a3) (pc' := 38) (L' := [.ref 4, .int a1, .int a2, .int a3, .ref 6]) (S' := []) (x := (97, (az_u I 6 a1.toNatClampNeg a3), J, R)) rfl (if_neg hc_8) ?_
            have h := Option.some.inj h
            subst h
            exact az_E.ret (v := none) (σ' := (97, (az_u I 6 a1.toNatClampNeg a3), J, R)) rfl hQ
    · rw [if_neg hc_5] at h
      by_cases hc_9 : a2 = (2 : Int32)
      · rw [if_pos hc_9] at h
        refine az_E.sw hc_9 (pc' := 62) (L' := [.ref 4, .int a2]) (S' := []) (σ' := (97, I, J, R)) rfl ?_
        refine az_E.sn 2 (pc' := 66) (L' := [.ref 4, .int a2]) (S' := [.ref 7]) (σ' := (97, I, J, R)) rfl ?_
        refine az_E.ret (v := some (.ref 7)) (σ' := (97, I, J, R)) rfl ?_
        show az_E az_F ex 1 41 5 [.ref 4, .int a1, .int a2, .int a3, .retAddr 0] [.ref 7] (97, I, J, R) _
        refine az_E.sn 9 (pc' := 19) (L' := [.ref 4, .int a1, .int a2, .int a3, .ref 7]) (S' := [.int ((8 : Int32) - (1 : Int32)), .int (0 : Int32), .int a1]) (σ' := (97, I, J, R)) rfl ?_
        refine az_E.call (d := 0) (k' := 131) (vs := [.int a1, .int (0 : Int32), .int ((8 : Int32) - (1 : Int32))]) (pc' := 22) (S' := []) rfl ?_ (fun _ _ hq => hq)
        show az_E az_F ex 0 131 0 [.int a1, .int (0 : Int32), .int ((8 : Int32) - (1 : Int32))] [] (97, I, J, R) _
        refine az_E.sn 2 (pc' := 2) (L' := [.int a1, .int (0 : Int32), .int ((8 : Int32) - (1 : Int32))]) (S' := [.int (0 : Int32), .int a1]) (σ' := (97, I, J, R)) rfl ?_
        refine az_E.br (c := a1 < (0 : Int32)) (tt := 14) (ff := 5) (L' := [.int a1, .int (0 : Int32), .int ((8 : Int32) - (1 : Int32))]) (S' := []) (σ' := (97, I, J, R)) rfl (fun hc_10 => ?_) (fun hc_10 => ?_)
        · rw [if_pos hc_10] at h
          refine az_E.sn 1 (pc' := 15) (L' := [.int a1, .int (0 : Int32), .int ((8 : Int32) - (1 : Int32))]) (S' := [.int (0 : Int32)]) (σ' := (97, I, J, R)) rfl ?_
          refine az_E.ret (v := some (.int (0 : Int32))) (σ' := (97, I, J, R)) rfl ?_
          show az_E az_F ex 1 41 22 [.ref 4, .int a1, .int a2, .int a3, .ref 7] [.int (0 : Int32)] (97, I, J, R) _
          refine az_E.br (c := (0 : Int32) = 0) (tt := 25) (ff := 33) (L' := [.ref 4, .int a1, .int a2, .int a3, .ref 7]) (S' := []) (σ' := (97, I, J, R)) rfl (fun _ => ?_) (fun hn => absurd (by decide) hn)
          refine az_E.sn 4 (pc' := 38) (L' := [.ref 4, .int a1, .int a2, .int a3, .ref 7]) (S' := []) (σ' := (97, (az_u I 4 10 a3), J, R)) rfl ?_
          have h := Option.some.inj h
          subst h
          exact az_E.ret (v := none) (σ' := (97, (az_u I 4 10 a3), J, R)) rfl hQ
        · rw [if_neg hc_10] at h
          refine az_E.sn 2 (pc' := 7) (L' := [.int a1, .int (0 : Int32), .int ((8 : Int32) - (1 : Int32))]) (S' := [.int ((8 : Int32) - (1 : Int32)), .int a1]) (σ' := (97, I, J, R)) rfl ?_
          refine az_E.br (c := ((8 : Int32) - (1 : Int32)) < a1) (tt := 14) (ff := 10) (L' := [.int a1, .int (0 : Int32), .int ((8 : Int32) - (1 : Int32))]) (S' := []) (σ' := (97, I, J, R)) rfl (fun hc_11 => ?_) (fun hc_11 => ?_)
          · rw [if_pos hc_11] at h
            refine az_E.sn 1 (pc' := 15) (L' := [.int a1, .int (0 : Int32), .int ((8 : Int32) - (1 : Int32))]) (S' := [.int (0 : Int32)]) (σ' := (97, I, J, R)) rfl ?_
            refine az_E.ret (v := some (.int (0 : Int32))) (σ' := (97, I, J, R)) rfl ?_
            show az_E az_F ex 1 41 22 [.ref 4, .int a1, .int a2, .int a3, .ref 7] [.int (0 : Int32)] (97, I, J, R) _
            refine az_E.br (c := (0 : Int32) = 0) (tt := 25) (ff := 33) (L' := [.ref 4, .int a1, .int a2, .int a3, .ref 7]) (S' := []) (σ' := (97, I, J, R)) rfl (fun _ => ?_) (fun hn => absurd (by decide) hn)
            refine az_E.sn 4 (pc' := 38) (L' := [.ref 4, .int a1, .int a2, .int a3, .ref 7]) (S' := []) (σ' := (97, (az_u I 4 10 a3), J, R)) rfl ?_
            have h := Option.some.inj h
            subst h
            exact az_E.ret (v := none) (σ' := (97, (az_u I 4 10 a3), J, R)) rfl hQ
          · rw [if_neg hc_11] at h
            refine az_E.sn 2 (pc' := 15) (L' := [.int a1, .int (0 : Int32), .int ((8 : Int32) - (1 : Int32))]) (S' := [.int (1 : Int32)]) (σ' := (97, I, J, R)) rfl ?_
            refine az_E.ret (v := some (.int (1 : Int32))) (σ' := (97, I, J, R)) rfl ?_
            show az_E az_F ex 1 41 22 [.ref 4, .int a1, .int a2, .int a3, .ref 7] [.int (1 : Int32)] (97, I, J, R) _
            refine az_E.br (c := (1 : Int32) = 0) (tt := 25) (ff := 33) (L' := [.ref 4, .int a1, .int a2, .int a3, .ref 7]) (S' := []) (σ' := (97, I, J, R)) rfl (fun hn => absurd hn (by decide)) (fun _ => ?_)
            refine az_E.sn 3 (pc' := 37) (L' := [.ref 4, .int a1, .int a2, .int a3, .ref 7]) (S' := [.int a3, .int a1, .ref 7]) (σ' := (97, I, J, R)) rfl ?_
            by_cases hc_12 : a1 < 0 ∨ 8 ≤ a1.toNatClampNeg
            · rw [if_pos hc_12] at h; cases h
            · rw [if_neg hc_12] at h
              refine az_E.o (o := az_si az_F (97, I, J, R) 7 a1 a3) (pc' := 38) (L' := [.ref 4, .int a1, .int a2, .int a3, .ref 7]) (S' := []) (x := (97, (az_u I 7 a1.toNatClampNeg a3), J, R)) rfl (if_neg hc_12) ?_
              have h := Option.some.inj h
              subst h
              exact az_E.ret (v := none) (σ' := (97, (az_u I 7 a1.toNatClampNeg a3), J, R)) rfl hQ
      · rw [if_neg hc_9] at h
        by_cases hc_13 : a2 = (3 : Int32)
        · rw [if_pos hc_13] at h
          refine az_E.sw hc_13 (pc' := 67) (L' := [.ref 4, .int a2]) (S' := []) (σ' := (97, I, J, R)) rfl ?_
          refine az_E.sn 2 (pc' := 71) (L' := [.ref 4, .int a2]) (S' := [.ref 8]) (σ' := (97, I, J, R)) rfl ?_
          refine az_E.ret (v := some (.ref 8)) (σ' := (97, I, J, R)) rfl ?_
          show az_E az_F ex 1 41 5 [.ref 4, .int a1, .int a2, .int a3, .retAddr 0] [.ref 8] (97, I, J, R) _
          refine az_E.sn 9 (pc' := 19) (L' := [.ref 4, .int a1, .int a2, .int a3, .ref 8]) (S' := [.int ((6 : Int32) - (1 : Int32)), .int (0 : Int32), .int a1]) (σ' := (97, I, J, R)) rfl ?_
          refine az_E.call (d := 0) (k' := 131) (vs := [.int a1, .int (0 : Int32), .int ((6 : Int32) - (1 : Int32))]) (pc' := 22) (S' := []) rfl ?_ (fun _ _ hq => hq)
          show az_E az_F ex 0 131 0 [.int a1, .int (0 : Int32), .int ((6 : Int32) - (1 : Int32))] [] (97, I, J, R) _
          refine az_E.sn 2 (pc' := 2) (L' := [.int a1, .int (0 : Int32), .int ((6 : Int32) - (1 : Int32))]) (S' := [.int (0 : Int32), .int a1]) (σ' := (97, I, J, R)) rfl ?_
          refine az_E.br (c := a1 < (0 : Int32)) (tt := 14) (ff := 5) (L' := [.int a1, .int (0 : Int32), .int ((6 : Int32) - (1 : Int32))]) (S' := []) (σ' := (97, I, J, R)) rfl (fun hc_14 => ?_) (fun hc_14 => ?_)
          · rw [if_pos hc_14] at h
            refine az_E.sn 1 (pc' := 15) (L' := [.int a1, .int (0 : Int32), .int ((6 : Int32) - (1 : Int32))]) (S' := [.int (0 : Int32)]) (σ' := (97, I, J, R)) rfl ?_
            refine az_E.ret (v := some (.int (0 : Int32))) (σ' := (97, I, J, R)) rfl ?_
            show az_E az_F ex 1 41 22 [.ref 4, .int a1, .int a2, .int a3, .ref 8] [.int (0 : Int32)] (97, I, J, R) _
            refine az_E.br (c := (0 : Int32) = 0) (tt := 25) (ff := 33) (L' := [.ref 4, .int a1, .int a2, .int a3, .ref 8]) (S' := []) (σ' := (97, I, J, R)) rfl (fun _ => ?_) (fun hn => absurd (by decide) hn)
            refine az_E.sn 4 (pc' := 38) (L' := [.ref 4, .int a1, .int a2, .int a3, .ref 8]) (S' := []) (σ' := (97, (az_u I 4 10 a3), J, R)) rfl ?_
            have h := Option.some.inj h
            subst h
            exact az_E.ret (v := none) (σ' := (97, (az_u I 4 10 a3), J, R)) rfl hQ
          · rw [if_neg hc_14] at h
            refine az_E.sn 2 (pc' := 7) (L' := [.int a1, .int (0 : Int32), .int ((6 : Int32) - (1 : Int32))]) (S' := [.int ((6 : Int32) - (1 : Int32)), .int a1]) (σ' := (97, I, J, R)) rfl ?_
            refine az_E.br (c := ((6 : Int32) - (1 : Int32)) < a1) (tt := 14) (ff := 10) (L' := [.int a1, .int (0 : Int32), .int ((6 : Int32) - (1 : Int32))]) (S' := []) (σ' := (97, I, J, R)) rfl (fun hc_15 => ?_) (fun hc_15 => ?_)
            · rw [if_pos hc_15] at h
              refine az_E.sn 1 (pc' := 15) (L' := [.int a1, .int (0 : Int32), .int ((6 : Int32) - (1 : Int32))]) (S' := [.int (0 : Int32)]) (σ' := (97, I, J, R)) rfl ?_
              refine az_E.ret (v := some (.int (0 : Int32))) (σ' := (97, I, J, R)) rfl ?_
              show az_E az_F ex 1 41 22 [.ref 4, .int a1, .int a2, .int a3, .ref 8] [.int (0 : Int32)] (97, I, J, R) _
              refine az_E.br (c := (0 : Int32) = 0) (tt := 25) (ff := 33) (L' := [.ref 4, .int a1, .int a2, .int a3, .ref 8]) (S' := []) (σ' := (97, I, J, R)) rfl (fun _ => ?_) (fun hn => absurd (by decide) hn)
              refine az_E.sn 4 (pc' := 38) (L' := [.ref 4, .int a1, .int a2, .int a3, .ref 8]) (S' := []) (σ' := (97, (az_u I 4 10 a3), J, R)) rfl ?_
              have h := Option.some.inj h
              subst h
              exact az_E.ret (v := none) (σ' := (97, (az_u I 4 10 a3), J, R)) rfl hQ
            · rw [if_neg hc_15] at h
              refine az_E.sn 2 (pc' := 15) (L' := [.int a1, .int (0 : Int32), .int ((6 : Int32) - (1 : Int32))]) (S' := [.int (1 : Int32)]) (σ' := (97, I, J, R)) rfl ?_
              refine az_E.ret (v := some (.int (1 : Int32))) (σ' := (97, I, J, R)) rfl ?_
              show az_E az_F ex 1 41 22 [.ref 4, .int a1, .int a2, .int a3, .ref 8] [.int (1 : Int32)] (97, I, J, R) _
              refine az_E.br (c := (1 : Int32) = 0) (tt := 25) (ff := 33) (L' := [.ref 4, .int a1, .int a2, .int a3, .ref 8]) (S' := []) (σ' := (97, I, J, R)) rfl (fun hn => absurd hn (by decide)) (fun _ => ?_)
              refine az_E.sn 3 (pc' := 37) (L' := [.ref 4, .int a1, .int a2, .int a3, .ref 8]) (S' := [.int a3, .int a1, .ref 8]) (σ' := (97, I, J, R)) rfl ?_
              by_cases hc_16 : a1 < 0 ∨ 6 ≤ a1.toNatClampNeg
              · rw [if_pos hc_16] at h; cases h
              · rw [if_neg hc_16] at h
                refine az_E.o (o := az_si az_F (97, I, J, R) 8 a1 a3) (pc' := 38) (L' := [.ref 4, .int a1, .int a2, .int a3, .ref 8]) (S' := []) (x := (97, (az_u I 8 a1.toNatClampNeg a3), J, R)) rfl (if_neg hc_16) ?_
                have h := Option.some.inj h
                subst h
                exact az_E.ret (v := none) (σ' := (97, (az_u I 8 a1.toNatClampNeg a3), J, R)) rfl hQ
        · rw [if_neg hc_13] at h
          by_cases hc_17 : a2 = (4 : Int32)
          · rw [if_pos hc_17] at h
            refine az_E.sw hc_17 (pc' := 72) (L' := [.ref 4, .int a2]) (S' := []) (σ' := (97, I, J, R)) rfl ?_
            refine az_E.sn 2 (pc' := 76) (L' := [.ref 4, .int a2]) (S' := [.ref 9]) (σ' := (97, I, J, R)) rfl ?_
            refine az_E.ret (v := some (.ref 9)) (σ' := (97, I, J, R)) rfl ?_
            show az_E az_F ex 1 41 5 [.ref 4, .int a1, .int a2, .int a3, .retAddr 0] [.ref 9] (97, I, J, R) _
            refine az_E.sn 9 (pc' := 19) (L' := [.ref 4, .int a1, .int a2, .int a3, .ref 9]) (S' := [.int ((6 : Int32) - (1 : Int32)), .int (0 : Int32), .int a1]) (σ' := (97, I, J, R)) rfl ?_
            refine az_E.call (d := 0) (k' := 131) (vs := [.int a1, .int (0 : Int32), .int ((6 : Int32) - (1 : Int32))]) (pc' := 22) (S' := []) rfl ?_ (fun _ _ hq => hq)
            show az_E az_F ex 0 131 0 [.int a1, .int (0 : Int32), .int ((6 : Int32) - (1 : Int32))] [] (97, I, J, R) _
            refine az_E.sn 2 (pc' := 2) (L' := [.int a1, .int (0 : Int32), .int ((6 : Int32) - (1 : Int32))]) (S' := [.int (0 : Int32), .int a1]) (σ' := (97, I, J, R)) rfl ?_
            refine az_E.br (c := a1 < (0 : Int32)) (tt := 14) (ff := 5) (L' := [.int a1, .int (0 : Int32), .int ((6 : Int32) - (1 : Int32))]) (S' := []) (σ' := (97, I, J, R)) rfl (fun hc_18 => ?_) (fun hc_18 => ?_)
            · rw [if_pos hc_18] at h
              refine az_E.sn 1 (pc' := 15) (L' := [.int a1, .int (0 : Int32), .int ((6 : Int32) - (1 : Int32))]) (S' := [.int (0 : Int32)]) (σ' := (97, I, J, R)) rfl ?_
              refine az_E.ret (v := some (.int (0 : Int32))) (σ' := (97, I, J, R)) rfl ?_
              show az_E az_F ex 1 41 22 [.ref 4, .int a1, .int a2, .int a3, .ref 9] [.int (0 : Int32)] (97, I, J, R) _
              refine az_E.br (c := (0 : Int32) = 0) (tt := 25) (ff := 33) (L' := [.ref 4, .int a1, .int a2, .int a3, .ref 9]) (S' := []) (σ' := (97, I, J, R)) rfl (fun _ => ?_) (fun hn => absurd (by decide) hn)
              refine az_E.sn 4 (pc' := 38) (L' := [.ref 4, .int a1, .int a2, .int a3, .ref 9]) (S' := []) (σ' := (97, (az_u I 4 10 a3), J, R)) rfl ?_
              have h := Option.some.inj h
              subst h
              exact az_E.ret (v := none) (σ' := (97, (az_u I 4 10 a3), J, R)) rfl hQ
            · rw [if_neg hc_18] at h
              refine az_E.sn 2 (pc' := 7) (L' := [.int a1, .int (0 : Int32), .int ((6 : Int32) - (1 : Int32))]) (S' := [.int ((6 : Int32) - (1 : Int32)), .int a1]) (σ' := (97, I, J, R)) rfl ?_
              refine az_E.br (c := ((6 : Int32) - (1 : Int32)) < a1) (tt := 14) (ff := 10) (L' := [.int a1, .int (0 : Int32), .int ((6 : Int32) - (1 : Int32))]) (S' := []) (σ' := (97, I, J, R)) rfl (fun hc_19 => ?_) (fun hc_19 => ?_)
              · rw [if_pos hc_19] at h
                refine az_E.sn 1 (pc' := 15) (L' := [.int a1, .int (0 : Int32), .int ((6 : Int32) - (1 : Int32))]) (S' := [.int (0 : Int32)]) (σ' := (97, I, J, R)) rfl ?_
                refine az_E.ret (v := some (.int (0 : Int32))) (σ' := (97, I, J, R)) rfl ?_
                show az_E az_F ex 1 41 22 [.ref 4, .int a1, .int a2, .int a3, .ref 9] [.int (0 : Int32)] (97, I, J, R) _
                refine az_E.br (c := (0 : Int32) = 0) (tt := 25) (ff := 33) (L' := [.ref 4, .int a1, .int a2, .int a3, .ref 9]) (S' := []) (σ' := (97, I, J, R)) rfl (fun _ => ?_) (fun hn => absurd (by decide) hn)
                refine az_E.sn 4 (pc' := 38) (L' := [.ref 4, .int a1, .int a2, .int a3, .ref 9]) (S' := []) (σ' := (97, (az_u I 4 10 a3), J, R)) rfl ?_
                have h := Option.some.inj h
                subst h
                exact az_E.ret (v := none) (σ' := (97, (az_u I 4 10 a3), J, R)) rfl hQ
              · rw [if_neg hc_19] at h
                refine az_E.sn 2 (pc' := 15) (L' := [.int a1, .int (0 : Int32), .int ((6 : Int32) - (1 : Int32))]) (S' := [.int (1 : Int32)]) (σ' := (97, I, J, R)) rfl ?_
                refine az_E.ret (v := some (.int (1 : Int32))) (σ' := (97, I, J, R)) rfl ?_
                show az_E az_F ex 1 41 22 [.ref 4, .int a1, .int a2, .int a3, .ref 9] [.int (1 : Int32)] (97, I, J, R) _
                refine az_E.br (c := (1 : Int32) = 0) (tt := 25) (ff := 33) (L' := [.ref 4, .int a1, .int a2, .int a3, .ref 9]) (S' := []) (σ' := (97, I, J, R)) rfl (fun hn => absurd hn (by decide)) (fun _ => ?_)
                refine az_E.sn 3 (pc' := 37) (L' := [.ref 4, .int a1, .int a2, .int a3, .ref 9]) (S' := [.int a3, .int a1, .ref 9]) (σ' := (97, I, J, R)) rfl ?_
                by_cases hc_20 : a1 < 0 ∨ 6 ≤ a1.toNatClampNeg
                · rw [if_pos hc_20] at h; cases h
                · rw [if_neg hc_20] at h
                  refine az_E.o (o := az_si az_F (97, I, J, R) 9 a1 a3) (pc' := 38) (L' := [.ref 4, .int a1, .int a2, .int a3, .ref 9]) (S' := []) (x := (97, (az_u I 9 a1.toNatClampNeg a3), J, R)) rfl (if_neg hc_20) ?_
                  have h := Option.some.inj h
                  subst h
                  exact az_E.ret (v := none) (σ' := (97, (az_u I 9 a1.toNatClampNeg a3), J, R)) rfl hQ
          · rw [if_neg hc_17] at h
            by_cases hc_21 : a2 = (5 : Int32)
            · rw [if_pos hc_21] at h
              refine az_E.sw hc_21 (pc' := 77) (L' := [.ref 4, .int a2]) (S' := []) (σ' := (97, I, J, R)) rfl ?_
              refine az_E.sn 2 (pc' := 81) (L' := [.ref 4, .int a2]) (S' := [.ref 10]) (σ' := (97, I, J, R)) rfl ?_
              refine az_E.ret (v := some (.ref 10)) (σ' := (97, I, J, R)) rfl ?_
              show az_E az_F ex 1 41 5 [.ref 4, .int a1, .int a2, .int a3, .retAddr 0] [.ref 10] (97, I, J, R) _
              refine az_E.sn 9 (pc' := 19) (L' := [.ref 4, .int a1, .int a2, .int a3, .ref 10]) (S' := [.int ((6 : Int32) - (1 : Int32)), .int (0 : Int32), .int a1]) (σ' := (97, I, J, R)) rfl ?_
              refine az_E.call (d := 0) (k' := 131) (vs := [.int a1, .int (0 : Int32), .int ((6 : Int32) - (1 : Int32))]) (pc' := 22) (S' := []) rfl ?_ (fun _ _ hq => hq)
              show az_E az_F ex 0 131 0 [.int a1, .int (0 : Int32), .int ((6 : Int32) - (1 : Int32))] [] (97, I, J, R) _
              refine az_E.sn 2 (pc' := 2) (L' := [.int a1, .int (0 : Int32), .int ((6 : Int32) - (1 : Int32))]) (S' := [.int (0 : Int32), .int a1]) (σ' := (97, I, J, R)) rfl ?_
              refine az_E.br (c := a1 < (0 : Int32)) (tt := 14) (ff := 5) (L' := [.int a1, .int (0 : Int32), .int ((6 : Int32) - (1 : Int32))]) (S' := []) (σ' := (97, I, J, R)) rfl (fun hc_22 => ?_) (fun hc_22 => ?_)
              · rw [if_pos hc_22] at h
                refine az_E.sn 1 (pc' := 15) (L' := [.int a1, .int (0 : Int32), .int ((6 : Int32) - (1 : Int32))]) (S' := [.int (0 : Int32)]) (σ' := (97, I, J, R)) rfl ?_
                refine az_E.ret (v := some (.int (0 : Int32))) (σ' := (97, I, J, R)) rfl ?_
                show az_E az_F ex 1 41 22 [.ref 4, .int a1, .int a2, .int a3, .ref 10] [.int (0 : Int32)] (97, I, J, R) _
                refine az_E.br (c := (0 : Int32) = 0) (tt := 25) (ff := 33) (L' := [.ref 4, .int a1, .int a2, .int a3, .ref 10]) (S' := []) (σ' := (97, I, J, R)) rfl (fun _ => ?_) (fun hn => absurd (by decide) hn)
                refine az_E.sn 4 (pc' := 38) (L' := [.ref 4, .int a1, .int a2, .int a3, .ref 10]) (S' := []) (σ' := (97, (az_u I 4 10 a3), J, R)) rfl ?_
                have h := Option.some.inj h
                subst h
                exact az_E.ret (v := none) (σ' := (97, (az_u I 4 10 a3), J, R)) rfl hQ
              · rw [if_neg hc_22] at h
                refine az_E.sn 2 (pc' := 7) (L' := [.int a1, .int (0 : Int32), .int ((6 : Int32) - (1 : Int32))]) (S' := [.int ((6 : Int32) - (1 : Int32)), .int a1]) (σ' := (97, I, J, R)) rfl ?_
                refine az_E.br (c := ((6 : Int32) - (1 : Int32)) < a1) (tt := 14) (ff := 10) (L' := [.int a1, .int (0 : Int32), .int ((6 : Int32) - (1 : Int32))]) (S' := []) (σ' := (97, I, J, R)) rfl (fun hc_23 => ?_) (fun hc_23 => ?_)
                · rw [if_pos hc_23] at h
                  refine az_E.sn 1 (pc' := 15) (L' := [.int a1, .int (0 : Int32), .int ((6 : Int32) - (1 : Int32))]) (S' := [.int (0 : Int32)]) (σ' := (97, I, J, R)) rfl ?_
                  refine az_E.ret (v := some (.int (0 : Int32))) (σ' := (97, I, J, R)) rfl ?_
                  show az_E az_F ex 1 41 22 [.ref 4, .int a1, .int a2, .int a3, .ref 10] [.int (0 : Int32)] (97, I, J, R) _
                  refine az_E.br (c := (0 : Int32) = 0) (tt := 25) (ff := 33) (L' := [.ref 4, .int a1, .int a2, .int a3, .ref 10]) (S' := []) (σ' := (97, I, J, R)) rfl (fun _ => ?_) (fun hn => absurd (by decide) hn)
                  refine az_E.sn 4 (pc' := 38) (L' := [.ref 4, .int a1, .int a2, .int a3, .ref 10]) (S' := []) (σ' := (97, (az_u I 4 10 a3), J, R)) rfl ?_
                  have h := Option.some.inj h
                  subst h
                  exact az_E.ret (v := none) (σ' := (97, (az_u I 4 10 a3), J, R)) rfl hQ
                · rw [if_neg hc_23] at h
                  refine az_E.sn 2 (pc' := 15) (L' := [.int a1, .int (0 : Int32), .int ((6 : Int32) - (1 : Int32))]) (S' := [.int (1 : Int32)]) (σ' := (97, I, J, R)) rfl ?_
                  refine az_E.ret (v := some (.int (1 : Int32))) (σ' := (97, I, J, R)) rfl ?_
                  show az_E az_F ex 1 41 22 [.ref 4, .int a1, .int a2, .int a3, .ref 10] [.int (1 : Int32)] (97, I, J, R) _
                  refine az_E.br (c := (1 : Int32) = 0) (tt := 25) (ff := 33) (L' := [.ref 4, .int a1, .int a2, .int a3, .ref 10]) (S' := []) (σ' := (97, I, J, R)) rfl (fun hn => absurd hn (by decide)) (fun _ => ?_)
                  refine az_E.sn 3 (pc' := 37) (L' := [.ref 4, .int a1, .int a2, .int a3, .ref 10]) (S' := [.int a3, .int a1, .ref 10]) (σ' := (97, I, J, R)) rfl ?_
                  by_cases hc_24 : a1 < 0 ∨ 6 ≤ a1.toNatClampNeg
                  · rw [if_pos hc_24] at h; cases h
                  · rw [if_neg hc_24] at h
                    refine az_E.o (o := az_si az_F (97, I, J, R) 10 a1 a3) (pc' := 38) (L' := [.ref 4, .int a1, .int a2, .int a3, .ref 10]) (S' := []) (x := (97, (az_u I 10 a1.toNatClampNeg a3), J, R)) rfl (if_neg hc_24) ?_
                    have h := Option.some.inj h
                    subst h
                    exact az_E.ret (v := none) (σ' := (97, (az_u I 10 a1.toNatClampNeg a3), J, R)) rfl hQ
            · rw [if_neg hc_21] at h
              by_cases hc_25 : a2 = (6 : Int32)
              · rw [if_pos hc_25] at h
                refine az_E.sw hc_25 (pc' := 92) (L' := [.ref 4, .int a2]) (S' := []) (σ' := (97, I, J, R)) rfl ?_
                refine az_E.sn 1 (pc' := 93) (L' := [.ref 4, .int a2]) (S' := [.null]) (σ' := (97, I, J, R)) rfl ?_
                refine az_E.ret (v := some (.null)) (σ' := (97, I, J, R)) rfl ?_
                show az_E az_F ex 1 41 5 [.ref 4, .int a1, .int a2, .int a3, .retAddr 0] [.null] (97, I, J, R) _
                refine az_E.sn 7 (pc' := 38) (L' := [.ref 4, .int a1, .int a2, .int a3, .null]) (S' := []) (σ' := (97, (az_u I 4 10 a3), J, R)) rfl ?_
                have h := Option.some.inj h
                subst h
                exact az_E.ret (v := none) (σ' := (97, (az_u I 4 10 a3), J, R)) rfl hQ
              · rw [if_neg hc_25] at h
                by_cases hc_26 : a2 = (7 : Int32)
                · rw [if_pos hc_26] at h
                  refine az_E.sw hc_26 (pc' := 82) (L' := [.ref 4, .int a2]) (S' := []) (σ' := (97, I, J, R)) rfl ?_
                  refine az_E.sn 2 (pc' := 86) (L' := [.ref 4, .int a2]) (S' := [.ref 11]) (σ' := (97, I, J, R)) rfl ?_
                  refine az_E.ret (v := some (.ref 11)) (σ' := (97, I, J, R)) rfl ?_
                  show az_E az_F ex 1 41 5 [.ref 4, .int a1, .int a2, .int a3, .retAddr 0] [.ref 11] (97, I, J, R) _
                  refine az_E.sn 9 (pc' := 19) (L' := [.ref 4, .int a1, .int a2, .int a3, .ref 11]) (S' := [.int ((6 : Int32) - (1 : Int32)), .int (0 : Int32), .int a1]) (σ' := (97, I, J, R)) rfl ?_
                  refine az_E.call (d := 0) (k' := 131) (vs := [.int a1, .int (0 : Int32), .int ((6 : Int32) - (1 : Int32))]) (pc' := 22) (S' := []) rfl ?_ (fun _ _ hq => hq)
                  show az_E az_F ex 0 131 0 [.int a1, .int (0 : Int32), .int ((6 : Int32) - (1 : Int32))] [] (97, I, J, R) _
                  refine az_E.sn 2 (pc' := 2) (L' := [.int a1, .int (0 : Int32), .int ((6 : Int32) - (1 : Int32))]) (S' := [.int (0 : Int32), .int a1]) (σ' := (97, I, J, R)) rfl ?_
                  refine az_E.br (c := a1 < (0 : Int32)) (tt := 14) (ff := 5) (L' := [.int a1, .int (0 : Int32), .int ((6 : Int32) - (1 : Int32))]) (S' := []) (σ' := (97, I, J, R)) rfl (fun hc_27 => ?_) (fun hc_27 => ?_)
                  · rw [if_pos hc_27] at h
                    refine az_E.sn 1 (pc' := 15) (L' := [.int a1, .int (0 : Int32), .int ((6 : Int32) - (1 : Int32))]) (S' := [.int (0 : Int32)]) (σ' := (97, I, J, R)) rfl ?_
                    refine az_E.ret (v := some (.int (0 : Int32))) (σ' := (97, I, J, R)) rfl ?_
                    show az_E az_F ex 1 41 22 [.ref 4, .int a1, .int a2, .int a3, .ref 11] [.int (0 : Int32)] (97, I, J, R) _
                    refine az_E.br (c := (0 : Int32) = 0) (tt := 25) (ff := 33) (L' := [.ref 4, .int a1, .int a2, .int a3, .ref 11]) (S' := []) (σ' := (97, I, J, R)) rfl (fun _ => ?_) (fun hn => absurd (by decide) hn)
                    refine az_E.sn 4 (pc' := 38) (L' := [.ref 4, .int a1, .int a2, .int a3, .ref 11]) (S' := []) (σ' := (97, (az_u I 4 10 a3), J, R)) rfl ?_
                    have h := Option.some.inj h
                    subst h
                    exact az_E.ret (v := none) (σ' := (97, (az_u I 4 10 a3), J, R)) rfl hQ
                  · rw [if_neg hc_27] at h
                    refine az_E.sn 2 (pc' := 7) (L' := [.int a1, .int (0 : Int32), .int ((6 : Int32) - (1 : Int32))]) (S' := [.int ((6 : Int32) - (1 : Int32)), .int a1]) (σ' := (97, I, J, R)) rfl ?_
                    refine az_E.br (c := ((6 : Int32) - (1 : Int32)) < a1) (tt := 14) (ff := 10) (L' := [.int a1, .int (0 : Int32), .int ((6 : Int32) - (1 : Int32))]) (S' := []) (σ' := (97, I, J, R)) rfl (fun hc_28 => ?_) (fun hc_28 => ?_)
                    · rw [if_pos hc_28] at h
                      refine az_E.sn 1 (pc' := 15) (L' := [.int a1, .int (0 : Int32), .int ((6 : Int32) - (1 : Int32))]) (S' := [.int (0 : Int32)]) (σ' := (97, I, J, R)) rfl ?_
                      refine az_E.ret (v := some (.int (0 : Int32))) (σ' := (97, I, J, R)) rfl ?_
                      show az_E az_F ex 1 41 22 [.ref 4, .int a1, .int a2, .int a3, .ref 11] [.int (0 : Int32)] (97, I, J, R) _
                      refine az_E.br (c := (0 : Int32) = 0) (tt := 25) (ff := 33) (L' := [.ref 4, .int a1, .int a2, .int a3, .ref 11]) (S' := []) (σ' := (97, I, J, R)) rfl (fun _ => ?_) (fun hn => absurd (by decide) hn)
                      refine az_E.sn 4 (pc' := 38) (L' := [.ref 4, .int a1, .int a2, .int a3, .ref 11]) (S' := []) (σ' := (97, (az_u I 4 10 a3), J, R)) rfl ?_
                      have h := Option.some.inj h
                      subst h
                      exact az_E.ret (v := none) (σ' := (97, (az_u I 4 10 a3), J, R)) rfl hQ
                    · rw [if_neg hc_28] at h
                      refine az_E.sn 2 (pc' := 15) (L' := [.int a1, .int (0 : Int32), .int ((6 : Int32) - (1 : Int32))]) (S' := [.int (1 : Int32)]) (σ' := (97, I, J, R)) rfl ?_
                      refine az_E.ret (v := some (.int (1 : Int32))) (σ' := (97, I, J, R)) rfl ?_
                      show az_E az_F ex 1 41 22 [.ref 4, .int a1, .int a2, .int a3, .ref 11] [.int (1 : Int32)] (97, I, J, R) _
                      refine az_E.br (c := (1 : Int32) = 0) (tt := 25) (ff := 33) (L' := [.ref 4, .int a1, .int a2, .int a3, .ref 11]) (S' := []) (σ' := (97, I, J, R)) rfl (fun hn => absurd hn (by decide)) (fun _ => ?_)
                      refine az_E.sn 3 (pc' := 37) (L' := [.ref 4, .int a1, .int a2, .int a3, .ref 11]) (S' := [.int a3, .int a1, .ref 11]) (σ' := (97, I, J, R)) rfl ?_
                      by_cases hc_29 : a1 < 0 ∨ 6 ≤ a1.toNatClampNeg
                      · rw [if_pos hc_29] at h; cases h
                      · rw [if_neg hc_29] at h
                        refine az_E.o (o := az_si az_F (97, I, J, R) 11 a1 a3) (pc' := 38) (L' := [.ref 4, .int a1, .int a2, .int a3, .ref 11]) (S' := []) (x := (97, (az_u I 11 a1.toNatClampNeg a3), J, R)) rfl (if_neg hc_29) ?_
                        have h := Option.some.inj h
                        subst h
                        exact az_E.ret (v := none) (σ' := (97, (az_u I 11 a1.toNatClampNeg a3), J, R)) rfl hQ
                · rw [if_neg hc_26] at h
                  by_cases hc_30 : a2 = (8 : Int32)
                  · rw [if_pos hc_30] at h
                    refine az_E.sw hc_30 (pc' := 87) (L' := [.ref 4, .int a2]) (S' := []) (σ' := (97, I, J, R)) rfl ?_
                    refine az_E.sn 2 (pc' := 91) (L' := [.ref 4, .int a2]) (S' := [.ref 12]) (σ' := (97, I, J, R)) rfl ?_
                    refine az_E.ret (v := some (.ref 12)) (σ' := (97, I, J, R)) rfl ?_
                    show az_E az_F ex 1 41 5 [.ref 4, .int a1, .int a2, .int a3, .retAddr 0] [.ref 12] (97, I, J, R) _
                    refine az_E.sn 9 (pc' := 19) (L' := [.ref 4, .int a1, .int a2, .int a3, .ref 12]) (S' := [.int ((6 : Int32) - (1 : Int32)), .int (0 : Int32), .int a1]) (σ' := (97, I, J, R)) rfl ?_
                    refine az_E.call (d := 0) (k' := 131) (vs := [.int a1, .int (0 : Int32), .int ((6 : Int32) - (1 : Int32))]) (pc' := 22) (S' := []) rfl ?_ (fun _ _ hq => hq)
                    show az_E az_F ex 0 131 0 [.int a1, .int (0 : Int32), .int ((6 : Int32) - (1 : Int32))] [] (97, I, J, R) _
                    refine az_E.sn 2 (pc' := 2) (L' := [.int a1, .int (0 : Int32), .int ((6 : Int32) - (1 : Int32))]) (S' := [.int (0 : Int32), .int a1]) (σ' := (97, I, J, R)) rfl ?_
                    refine az_E.br (c := a1 < (0 : Int32)) (tt := 14) (ff := 5) (L' := [.int a1, .int (0 : Int32), .int ((6 : Int32) - (1 : Int32))]) (S' := []) (σ' := (97, I, J, R)) rfl (fun hc_31 => ?_) (fun hc_31 => ?_)
                    · rw [if_pos hc_31] at h
                      refine az_E.sn 1 (pc' := 15) (L' := [.int a1, .int (0 : Int32), .int ((6 : Int32) - (1 : Int32))]) (S' := [.int (0 : Int32)]) (σ' := (97, I, J, R)) rfl ?_
                      refine az_E.ret (v := some (.int (0 : Int32))) (σ' := (97, I, J, R)) rfl ?_
                      show az_E az_F ex 1 41 22 [.ref 4, .int a1, .int a2, .int a3, .ref 12] [.int (0 : Int32)] (97, I, J, R) _
                      refine az_E.br (c := (0 : Int32) = 0) (tt := 25) (ff := 33) (L' := [.ref 4, .int a1, .int a2, .int a3, .ref 12]) (S' := []) (σ' := (97, I, J, R)) rfl (fun _ => ?_) (fun hn => absurd (by decide) hn)
                      refine az_E.sn 4 (pc' := 38) (L' := [.ref 4, .int a1, .int a2, .int a3, .ref 12]) (S' := []) (σ' := (97, (az_u I 4 10 a3), J, R)) rfl ?_
                      have h := Option.some.inj h
                      subst h
                      exact az_E.ret (v := none) (σ' := (97, (az_u I 4 10 a3), J, R)) rfl hQ
                    · rw [if_neg hc_31] at h
                      refine az_E.sn 2 (pc' := 7) (L' := [.int a1, .int (0 : Int32), .int ((6 : Int32) - (1 : Int32))]) (S' := [.int ((6 : Int32) - (1 : Int32)), .int a1]) (σ' := (97, I, J, R)) rfl ?_
                      refine az_E.br (c := ((6 : Int32) - (1 : Int32)) < a1) (tt := 14) (ff := 10) (L' := [.int a1, .int (0 : Int32), .int ((6 : Int32) - (1 : Int32))]) (S' := []) (σ' := (97, I, J, R)) rfl (fun hc_32 => ?_) (fun hc_32 => ?_)
                      · rw [if_pos hc_32] at h
                        refine az_E.sn 1 (pc' := 15) (L' := [.int a1, .int (0 : Int32), .int ((6 : Int32) - (1 : Int32))]) (S' := [.int (0 : Int32)]) (σ' := (97, I, J, R)) rfl ?_
                        refine az_E.ret (v := some (.int (0 : Int32))) (σ' := (97, I, J, R)) rfl ?_
                        show az_E az_F ex 1 41 22 [.ref 4, .int a1, .int a2, .int a3, .ref 12] [.int (0 : Int32)] (97, I, J, R) _
                        refine az_E.br (c := (0 : Int32) = 0) (tt := 25) (ff := 33) (L' := [.ref 4, .int a1, .int a2, .int a3, .ref 12]) (S' := []) (σ' := (97, I, J, R)) rfl (fun _ => ?_) (fun hn => absurd (by decide) hn)
                        refine az_E.sn 4 (pc' := 38) (L' := [.ref 4, .int a1, .int a2, .int a3, .ref 12]) (S' := []) (σ' := (97, (az_u I 4 10 a3), J, R)) rfl ?_
                        have h := Option.some.inj h
                        subst h
                        exact az_E.ret (v := none) (σ' := (97, (az_u I 4 10 a3), J, R)) rfl hQ
                      · rw [if_neg hc_32] at h
                        refine az_E.sn 2 (pc' := 15) (L' := [.int a1, .int (0 : Int32), .int ((6 : Int32) - (1 : Int32))]) (S' := [.int (1 : Int32)]) (σ' := (97, I, J, R)) rfl ?_
                        refine az_E.ret (v := some (.int (1 : Int32))) (σ' := (97, I, J, R)) rfl ?_
                        show az_E az_F ex 1 41 22 [.ref 4, .int a1, .int a2, .int a3, .ref 12] [.int (1 : Int32)] (97, I, J, R) _
                        refine az_E.br (c := (1 : Int32) = 0) (tt := 25) (ff := 33) (L' := [.ref 4, .int a1, .int a2, .int a3, .ref 12]) (S' := []) (σ' := (97, I, J, R)) rfl (fun hn => absurd hn (by decide)) (fun _ => ?_)
                        refine az_E.sn 3 (pc' := 37) (L' := [.ref 4, .int a1, .int a2, .int a3, .ref 12]) (S' := [.int a3, .int a1, .ref 12]) (σ' := (97, I, J, R)) rfl ?_
                        by_cases hc_33 : a1 < 0 ∨ 6 ≤ a1.toNatClampNeg
                        · rw [if_pos hc_33] at h; cases h
                        · rw [if_neg hc_33] at h
                          refine az_E.o (o := az_si az_F (97, I, J, R) 12 a1 a3) (pc' := 38) (L' := [.ref 4, .int a1, .int a2, .int a3, .ref 12]) (S' := []) (x := (97, (az_u I 12 a1.toNatClampNeg a3), J, R)) rfl (if_neg hc_33) ?_
                          have h := Option.some.inj h
                          subst h
                          exact az_E.ret (v := none) (σ' := (97, (az_u I 12 a1.toNatClampNeg a3), J, R)) rfl hQ
                  · rw [if_neg hc_30] at h
                    have ehc_1 := az_nei hc_1 (z := 0) (by decide)
                    have ehc_5 := az_nei hc_5 (z := 1) (by decide)
                    have ehc_9 := az_nei hc_9 (z := 2) (by decide)
                    have ehc_13 := az_nei hc_13 (z := 3) (by decide)
                    have ehc_17 := az_nei hc_17 (z := 4) (by decide)
                    have ehc_21 := az_nei hc_21 (z := 5) (by decide)
                    have ehc_25 := az_nei hc_25 (z := 6) (by decide)
                    have ehc_26 := az_nei hc_26 (z := 7) (by decide)
                    have ehc_30 := az_nei hc_30 (z := 8) (by decide)
                    refine az_E.swd (a := 92) (lo := 0) (hi := 8) (offs := #[51, 56, 61, 66, 71, 76, 91, 81, 86]) rfl (by omega) ?_
                    refine az_E.sn 1 (pc' := 93) (L' := [.ref 4, .int a2]) (S' := [.null]) (σ' := (97, I, J, R)) rfl ?_
                    refine az_E.ret (v := some (.null)) (σ' := (97, I, J, R)) rfl ?_
                    show az_E az_F ex 1 41 5 [.ref 4, .int a1, .int a2, .int a3, .retAddr 0] [.null] (97, I, J, R) _
                    refine az_E.sn 7 (pc' := 38) (L' := [.ref 4, .int a1, .int a2, .int a3, .null]) (S' := []) (σ' := (97, (az_u I 4 10 a3), J, R)) rfl ?_
                    have h := Option.some.inj h
                    subst h
                    exact az_E.ret (v := none) (σ' := (97, (az_u I 4 10 a3), J, R)) rfl hQ
set_option maxRecDepth 100000 in
set_option maxHeartbeats 4000000 in
theorem re_X_mend {ex : az_X} {I : Nat → Nat → Int32} {J : Nat → Nat → Int64} {R : Nat → Nat → Option Nat} {a1 : Int32} {a2 : Int32} {a3 : Int32} {o : Int32 × (Nat → Nat → Int32)} (h : rs_X_mend I a1 a2 a3 = some o) {Q : Option Value → az_S → Prop} (hQ : Q (some (.int o.1)) (97, o.2, J, R)) : az_E az_F ex 3 87 0 [.ref 3, .int a1, .int a2, .int a3, .retAddr 0] [] (97, I, J, R) Q := by
  unfold rs_X_mend at h
  refine az_E.sn 4 (pc' := 6) (L' := [.ref 3, .int a1, .int a2, .int a3, .retAddr 0]) (S' := [.int a2, .int a1, .ref 4]) (σ' := (97, I, J, R)) rfl ?_
  cases hx_2 : rs_Mo_isThere I a1 a2 with
  | none => rw [hx_2] at h; cases h
  | some x_1 =>
    rw [hx_2] at h
    dsimp only at h
    refine az_E.call (d := 2) (k' := 37) (vs := [.ref 4, .int a1, .int a2]) (pc' := 9) (S' := []) (Q1 := fun v s => v = some (.int x_1) ∧ s = (97, I, J, R)) rfl (az_E.deep (by omega) (re_Mo_isThere (J := J) (R := R)  hx_2 ⟨rfl, rfl⟩)) (fun v s hq => ?_)
    obtain ⟨rfl, rfl⟩ := hq
    show az_E az_F ex 3 87 9 [.ref 3, .int a1, .int a2, .int a3, .retAddr 0] [.int x_1] (97, I, J, R) _
    refine az_E.br (c := x_1 = 0) (tt := 20) (ff := 12) (L' := [.ref 3, .int a1, .int a2, .int a3, .retAddr 0]) (S' := []) (σ' := (97, I, J, R)) rfl (fun hc_3 => ?_) (fun hc_3 => ?_)
    · rw [if_pos hc_3] at h
      refine az_E.sn 1 (pc' := 22) (L' := [.ref 3, .int a1, .int a2, .int a3, .retAddr 0]) (S' := [.int (-2000000000 : Int32)]) (σ' := (97, I, J, R)) rfl ?_
      have h := Option.some.inj h
      subst h
      exact az_E.ret (v := some (.int (-2000000000 : Int32))) (σ' := (97, I, J, R)) rfl hQ
    · rw [if_neg hc_3] at h
      refine az_E.sn 2 (pc' := 14) (L' := [.ref 3, .int a1, .int a2, .int a3, .retAddr 0]) (S' := [.int a3, .int a2]) (σ' := (97, I, J, R)) rfl ?_
      cases hx_5 : rs_Mo_isFit a2 a3 with
      | none => rw [hx_5] at h; cases h
      | some x_4 =>
        rw [hx_5] at h
        dsimp only at h
        refine az_E.call (d := 2) (k' := 38) (vs := [.int a2, .int a3]) (pc' := 17) (S' := []) (Q1 := fun v s => v = some (.int x_4) ∧ s = (97, I, J, R)) rfl (az_E.deep (by omega) (re_Mo_isFit (J := J) (R := R)  hx_5 ⟨rfl, rfl⟩)) (fun v s hq => ?_)
        obtain ⟨rfl, rfl⟩ := hq
        show az_E az_F ex 3 87 17 [.ref 3, .int a1, .int a2, .int a3, .retAddr 0] [.int x_4] (97, I, J, R) _
        refine az_E.br (c := x_4 = 0) (tt := 20) (ff := 23) (L' := [.ref 3, .int a1, .int a2, .int a3, .retAddr 0]) (S' := []) (σ' := (97, I, J, R)) rfl (fun hc_6 => ?_) (fun hc_6 => ?_)
        · rw [if_pos hc_6] at h
          refine az_E.sn 1 (pc' := 22) (L' := [.ref 3, .int a1, .int a2, .int a3, .retAddr 0]) (S' := [.int (-2000000000 : Int32)]) (σ' := (97, I, J, R)) rfl ?_
          have h := Option.some.inj h
          subst h
          exact az_E.ret (v := some (.int (-2000000000 : Int32))) (σ' := (97, I, J, R)) rfl hQ
        · rw [if_neg hc_6] at h
          refine az_E.sn 4 (pc' := 29) (L' := [.ref 3, .int a1, .int a2, .int a3, .retAddr 0]) (S' := [.int a2, .int a1, .ref 4]) (σ' := (97, I, J, R)) rfl ?_
          cases hx_8 : rs_Mo_read I a1 a2 with
          | none => rw [hx_8] at h; cases h
          | some x_7 =>
            rw [hx_8] at h
            dsimp only at h
            refine az_E.call (d := 2) (k' := 40) (vs := [.ref 4, .int a1, .int a2]) (pc' := 32) (S' := []) (Q1 := fun v s => v = some (.int x_7) ∧ s = (97, I, J, R)) rfl (az_E.deep (by omega) (re_Mo_read (J := J) (R := R)  hx_8 ⟨rfl, rfl⟩)) (fun v s hq => ?_)
            obtain ⟨rfl, rfl⟩ := hq
            show az_E az_F ex 3 87 32 [.ref 3, .int a1, .int a2, .int a3, .retAddr 0] [.int x_7] (97, I, J, R) _
            refine az_E.sn 3 (pc' := 37) (L' := [.ref 3, .int a1, .int a2, .int a3, .int x_7]) (S' := [.int a3, .int x_7]) (σ' := (97, I, J, R)) rfl ?_
            refine az_E.br (c := x_7 = a3) (tt := 62) (ff := 40) (L' := [.ref 3, .int a1, .int a2, .int a3, .int x_7]) (S' := []) (σ' := (97, I, J, R)) rfl (fun hc_9 => ?_) (fun hc_9 => ?_)
            · rw [if_pos hc_9] at h
              refine az_E.sn 1 (pc' := 64) (L' := [.ref 3, .int a1, .int a2, .int a3, .int x_7]) (S' := [.int x_7]) (σ' := (97, I, J, R)) rfl ?_
              have h := Option.some.inj h
              subst h
              exact az_E.ret (v := some (.int x_7)) (σ' := (97, I, J, R)) rfl hQ
            · rw [if_neg hc_9] at h
              refine az_E.sn 6 (pc' := 49) (L' := [.ref 3, .int a1, .int a2, .int a3, .int x_7]) (S' := [.int a3, .int x_7, .int a2, .int a1, .ref 44]) (σ' := (97, I, J, R)) rfl ?_
              cases hx_11 : rs_Ch_add I a1 a2 x_7 a3 with
              | none => rw [hx_11] at h; cases h
              | some I_10 =>
                rw [hx_11] at h
                dsimp only at h
                refine az_E.call (d := 2) (k' := 11) (vs := [.ref 44, .int a1, .int a2, .int x_7, .int a3]) (pc' := 52) (S' := []) (Q1 := fun v s => v = none ∧ s = (97, I_10, J, R)) rfl (az_E.deep (by omega) (re_Ch_add (J := J) (R := R)  hx_11 ⟨rfl, rfl⟩)) (fun v s hq => ?_)
                obtain ⟨rfl, rfl⟩ := hq
                show az_E az_F ex 3 87 52 [.ref 3, .int a1, .int a2, .int a3, .int x_7] [] (97, I_10, J, R) _
                refine az_E.sn 5 (pc' := 59) (L' := [.ref 3, .int a1, .int a2, .int a3, .int x_7]) (S' := [.int a3, .int a2, .int a1, .ref 4]) (σ' := (97, I_10, J, R)) rfl ?_
                cases hx_13 : rs_Mo_write I_10 a1 a2 a3 with
                | none => rw [hx_13] at h; cases h
                | some I_12 =>
                  rw [hx_13] at h
                  dsimp only at h
                  refine az_E.call (d := 2) (k' := 41) (vs := [.ref 4, .int a1, .int a2, .int a3]) (pc' := 62) (S' := []) (Q1 := fun v s => v = none ∧ s = (97, I_12, J, R)) rfl (az_E.deep (by omega) (re_Mo_write (J := J) (R := R)  hx_13 ⟨rfl, rfl⟩)) (fun v s hq => ?_)
                  obtain ⟨rfl, rfl⟩ := hq
                  show az_E az_F ex 3 87 62 [.ref 3, .int a1, .int a2, .int a3, .int x_7] [] (97, I_12, J, R) _
                  refine az_E.sn 1 (pc' := 64) (L' := [.ref 3, .int a1, .int a2, .int a3, .int x_7]) (S' := [.int x_7]) (σ' := (97, I_12, J, R)) rfl ?_
                  have h := Option.some.inj h
                  subst h
                  exact az_E.ret (v := some (.int x_7)) (σ' := (97, I_12, J, R)) rfl hQ
set_option maxRecDepth 100000 in
set_option maxHeartbeats 4000000 in
theorem re_M_placeOf_92 {ex : az_X} {I : Nat → Nat → Int32} {J : Nat → Nat → Int64} {R : Nat → Nat → Option Nat} {v1 : Int32} {v2 : Int32} {x : Int32} (h : rs_M_placeOf_92 I v1 v2 = some x) {Q : Option Value → az_S → Prop} (hQ : Q (some (.int x)) (97, I, J, R)) : az_E az_F ex 2 171 92 [.ref 73, .int v1, .int v2] [] (97, I, J, R) Q := by
  unfold rs_M_placeOf_92 at h
  refine az_E.sn 3 (pc' := 95) (L' := [.ref 73, .int v1, .int v2]) (S' := [.long v1.toInt64, .ref 73]) (σ' := (97, I, J, R)) rfl ?_
  refine az_E.call (d := 1) (k' := 162) (vs := [.ref 73, .long v1.toInt64]) (pc' := 98) (S' := []) rfl ?_ (fun _ _ hq => hq)
  show az_E az_F ex 1 162 0 [.ref 73, .long v1.toInt64, .retAddr 0] [] (97, I, J, R) _
  refine az_E.sn 7 (pc' := 9) (L' := [.ref 73, .long v1.toInt64, .retAddr 0]) (S' := [.long ((I 73 7) - (1 : Int32)).toInt64, .long (0 : Int64), .long v1.toInt64]) (σ' := (97, I, J, R)) rfl ?_
  refine az_E.call (d := 0) (k' := 154) (vs := [.long v1.toInt64, .long (0 : Int64), .long ((I 73 7) - (1 : Int32)).toInt64]) (pc' := 12) (S' := []) rfl ?_ (fun _ _ hq => hq)
  show az_E az_F ex 0 154 0 [.long v1.toInt64, .retAddr 0, .long (0 : Int64), .retAddr 0, .long ((I 73 7) - (1 : Int32)).toInt64, .retAddr 0] [] (97, I, J, R) _
  refine az_E.sn 3 (pc' := 3) (L' := [.long v1.toInt64, .retAddr 0, .long (0 : Int64), .retAddr 0, .long ((I 73 7) - (1 : Int32)).toInt64, .retAddr 0]) (S' := [.int (lg_cmp v1.toInt64 (0 : Int64))]) (σ' := (97, I, J, R)) rfl ?_
  refine az_E.br (c := (lg_cmp v1.toInt64 (0 : Int64)) < 0) (tt := 17) (ff := 6) (L' := [.long v1.toInt64, .retAddr 0, .long (0 : Int64), .retAddr 0, .long ((I 73 7) - (1 : Int32)).toInt64, .retAddr 0]) (S' := []) (σ' := (97, I, J, R)) rfl (fun hc_11 => ?_) (fun hc_11 => ?_)
  · rw [if_pos hc_11] at h
    refine az_E.sn 1 (pc' := 18) (L' := [.long v1.toInt64, .retAddr 0, .long (0 : Int64), .retAddr 0, .long ((I 73 7) - (1 : Int32)).toInt64, .retAddr 0]) (S' := [.int (0 : Int32)]) (σ' := (97, I, J, R)) rfl ?_
    refine az_E.ret (v := some (.int (0 : Int32))) (σ' := (97, I, J, R)) rfl ?_
    show az_E az_F ex 1 162 12 [.ref 73, .long v1.toInt64, .retAddr 0] [.int (0 : Int32)] (97, I, J, R) _
    refine az_E.ret (v := some (.int (0 : Int32))) (σ' := (97, I, J, R)) rfl ?_
    show az_E az_F ex 2 171 98 [.ref 73, .int v1, .int v2] [.int (0 : Int32)] (97, I, J, R) _
    refine az_E.br (c := (0 : Int32) = 0) (tt := 116) (ff := 101) (L' := [.ref 73, .int v1, .int v2]) (S' := []) (σ' := (97, I, J, R)) rfl (fun _ => ?_) (fun hn => absurd (by decide) hn)
    refine az_E.sn 1 (pc' := 117) (L' := [.ref 73, .int v1, .int v2]) (S' := [.int (-1 : Int32)]) (σ' := (97, I, J, R)) rfl ?_
    have h := Option.some.inj h
    subst h
    exact az_E.ret (v := some (.int (-1 : Int32))) (σ' := (97, I, J, R)) rfl hQ
  · rw [if_neg hc_11] at h
    refine az_E.sn 3 (pc' := 10) (L' := [.long v1.toInt64, .retAddr 0, .long (0 : Int64), .retAddr 0, .long ((I 73 7) - (1 : Int32)).toInt64, .retAddr 0]) (S' := [.int (lg_cmp v1.toInt64 ((I 73 7) - (1 : Int32)).toInt64)]) (σ' := (97, I, J, R)) rfl ?_
    refine az_E.br (c := 0 < (lg_cmp v1.toInt64 ((I 73 7) - (1 : Int32)).toInt64)) (tt := 17) (ff := 13) (L' := [.long v1.toInt64, .retAddr 0, .long (0 : Int64), .retAddr 0, .long ((I 73 7) - (1 : Int32)).toInt64, .retAddr 0]) (S' := []) (σ' := (97, I, J, R)) rfl (fun hc_12 => ?_) (fun hc_12 => ?_)
    · rw [if_pos hc_12] at h
      refine az_E.sn 1 (pc' := 18) (L' := [.long v1.toInt64, .retAddr 0, .long (0 : Int64), .retAddr 0, .long ((I 73 7) - (1 : Int32)).toInt64, .retAddr 0]) (S' := [.int (0 : Int32)]) (σ' := (97, I, J, R)) rfl ?_
      refine az_E.ret (v := some (.int (0 : Int32))) (σ' := (97, I, J, R)) rfl ?_
      show az_E az_F ex 1 162 12 [.ref 73, .long v1.toInt64, .retAddr 0] [.int (0 : Int32)] (97, I, J, R) _
      refine az_E.ret (v := some (.int (0 : Int32))) (σ' := (97, I, J, R)) rfl ?_
      show az_E az_F ex 2 171 98 [.ref 73, .int v1, .int v2] [.int (0 : Int32)] (97, I, J, R) _
      refine az_E.br (c := (0 : Int32) = 0) (tt := 116) (ff := 101) (L' := [.ref 73, .int v1, .int v2]) (S' := []) (σ' := (97, I, J, R)) rfl (fun _ => ?_) (fun hn => absurd (by decide) hn)
      refine az_E.sn 1 (pc' := 117) (L' := [.ref 73, .int v1, .int v2]) (S' := [.int (-1 : Int32)]) (σ' := (97, I, J, R)) rfl ?_
      have h := Option.some.inj h
      subst h
      exact az_E.ret (v := some (.int (-1 : Int32))) (σ' := (97, I, J, R)) rfl hQ
    · rw [if_neg hc_12] at h
      refine az_E.sn 2 (pc' := 18) (L' := [.long v1.toInt64, .retAddr 0, .long (0 : Int64), .retAddr 0, .long ((I 73 7) - (1 : Int32)).toInt64, .retAddr 0]) (S' := [.int (1 : Int32)]) (σ' := (97, I, J, R)) rfl ?_
      refine az_E.ret (v := some (.int (1 : Int32))) (σ' := (97, I, J, R)) rfl ?_
      show az_E az_F ex 1 162 12 [.ref 73, .long v1.toInt64, .retAddr 0] [.int (1 : Int32)] (97, I, J, R) _
      refine az_E.ret (v := some (.int (1 : Int32))) (σ' := (97, I, J, R)) rfl ?_
      show az_E az_F ex 2 171 98 [.ref 73, .int v1, .int v2] [.int (1 : Int32)] (97, I, J, R) _
      refine az_E.br (c := (1 : Int32) = 0) (tt := 116) (ff := 101) (L' := [.ref 73, .int v1, .int v2]) (S' := []) (σ' := (97, I, J, R)) rfl (fun hn => absurd hn (by decide)) (fun _ => ?_)
      refine az_E.sn 10 (pc' := 117) (L' := [.ref 73, .int v1, .int v2]) (S' := [.int (((160 : Int32) + ((6 : Int32) * (v2 - (3 : Int32)))) + v1)]) (σ' := (97, I, J, R)) rfl ?_
      have h := Option.some.inj h
      subst h
      exact az_E.ret (v := some (.int (((160 : Int32) + ((6 : Int32) * (v2 - (3 : Int32)))) + v1))) (σ' := (97, I, J, R)) rfl hQ
set_option maxRecDepth 100000 in
set_option maxHeartbeats 4000000 in
theorem re_M_placeOf {ex : az_X} {I : Nat → Nat → Int32} {J : Nat → Nat → Int64} {R : Nat → Nat → Option Nat} {a1 : Int32} {a2 : Int32} {o : Int32} (h : rs_M_placeOf I a1 a2 = some o) {Q : Option Value → az_S → Prop} (hQ : Q (some (.int o)) (97, I, J, R)) : az_E az_F ex 2 171 0 [.ref 73, .int a1, .int a2] [] (97, I, J, R) Q := by
  unfold rs_M_placeOf at h
  refine az_E.sn 1 (pc' := 1) (L' := [.ref 73, .int a1, .int a2]) (S' := [.int a2]) (σ' := (97, I, J, R)) rfl ?_
  by_cases hc_1 : a2 = (0 : Int32)
  · rw [if_pos hc_1] at h
    refine az_E.sw hc_1 (pc' := 40) (L' := [.ref 73, .int a1, .int a2]) (S' := []) (σ' := (97, I, J, R)) rfl ?_
    refine az_E.sn 2 (pc' := 42) (L' := [.ref 73, .int a1, .int a2]) (S' := [.long a1.toInt64]) (σ' := (97, I, J, R)) rfl ?_
    refine az_E.call (d := 1) (k' := 160) (vs := [.long a1.toInt64]) (pc' := 45) (S' := []) rfl ?_ (fun _ _ hq => hq)
    show az_E az_F ex 1 160 0 [.long a1.toInt64, .retAddr 0] [] (97, I, J, R) _
    refine az_E.sn 3 (pc' := 5) (L' := [.long a1.toInt64, .retAddr 0]) (S' := [.long (143 : Int64), .long (0 : Int64), .long a1.toInt64]) (σ' := (97, I, J, R)) rfl ?_
    refine az_E.call (d := 0) (k' := 154) (vs := [.long a1.toInt64, .long (0 : Int64), .long (143 : Int64)]) (pc' := 8) (S' := []) rfl ?_ (fun _ _ hq => hq)
    show az_E az_F ex 0 154 0 [.long a1.toInt64, .retAddr 0, .long (0 : Int64), .retAddr 0, .long (143 : Int64), .retAddr 0] [] (97, I, J, R) _
    refine az_E.sn 3 (pc' := 3) (L' := [.long a1.toInt64, .retAddr 0, .long (0 : Int64), .retAddr 0, .long (143 : Int64), .retAddr 0]) (S' := [.int (lg_cmp a1.toInt64 (0 : Int64))]) (σ' := (97, I, J, R)) rfl ?_
    refine az_E.br (c := (lg_cmp a1.toInt64 (0 : Int64)) < 0) (tt := 17) (ff := 6) (L' := [.long a1.toInt64, .retAddr 0, .long (0 : Int64), .retAddr 0, .long (143 : Int64), .retAddr 0]) (S' := []) (σ' := (97, I, J, R)) rfl (fun hc_2 => ?_) (fun hc_2 => ?_)
    · rw [if_pos hc_2] at h
      refine az_E.sn 1 (pc' := 18) (L' := [.long a1.toInt64, .retAddr 0, .long (0 : Int64), .retAddr 0, .long (143 : Int64), .retAddr 0]) (S' := [.int (0 : Int32)]) (σ' := (97, I, J, R)) rfl ?_
      refine az_E.ret (v := some (.int (0 : Int32))) (σ' := (97, I, J, R)) rfl ?_
      show az_E az_F ex 1 160 8 [.long a1.toInt64, .retAddr 0] [.int (0 : Int32)] (97, I, J, R) _
      refine az_E.ret (v := some (.int (0 : Int32))) (σ' := (97, I, J, R)) rfl ?_
      show az_E az_F ex 2 171 45 [.ref 73, .int a1, .int a2] [.int (0 : Int32)] (97, I, J, R) _
      refine az_E.br (c := (0 : Int32) = 0) (tt := 52) (ff := 48) (L' := [.ref 73, .int a1, .int a2]) (S' := []) (σ' := (97, I, J, R)) rfl (fun _ => ?_) (fun hn => absurd (by decide) hn)
      refine az_E.sn 1 (pc' := 53) (L' := [.ref 73, .int a1, .int a2]) (S' := [.int (-1 : Int32)]) (σ' := (97, I, J, R)) rfl ?_
      have h := Option.some.inj h
      subst h
      exact az_E.ret (v := some (.int (-1 : Int32))) (σ' := (97, I, J, R)) rfl hQ
    · rw [if_neg hc_2] at h
      refine az_E.sn 3 (pc' := 10) (L' := [.long a1.toInt64, .retAddr 0, .long (0 : Int64), .retAddr 0, .long (143 : Int64), .retAddr 0]) (S' := [.int (lg_cmp a1.toInt64 (143 : Int64))]) (σ' := (97, I, J, R)) rfl ?_
      refine az_E.br (c := 0 < (lg_cmp a1.toInt64 (143 : Int64))) (tt := 17) (ff := 13) (L' := [.long a1.toInt64, .retAddr 0, .long (0 : Int64), .retAddr 0, .long (143 : Int64), .retAddr 0]) (S' := []) (σ' := (97, I, J, R)) rfl (fun hc_3 => ?_) (fun hc_3 => ?_)
      · rw [if_pos hc_3] at h
        refine az_E.sn 1 (pc' := 18) (L' := [.long a1.toInt64, .retAddr 0, .long (0 : Int64), .retAddr 0, .long (143 : Int64), .retAddr 0]) (S' := [.int (0 : Int32)]) (σ' := (97, I, J, R)) rfl ?_
        refine az_E.ret (v := some (.int (0 : Int32))) (σ' := (97, I, J, R)) rfl ?_
        show az_E az_F ex 1 160 8 [.long a1.toInt64, .retAddr 0] [.int (0 : Int32)] (97, I, J, R) _
        refine az_E.ret (v := some (.int (0 : Int32))) (σ' := (97, I, J, R)) rfl ?_
        show az_E az_F ex 2 171 45 [.ref 73, .int a1, .int a2] [.int (0 : Int32)] (97, I, J, R) _
        refine az_E.br (c := (0 : Int32) = 0) (tt := 52) (ff := 48) (L' := [.ref 73, .int a1, .int a2]) (S' := []) (σ' := (97, I, J, R)) rfl (fun _ => ?_) (fun hn => absurd (by decide) hn)
        refine az_E.sn 1 (pc' := 53) (L' := [.ref 73, .int a1, .int a2]) (S' := [.int (-1 : Int32)]) (σ' := (97, I, J, R)) rfl ?_
        have h := Option.some.inj h
        subst h
        exact az_E.ret (v := some (.int (-1 : Int32))) (σ' := (97, I, J, R)) rfl hQ
      · rw [if_neg hc_3] at h
        refine az_E.sn 2 (pc' := 18) (L' := [.long a1.toInt64, .retAddr 0, .long (0 : Int64), .retAddr 0, .long (143 : Int64), .retAddr 0]) (S' := [.int (1 : Int32)]) (σ' := (97, I, J, R)) rfl ?_
        refine az_E.ret (v := some (.int (1 : Int32))) (σ' := (97, I, J, R)) rfl ?_
        show az_E az_F ex 1 160 8 [.long a1.toInt64, .retAddr 0] [.int (1 : Int32)] (97, I, J, R) _
        refine az_E.ret (v := some (.int (1 : Int32))) (σ' := (97, I, J, R)) rfl ?_
        show az_E az_F ex 2 171 45 [.ref 73, .int a1, .int a2] [.int (1 : Int32)] (97, I, J, R) _
        refine az_E.br (c := (1 : Int32) = 0) (tt := 52) (ff := 48) (L' := [.ref 73, .int a1, .int a2]) (S' := []) (σ' := (97, I, J, R)) rfl (fun hn => absurd hn (by decide)) (fun _ => ?_)
        refine az_E.sn 2 (pc' := 53) (L' := [.ref 73, .int a1, .int a2]) (S' := [.int a1]) (σ' := (97, I, J, R)) rfl ?_
        have h := Option.some.inj h
        subst h
        exact az_E.ret (v := some (.int a1)) (σ' := (97, I, J, R)) rfl hQ
  · rw [if_neg hc_1] at h
    by_cases hc_4 : a2 = (1 : Int32)
    · rw [if_pos hc_4] at h
      refine az_E.sw hc_4 (pc' := 54) (L' := [.ref 73, .int a1, .int a2]) (S' := []) (σ' := (97, I, J, R)) rfl ?_
      refine az_E.sn 3 (pc' := 57) (L' := [.ref 73, .int a1, .int a2]) (S' := [.long a1.toInt64, .ref 73]) (σ' := (97, I, J, R)) rfl ?_
      refine az_E.call (d := 1) (k' := 161) (vs := [.ref 73, .long a1.toInt64]) (pc' := 60) (S' := []) rfl ?_ (fun _ _ hq => hq)
      show az_E az_F ex 1 161 0 [.ref 73, .long a1.toInt64, .retAddr 0] [] (97, I, J, R) _
      refine az_E.sn 7 (pc' := 9) (L' := [.ref 73, .long a1.toInt64, .retAddr 0]) (S' := [.long ((I 73 6) - (1 : Int32)).toInt64, .long (0 : Int64), .long a1.toInt64]) (σ' := (97, I, J, R)) rfl ?_
      refine az_E.call (d := 0) (k' := 154) (vs := [.long a1.toInt64, .long (0 : Int64), .long ((I 73 6) - (1 : Int32)).toInt64]) (pc' := 12) (S' := []) rfl ?_ (fun _ _ hq => hq)
      show az_E az_F ex 0 154 0 [.long a1.toInt64, .retAddr 0, .long (0 : Int64), .retAddr 0, .long ((I 73 6) - (1 : Int32)).toInt64, .retAddr 0] [] (97, I, J, R) _
      refine az_E.sn 3 (pc' := 3) (L' := [.long a1.toInt64, .retAddr 0, .long (0 : Int64), .retAddr 0, .long ((I 73 6) - (1 : Int32)).toInt64, .retAddr 0]) (S' := [.int (lg_cmp a1.toInt64 (0 : Int64))]) (σ' := (97, I, J, R)) rfl ?_
      refine az_E.br (c := (lg_cmp a1.toInt64 (0 : Int64)) < 0) (tt := 17) (ff := 6) (L' := [.long a1.toInt64, .retAddr 0, .long (0 : Int64), .retAddr 0, .long ((I 73 6) - (1 : Int32)).toInt64, .retAddr 0]) (S' := []) (σ' := (97, I, J, R)) rfl (fun hc_5 => ?_) (fun hc_5 => ?_)
      · rw [if_pos hc_5] at h
        refine az_E.sn 1 (pc' := 18) (L' := [.long a1.toInt64, .retAddr 0, .long (0 : Int64), .retAddr 0, .long ((I 73 6) - (1 : Int32)).toInt64, .retAddr 0]) (S' := [.int (0 : Int32)]) (σ' := (97, I, J, R)) rfl ?_
        refine az_E.ret (v := some (.int (0 : Int32))) (σ' := (97, I, J, R)) rfl ?_
        show az_E az_F ex 1 161 12 [.ref 73, .long a1.toInt64, .retAddr 0] [.int (0 : Int32)] (97, I, J, R) _
        refine az_E.ret (v := some (.int (0 : Int32))) (σ' := (97, I, J, R)) rfl ?_
        show az_E az_F ex 2 171 60 [.ref 73, .int a1, .int a2] [.int (0 : Int32)] (97, I, J, R) _
        refine az_E.br (c := (0 : Int32) = 0) (tt := 71) (ff := 63) (L' := [.ref 73, .int a1, .int a2]) (S' := []) (σ' := (97, I, J, R)) rfl (fun _ => ?_) (fun hn => absurd (by decide) hn)
        refine az_E.sn 1 (pc' := 72) (L' := [.ref 73, .int a1, .int a2]) (S' := [.int (-1 : Int32)]) (σ' := (97, I, J, R)) rfl ?_
        have h := Option.some.inj h
        subst h
        exact az_E.ret (v := some (.int (-1 : Int32))) (σ' := (97, I, J, R)) rfl hQ
      · rw [if_neg hc_5] at h
        refine az_E.sn 3 (pc' := 10) (L' := [.long a1.toInt64, .retAddr 0, .long (0 : Int64), .retAddr 0, .long ((I 73 6) - (1 : Int32)).toInt64, .retAddr 0]) (S' := [.int (lg_cmp a1.toInt64 ((I 73 6) - (1 : Int32)).toInt64)]) (σ' := (97, I, J, R)) rfl ?_
        refine az_E.br (c := 0 < (lg_cmp a1.toInt64 ((I 73 6) - (1 : Int32)).toInt64)) (tt := 17) (ff := 13) (L' := [.long a1.toInt64, .retAddr 0, .long (0 : Int64), .retAddr 0, .long ((I 73 6) - (1 : Int32)).toInt64, .retAddr 0]) (S' := []) (σ' := (97, I, J, R)) rfl (fun hc_6 => ?_) (fun hc_6 => ?_)
        · rw [if_pos hc_6] at h
          refine az_E.sn 1 (pc' := 18) (L' := [.long a1.toInt64, .retAddr 0, .long (0 : Int64), .retAddr 0, .long ((I 73 6) - (1 : Int32)).toInt64, .retAddr 0]) (S' := [.int (0 : Int32)]) (σ' := (97, I, J, R)) rfl ?_
          refine az_E.ret (v := some (.int (0 : Int32))) (σ' := (97, I, J, R)) rfl ?_
          show az_E az_F ex 1 161 12 [.ref 73, .long a1.toInt64, .retAddr 0] [.int (0 : Int32)] (97, I, J, R) _
          refine az_E.ret (v := some (.int (0 : Int32))) (σ' := (97, I, J, R)) rfl ?_
          show az_E az_F ex 2 171 60 [.ref 73, .int a1, .int a2] [.int (0 : Int32)] (97, I, J, R) _
          refine az_E.br (c := (0 : Int32) = 0) (tt := 71) (ff := 63) (L' := [.ref 73, .int a1, .int a2]) (S' := []) (σ' := (97, I, J, R)) rfl (fun _ => ?_) (fun hn => absurd (by decide) hn)
          refine az_E.sn 1 (pc' := 72) (L' := [.ref 73, .int a1, .int a2]) (S' := [.int (-1 : Int32)]) (σ' := (97, I, J, R)) rfl ?_
          have h := Option.some.inj h
          subst h
          exact az_E.ret (v := some (.int (-1 : Int32))) (σ' := (97, I, J, R)) rfl hQ
        · rw [if_neg hc_6] at h
          refine az_E.sn 2 (pc' := 18) (L' := [.long a1.toInt64, .retAddr 0, .long (0 : Int64), .retAddr 0, .long ((I 73 6) - (1 : Int32)).toInt64, .retAddr 0]) (S' := [.int (1 : Int32)]) (σ' := (97, I, J, R)) rfl ?_
          refine az_E.ret (v := some (.int (1 : Int32))) (σ' := (97, I, J, R)) rfl ?_
          show az_E az_F ex 1 161 12 [.ref 73, .long a1.toInt64, .retAddr 0] [.int (1 : Int32)] (97, I, J, R) _
          refine az_E.ret (v := some (.int (1 : Int32))) (σ' := (97, I, J, R)) rfl ?_
          show az_E az_F ex 2 171 60 [.ref 73, .int a1, .int a2] [.int (1 : Int32)] (97, I, J, R) _
          refine az_E.br (c := (1 : Int32) = 0) (tt := 71) (ff := 63) (L' := [.ref 73, .int a1, .int a2]) (S' := []) (σ' := (97, I, J, R)) rfl (fun hn => absurd hn (by decide)) (fun _ => ?_)
          refine az_E.sn 4 (pc' := 72) (L' := [.ref 73, .int a1, .int a2]) (S' := [.int ((144 : Int32) + a1)]) (σ' := (97, I, J, R)) rfl ?_
          have h := Option.some.inj h
          subst h
          exact az_E.ret (v := some (.int ((144 : Int32) + a1))) (σ' := (97, I, J, R)) rfl hQ
    · rw [if_neg hc_4] at h
      by_cases hc_7 : a2 = (2 : Int32)
      · rw [if_pos hc_7] at h
        refine az_E.sw hc_7 (pc' := 73) (L' := [.ref 73, .int a1, .int a2]) (S' := []) (σ' := (97, I, J, R)) rfl ?_
        refine az_E.sn 3 (pc' := 76) (L' := [.ref 73, .int a1, .int a2]) (S' := [.long a1.toInt64, .ref 73]) (σ' := (97, I, J, R)) rfl ?_
        refine az_E.call (d := 1) (k' := 161) (vs := [.ref 73, .long a1.toInt64]) (pc' := 79) (S' := []) rfl ?_ (fun _ _ hq => hq)
        show az_E az_F ex 1 161 0 [.ref 73, .long a1.toInt64, .retAddr 0] [] (97, I, J, R) _
        refine az_E.sn 7 (pc' := 9) (L' := [.ref 73, .long a1.toInt64, .retAddr 0]) (S' := [.long ((I 73 6) - (1 : Int32)).toInt64, .long (0 : Int64), .long a1.toInt64]) (σ' := (97, I, J, R)) rfl ?_
        refine az_E.call (d := 0) (k' := 154) (vs := [.long a1.toInt64, .long (0 : Int64), .long ((I 73 6) - (1 : Int32)).toInt64]) (pc' := 12) (S' := []) rfl ?_ (fun _ _ hq => hq)
        show az_E az_F ex 0 154 0 [.long a1.toInt64, .retAddr 0, .long (0 : Int64), .retAddr 0, .long ((I 73 6) - (1 : Int32)).toInt64, .retAddr 0] [] (97, I, J, R) _
        refine az_E.sn 3 (pc' := 3) (L' := [.long a1.toInt64, .retAddr 0, .long (0 : Int64), .retAddr 0, .long ((I 73 6) - (1 : Int32)).toInt64, .retAddr 0]) (S' := [.int (lg_cmp a1.toInt64 (0 : Int64))]) (σ' := (97, I, J, R)) rfl ?_
        refine az_E.br (c := (lg_cmp a1.toInt64 (0 : Int64)) < 0) (tt := 17) (ff := 6) (L' := [.long a1.toInt64, .retAddr 0, .long (0 : Int64), .retAddr 0, .long ((I 73 6) - (1 : Int32)).toInt64, .retAddr 0]) (S' := []) (σ' := (97, I, J, R)) rfl (fun hc_8 => ?_) (fun hc_8 => ?_)
        · rw [if_pos hc_8] at h
          refine az_E.sn 1 (pc' := 18) (L' := [.long a1.toInt64, .retAddr 0, .long (0 : Int64), .retAddr 0, .long ((I 73 6) - (1 : Int32)).toInt64, .retAddr 0]) (S' := [.int (0 : Int32)]) (σ' := (97, I, J, R)) rfl ?_
          refine az_E.ret (v := some (.int (0 : Int32))) (σ' := (97, I, J, R)) rfl ?_
          show az_E az_F ex 1 161 12 [.ref 73, .long a1.toInt64, .retAddr 0] [.int (0 : Int32)] (97, I, J, R) _
          refine az_E.ret (v := some (.int (0 : Int32))) (σ' := (97, I, J, R)) rfl ?_
          show az_E az_F ex 2 171 79 [.ref 73, .int a1, .int a2] [.int (0 : Int32)] (97, I, J, R) _
          refine az_E.br (c := (0 : Int32) = 0) (tt := 90) (ff := 82) (L' := [.ref 73, .int a1, .int a2]) (S' := []) (σ' := (97, I, J, R)) rfl (fun _ => ?_) (fun hn => absurd (by decide) hn)
          refine az_E.sn 1 (pc' := 91) (L' := [.ref 73, .int a1, .int a2]) (S' := [.int (-1 : Int32)]) (σ' := (97, I, J, R)) rfl ?_
          have h := Option.some.inj h
          subst h
          exact az_E.ret (v := some (.int (-1 : Int32))) (σ' := (97, I, J, R)) rfl hQ
        · rw [if_neg hc_8] at h
          refine az_E.sn 3 (pc' := 10) (L' := [.long a1.toInt64, .retAddr 0, .long (0 : Int64), .retAddr 0, .long ((I 73 6) - (1 : Int32)).toInt64, .retAddr 0]) (S' := [.int (lg_cmp a1.toInt64 ((I 73 6) - (1 : Int32)).toInt64)]) (σ' := (97, I, J, R)) rfl ?_
          refine az_E.br (c := 0 < (lg_cmp a1.toInt64 ((I 73 6) - (1 : Int32)).toInt64)) (tt := 17) (ff := 13) (L' := [.long a1.toInt64, .retAddr 0, .long (0 : Int64), .retAddr 0, .long ((I 73 6) - (1 : Int32)).toInt64, .retAddr 0]) (S' := []) (σ' := (97, I, J, R)) rfl (fun hc_9 => ?_) (fun hc_9 => ?_)
          · rw [if_pos hc_9] at h
            refine az_E.sn 1 (pc' := 18) (L' := [.long a1.toInt64, .retAddr 0, .long (0 : Int64), .retAddr 0, .long ((I 73 6) - (1 : Int32)).toInt64, .retAddr 0]) (S' := [.int (0 : Int32)]) (σ' := (97, I, J, R)) rfl ?_
            refine az_E.ret (v := some (.int (0 : Int32))) (σ' := (97, I, J, R)) rfl ?_
            show az_E az_F ex 1 161 12 [.ref 73, .long a1.toInt64, .retAddr 0] [.int (0 : Int32)] (97, I, J, R) _
            refine az_E.ret (v := some (.int (0 : Int32))) (σ' := (97, I, J, R)) rfl ?_
            show az_E az_F ex 2 171 79 [.ref 73, .int a1, .int a2] [.int (0 : Int32)] (97, I, J, R) _
            refine az_E.br (c := (0 : Int32) = 0) (tt := 90) (ff := 82) (L' := [.ref 73, .int a1, .int a2]) (S' := []) (σ' := (97, I, J, R)) rfl (fun _ => ?_) (fun hn => absurd (by decide) hn)
            refine az_E.sn 1 (pc' := 91) (L' := [.ref 73, .int a1, .int a2]) (S' := [.int (-1 : Int32)]) (σ' := (97, I, J, R)) rfl ?_
            have h := Option.some.inj h
            subst h
            exact az_E.ret (v := some (.int (-1 : Int32))) (σ' := (97, I, J, R)) rfl hQ
          · rw [if_neg hc_9] at h
            refine az_E.sn 2 (pc' := 18) (L' := [.long a1.toInt64, .retAddr 0, .long (0 : Int64), .retAddr 0, .long ((I 73 6) - (1 : Int32)).toInt64, .retAddr 0]) (S' := [.int (1 : Int32)]) (σ' := (97, I, J, R)) rfl ?_
            refine az_E.ret (v := some (.int (1 : Int32))) (σ' := (97, I, J, R)) rfl ?_
            show az_E az_F ex 1 161 12 [.ref 73, .long a1.toInt64, .retAddr 0] [.int (1 : Int32)] (97, I, J, R) _
            refine az_E.ret (v := some (.int (1 : Int32))) (σ' := (97, I, J, R)) rfl ?_
            show az_E az_F ex 2 171 79 [.ref 73, .int a1, .int a2] [.int (1 : Int32)] (97, I, J, R) _
            refine az_E.br (c := (1 : Int32) = 0) (tt := 90) (ff := 82) (L' := [.ref 73, .int a1, .int a2]) (S' := []) (σ' := (97, I, J, R)) rfl (fun hn => absurd hn (by decide)) (fun _ => ?_)
            refine az_E.sn 4 (pc' := 91) (L' := [.ref 73, .int a1, .int a2]) (S' := [.int ((152 : Int32) + a1)]) (σ' := (97, I, J, R)) rfl ?_
            have h := Option.some.inj h
            subst h
            exact az_E.ret (v := some (.int ((152 : Int32) + a1))) (σ' := (97, I, J, R)) rfl hQ
      · rw [if_neg hc_7] at h
        by_cases hc_10 : a2 = (3 : Int32)
        · rw [if_pos hc_10] at h
          refine az_E.sw hc_10 (pc' := 92) (L' := [.ref 73, .int a1, .int a2]) (S' := []) (σ' := (97, I, J, R)) rfl ?_
          exact az_E.forget (L := [.ref 73, .int a1, .int a2]) ⟨rfl, rfl, rfl, trivial⟩ (re_M_placeOf_92 (I := I) (J := J) (R := R)  h hQ)
        · rw [if_neg hc_10] at h
          by_cases hc_13 : a2 = (4 : Int32)
          · rw [if_pos hc_13] at h
            refine az_E.sw hc_13 (pc' := 92) (L' := [.ref 73, .int a1, .int a2]) (S' := []) (σ' := (97, I, J, R)) rfl ?_
            exact az_E.forget (L := [.ref 73, .int a1, .int a2]) ⟨rfl, rfl, rfl, trivial⟩ (re_M_placeOf_92 (I := I) (J := J) (R := R)  h hQ)
          · rw [if_neg hc_13] at h
            by_cases hc_14 : a2 = (5 : Int32)
            · rw [if_pos hc_14] at h
              refine az_E.sw hc_14 (pc' := 92) (L' := [.ref 73, .int a1, .int a2]) (S' := []) (σ' := (97, I, J, R)) rfl ?_
              exact az_E.forget (L := [.ref 73, .int a1, .int a2]) ⟨rfl, rfl, rfl, trivial⟩ (re_M_placeOf_92 (I := I) (J := J) (R := R)  h hQ)
            · rw [if_neg hc_14] at h
              have ehc_1 := az_nei hc_1 (z := 0) (by decide)
              have ehc_4 := az_nei hc_4 (z := 1) (by decide)
              have ehc_7 := az_nei hc_7 (z := 2) (by decide)
              have ehc_10 := az_nei hc_10 (z := 3) (by decide)
              have ehc_13 := az_nei hc_13 (z := 4) (by decide)
              have ehc_14 := az_nei hc_14 (z := 5) (by decide)
              refine az_E.swd (a := 118) (lo := 0) (hi := 5) (offs := #[39, 53, 72, 91, 91, 91]) rfl (by omega) ?_
              refine az_E.sn 2 (pc' := 121) (L' := [.ref 73, .int a1, .int a2]) (S' := [.int (6 : Int32), .int a2]) (σ' := (97, I, J, R)) rfl ?_
              refine az_E.br (c := a2 = (6 : Int32)) (tt := 124) (ff := 134) (L' := [.ref 73, .int a1, .int a2]) (S' := []) (σ' := (97, I, J, R)) rfl (fun hc_15 => ?_) (fun hc_15 => ?_)
              · rw [if_pos hc_15] at h
                refine az_E.sn 1 (pc' := 125) (L' := [.ref 73, .int a1, .int a2]) (S' := [.int a1]) (σ' := (97, I, J, R)) rfl ?_
                refine az_E.br (c := a1 = 0) (tt := 128) (ff := 134) (L' := [.ref 73, .int a1, .int a2]) (S' := []) (σ' := (97, I, J, R)) rfl (fun hc_16 => ?_) (fun hc_16 => ?_)
                · rw [if_pos hc_16] at h
                  refine az_E.sn 2 (pc' := 135) (L' := [.ref 73, .int a1, .int a2]) (S' := [.int (178 : Int32)]) (σ' := (97, I, J, R)) rfl ?_
                  have h := Option.some.inj h
                  subst h
                  exact az_E.ret (v := some (.int (178 : Int32))) (σ' := (97, I, J, R)) rfl hQ
                · rw [if_neg hc_16] at h
                  refine az_E.sn 1 (pc' := 135) (L' := [.ref 73, .int a1, .int a2]) (S' := [.int (-1 : Int32)]) (σ' := (97, I, J, R)) rfl ?_
                  have h := Option.some.inj h
                  subst h
                  exact az_E.ret (v := some (.int (-1 : Int32))) (σ' := (97, I, J, R)) rfl hQ
              · rw [if_neg hc_15] at h
                refine az_E.sn 1 (pc' := 135) (L' := [.ref 73, .int a1, .int a2]) (S' := [.int (-1 : Int32)]) (σ' := (97, I, J, R)) rfl ?_
                have h := Option.some.inj h
                subst h
                exact az_E.ret (v := some (.int (-1 : Int32))) (σ' := (97, I, J, R)) rfl hQ
set_option maxRecDepth 100000 in
set_option maxHeartbeats 4000000 in
theorem re_M_mayBecome_36 {ex : az_X} {I : Nat → Nat → Int32} {J : Nat → Nat → Int64} {R : Nat → Nat → Option Nat} {v1 : Int32} {x : Int32} (h : rs_M_mayBecome_36 v1 = some x) {Q : Option Value → az_S → Prop} (hQ : Q (some (.int x)) (97, I, J, R)) : az_E az_F ex 2 172 36 [.retAddr 0, .int v1] [] (97, I, J, R) Q := by
  unfold rs_M_mayBecome_36 at h
  refine az_E.sn 2 (pc' := 38) (L' := [.retAddr 0, .int v1]) (S' := [.long v1.toInt64]) (σ' := (97, I, J, R)) rfl ?_
  refine az_E.call (d := 1) (k' := 160) (vs := [.long v1.toInt64]) (pc' := 41) (S' := []) rfl ?_ (fun _ _ hq => hq)
  show az_E az_F ex 1 160 0 [.long v1.toInt64, .retAddr 0] [] (97, I, J, R) _
  refine az_E.sn 3 (pc' := 5) (L' := [.long v1.toInt64, .retAddr 0]) (S' := [.long (143 : Int64), .long (0 : Int64), .long v1.toInt64]) (σ' := (97, I, J, R)) rfl ?_
  refine az_E.call (d := 0) (k' := 154) (vs := [.long v1.toInt64, .long (0 : Int64), .long (143 : Int64)]) (pc' := 8) (S' := []) rfl ?_ (fun _ _ hq => hq)
  show az_E az_F ex 0 154 0 [.long v1.toInt64, .retAddr 0, .long (0 : Int64), .retAddr 0, .long (143 : Int64), .retAddr 0] [] (97, I, J, R) _
  refine az_E.sn 3 (pc' := 3) (L' := [.long v1.toInt64, .retAddr 0, .long (0 : Int64), .retAddr 0, .long (143 : Int64), .retAddr 0]) (S' := [.int (lg_cmp v1.toInt64 (0 : Int64))]) (σ' := (97, I, J, R)) rfl ?_
  refine az_E.br (c := (lg_cmp v1.toInt64 (0 : Int64)) < 0) (tt := 17) (ff := 6) (L' := [.long v1.toInt64, .retAddr 0, .long (0 : Int64), .retAddr 0, .long (143 : Int64), .retAddr 0]) (S' := []) (σ' := (97, I, J, R)) rfl (fun hc_2 => ?_) (fun hc_2 => ?_)
  · rw [if_pos hc_2] at h
    refine az_E.sn 1 (pc' := 18) (L' := [.long v1.toInt64, .retAddr 0, .long (0 : Int64), .retAddr 0, .long (143 : Int64), .retAddr 0]) (S' := [.int (0 : Int32)]) (σ' := (97, I, J, R)) rfl ?_
    refine az_E.ret (v := some (.int (0 : Int32))) (σ' := (97, I, J, R)) rfl ?_
    show az_E az_F ex 1 160 8 [.long v1.toInt64, .retAddr 0] [.int (0 : Int32)] (97, I, J, R) _
    refine az_E.ret (v := some (.int (0 : Int32))) (σ' := (97, I, J, R)) rfl ?_
    show az_E az_F ex 2 172 41 [.retAddr 0, .int v1] [.int (0 : Int32)] (97, I, J, R) _
    have h := Option.some.inj h
    subst h
    exact az_E.ret (v := some (.int (0 : Int32))) (σ' := (97, I, J, R)) rfl hQ
  · rw [if_neg hc_2] at h
    refine az_E.sn 3 (pc' := 10) (L' := [.long v1.toInt64, .retAddr 0, .long (0 : Int64), .retAddr 0, .long (143 : Int64), .retAddr 0]) (S' := [.int (lg_cmp v1.toInt64 (143 : Int64))]) (σ' := (97, I, J, R)) rfl ?_
    refine az_E.br (c := 0 < (lg_cmp v1.toInt64 (143 : Int64))) (tt := 17) (ff := 13) (L' := [.long v1.toInt64, .retAddr 0, .long (0 : Int64), .retAddr 0, .long (143 : Int64), .retAddr 0]) (S' := []) (σ' := (97, I, J, R)) rfl (fun hc_3 => ?_) (fun hc_3 => ?_)
    · rw [if_pos hc_3] at h
      refine az_E.sn 1 (pc' := 18) (L' := [.long v1.toInt64, .retAddr 0, .long (0 : Int64), .retAddr 0, .long (143 : Int64), .retAddr 0]) (S' := [.int (0 : Int32)]) (σ' := (97, I, J, R)) rfl ?_
      refine az_E.ret (v := some (.int (0 : Int32))) (σ' := (97, I, J, R)) rfl ?_
      show az_E az_F ex 1 160 8 [.long v1.toInt64, .retAddr 0] [.int (0 : Int32)] (97, I, J, R) _
      refine az_E.ret (v := some (.int (0 : Int32))) (σ' := (97, I, J, R)) rfl ?_
      show az_E az_F ex 2 172 41 [.retAddr 0, .int v1] [.int (0 : Int32)] (97, I, J, R) _
      have h := Option.some.inj h
      subst h
      exact az_E.ret (v := some (.int (0 : Int32))) (σ' := (97, I, J, R)) rfl hQ
    · rw [if_neg hc_3] at h
      refine az_E.sn 2 (pc' := 18) (L' := [.long v1.toInt64, .retAddr 0, .long (0 : Int64), .retAddr 0, .long (143 : Int64), .retAddr 0]) (S' := [.int (1 : Int32)]) (σ' := (97, I, J, R)) rfl ?_
      refine az_E.ret (v := some (.int (1 : Int32))) (σ' := (97, I, J, R)) rfl ?_
      show az_E az_F ex 1 160 8 [.long v1.toInt64, .retAddr 0] [.int (1 : Int32)] (97, I, J, R) _
      refine az_E.ret (v := some (.int (1 : Int32))) (σ' := (97, I, J, R)) rfl ?_
      show az_E az_F ex 2 172 41 [.retAddr 0, .int v1] [.int (1 : Int32)] (97, I, J, R) _
      have h := Option.some.inj h
      subst h
      exact az_E.ret (v := some (.int (1 : Int32))) (σ' := (97, I, J, R)) rfl hQ
set_option maxRecDepth 100000 in
set_option maxHeartbeats 4000000 in
theorem re_M_mayBecome_64 {ex : az_X} {I : Nat → Nat → Int32} {J : Nat → Nat → Int64} {R : Nat → Nat → Option Nat} {v1 : Int32} {x : Int32} (h : rs_M_mayBecome_64 v1 = some x) {Q : Option Value → az_S → Prop} (hQ : Q (some (.int x)) (97, I, J, R)) : az_E az_F ex 2 172 64 [.retAddr 0, .int v1] [] (97, I, J, R) Q := by
  unfold rs_M_mayBecome_64 at h
  refine az_E.sn 4 (pc' := 70) (L' := [.retAddr 0, .int v1]) (S' := [.long (9 : Int64), .long (0 : Int64), .long v1.toInt64]) (σ' := (97, I, J, R)) rfl ?_
  refine az_E.call (d := 1) (k' := 154) (vs := [.long v1.toInt64, .long (0 : Int64), .long (9 : Int64)]) (pc' := 73) (S' := []) rfl ?_ (fun _ _ hq => hq)
  show az_E az_F ex 1 154 0 [.long v1.toInt64, .retAddr 0, .long (0 : Int64), .retAddr 0, .long (9 : Int64), .retAddr 0] [] (97, I, J, R) _
  refine az_E.sn 3 (pc' := 3) (L' := [.long v1.toInt64, .retAddr 0, .long (0 : Int64), .retAddr 0, .long (9 : Int64), .retAddr 0]) (S' := [.int (lg_cmp v1.toInt64 (0 : Int64))]) (σ' := (97, I, J, R)) rfl ?_
  refine az_E.br (c := (lg_cmp v1.toInt64 (0 : Int64)) < 0) (tt := 17) (ff := 6) (L' := [.long v1.toInt64, .retAddr 0, .long (0 : Int64), .retAddr 0, .long (9 : Int64), .retAddr 0]) (S' := []) (σ' := (97, I, J, R)) rfl (fun hc_9 => ?_) (fun hc_9 => ?_)
  · rw [if_pos hc_9] at h
    refine az_E.sn 1 (pc' := 18) (L' := [.long v1.toInt64, .retAddr 0, .long (0 : Int64), .retAddr 0, .long (9 : Int64), .retAddr 0]) (S' := [.int (0 : Int32)]) (σ' := (97, I, J, R)) rfl ?_
    refine az_E.ret (v := some (.int (0 : Int32))) (σ' := (97, I, J, R)) rfl ?_
    show az_E az_F ex 2 172 73 [.retAddr 0, .int v1] [.int (0 : Int32)] (97, I, J, R) _
    have h := Option.some.inj h
    subst h
    exact az_E.ret (v := some (.int (0 : Int32))) (σ' := (97, I, J, R)) rfl hQ
  · rw [if_neg hc_9] at h
    refine az_E.sn 3 (pc' := 10) (L' := [.long v1.toInt64, .retAddr 0, .long (0 : Int64), .retAddr 0, .long (9 : Int64), .retAddr 0]) (S' := [.int (lg_cmp v1.toInt64 (9 : Int64))]) (σ' := (97, I, J, R)) rfl ?_
    refine az_E.br (c := 0 < (lg_cmp v1.toInt64 (9 : Int64))) (tt := 17) (ff := 13) (L' := [.long v1.toInt64, .retAddr 0, .long (0 : Int64), .retAddr 0, .long (9 : Int64), .retAddr 0]) (S' := []) (σ' := (97, I, J, R)) rfl (fun hc_10 => ?_) (fun hc_10 => ?_)
    · rw [if_pos hc_10] at h
      refine az_E.sn 1 (pc' := 18) (L' := [.long v1.toInt64, .retAddr 0, .long (0 : Int64), .retAddr 0, .long (9 : Int64), .retAddr 0]) (S' := [.int (0 : Int32)]) (σ' := (97, I, J, R)) rfl ?_
      refine az_E.ret (v := some (.int (0 : Int32))) (σ' := (97, I, J, R)) rfl ?_
      show az_E az_F ex 2 172 73 [.retAddr 0, .int v1] [.int (0 : Int32)] (97, I, J, R) _
      have h := Option.some.inj h
      subst h
      exact az_E.ret (v := some (.int (0 : Int32))) (σ' := (97, I, J, R)) rfl hQ
    · rw [if_neg hc_10] at h
      refine az_E.sn 2 (pc' := 18) (L' := [.long v1.toInt64, .retAddr 0, .long (0 : Int64), .retAddr 0, .long (9 : Int64), .retAddr 0]) (S' := [.int (1 : Int32)]) (σ' := (97, I, J, R)) rfl ?_
      refine az_E.ret (v := some (.int (1 : Int32))) (σ' := (97, I, J, R)) rfl ?_
      show az_E az_F ex 2 172 73 [.retAddr 0, .int v1] [.int (1 : Int32)] (97, I, J, R) _
      have h := Option.some.inj h
      subst h
      exact az_E.ret (v := some (.int (1 : Int32))) (σ' := (97, I, J, R)) rfl hQ
set_option maxRecDepth 100000 in
set_option maxHeartbeats 4000000 in
theorem re_M_mayBecome {ex : az_X} {I : Nat → Nat → Int32} {J : Nat → Nat → Int64} {R : Nat → Nat → Option Nat} {a0 : Int32} {a1 : Int32} {o : Int32} (h : rs_M_mayBecome a0 a1 = some o) {Q : Option Value → az_S → Prop} (hQ : Q (some (.int o)) (97, I, J, R)) : az_E az_F ex 2 172 0 [.int a0, .int a1] [] (97, I, J, R) Q := by
  unfold rs_M_mayBecome at h
  refine az_E.sn 1 (pc' := 1) (L' := [.int a0, .int a1]) (S' := [.int a0]) (σ' := (97, I, J, R)) rfl ?_
  by_cases hc_1 : a0 = (1 : Int32)
  · rw [if_pos hc_1] at h
    refine az_E.sw hc_1 (pc' := 36) (L' := [.int a0, .int a1]) (S' := []) (σ' := (97, I, J, R)) rfl ?_
    exact az_E.forget (L := [.retAddr 0, .int a1]) ⟨trivial, rfl, trivial⟩ (re_M_mayBecome_36 (I := I) (J := J) (R := R)  h hQ)
  · rw [if_neg hc_1] at h
    by_cases hc_4 : a0 = (2 : Int32)
    · rw [if_pos hc_4] at h
      refine az_E.sw hc_4 (pc' := 36) (L' := [.int a0, .int a1]) (S' := []) (σ' := (97, I, J, R)) rfl ?_
      exact az_E.forget (L := [.retAddr 0, .int a1]) ⟨trivial, rfl, trivial⟩ (re_M_mayBecome_36 (I := I) (J := J) (R := R)  h hQ)
    · rw [if_neg hc_4] at h
      by_cases hc_5 : a0 = (3 : Int32)
      · rw [if_pos hc_5] at h
        refine az_E.sw hc_5 (pc' := 42) (L' := [.int a0, .int a1]) (S' := []) (σ' := (97, I, J, R)) rfl ?_
        refine az_E.sn 4 (pc' := 50) (L' := [.int a0, .int a1]) (S' := [.long (9 : Int64), .long (-9 : Int64), .long a1.toInt64]) (σ' := (97, I, J, R)) rfl ?_
        refine az_E.call (d := 1) (k' := 154) (vs := [.long a1.toInt64, .long (-9 : Int64), .long (9 : Int64)]) (pc' := 53) (S' := []) rfl ?_ (fun _ _ hq => hq)
        show az_E az_F ex 1 154 0 [.long a1.toInt64, .retAddr 0, .long (-9 : Int64), .retAddr 0, .long (9 : Int64), .retAddr 0] [] (97, I, J, R) _
        refine az_E.sn 3 (pc' := 3) (L' := [.long a1.toInt64, .retAddr 0, .long (-9 : Int64), .retAddr 0, .long (9 : Int64), .retAddr 0]) (S' := [.int (lg_cmp a1.toInt64 (-9 : Int64))]) (σ' := (97, I, J, R)) rfl ?_
        refine az_E.br (c := (lg_cmp a1.toInt64 (-9 : Int64)) < 0) (tt := 17) (ff := 6) (L' := [.long a1.toInt64, .retAddr 0, .long (-9 : Int64), .retAddr 0, .long (9 : Int64), .retAddr 0]) (S' := []) (σ' := (97, I, J, R)) rfl (fun hc_6 => ?_) (fun hc_6 => ?_)
        · rw [if_pos hc_6] at h
          refine az_E.sn 1 (pc' := 18) (L' := [.long a1.toInt64, .retAddr 0, .long (-9 : Int64), .retAddr 0, .long (9 : Int64), .retAddr 0]) (S' := [.int (0 : Int32)]) (σ' := (97, I, J, R)) rfl ?_
          refine az_E.ret (v := some (.int (0 : Int32))) (σ' := (97, I, J, R)) rfl ?_
          show az_E az_F ex 2 172 53 [.int a0, .int a1] [.int (0 : Int32)] (97, I, J, R) _
          have h := Option.some.inj h
          subst h
          exact az_E.ret (v := some (.int (0 : Int32))) (σ' := (97, I, J, R)) rfl hQ
        · rw [if_neg hc_6] at h
          refine az_E.sn 3 (pc' := 10) (L' := [.long a1.toInt64, .retAddr 0, .long (-9 : Int64), .retAddr 0, .long (9 : Int64), .retAddr 0]) (S' := [.int (lg_cmp a1.toInt64 (9 : Int64))]) (σ' := (97, I, J, R)) rfl ?_
          refine az_E.br (c := 0 < (lg_cmp a1.toInt64 (9 : Int64))) (tt := 17) (ff := 13) (L' := [.long a1.toInt64, .retAddr 0, .long (-9 : Int64), .retAddr 0, .long (9 : Int64), .retAddr 0]) (S' := []) (σ' := (97, I, J, R)) rfl (fun hc_7 => ?_) (fun hc_7 => ?_)
          · rw [if_pos hc_7] at h
            refine az_E.sn 1 (pc' := 18) (L' := [.long a1.toInt64, .retAddr 0, .long (-9 : Int64), .retAddr 0, .long (9 : Int64), .retAddr 0]) (S' := [.int (0 : Int32)]) (σ' := (97, I, J, R)) rfl ?_
            refine az_E.ret (v := some (.int (0 : Int32))) (σ' := (97, I, J, R)) rfl ?_
            show az_E az_F ex 2 172 53 [.int a0, .int a1] [.int (0 : Int32)] (97, I, J, R) _
            have h := Option.some.inj h
            subst h
            exact az_E.ret (v := some (.int (0 : Int32))) (σ' := (97, I, J, R)) rfl hQ
          · rw [if_neg hc_7] at h
            refine az_E.sn 2 (pc' := 18) (L' := [.long a1.toInt64, .retAddr 0, .long (-9 : Int64), .retAddr 0, .long (9 : Int64), .retAddr 0]) (S' := [.int (1 : Int32)]) (σ' := (97, I, J, R)) rfl ?_
            refine az_E.ret (v := some (.int (1 : Int32))) (σ' := (97, I, J, R)) rfl ?_
            show az_E az_F ex 2 172 53 [.int a0, .int a1] [.int (1 : Int32)] (97, I, J, R) _
            have h := Option.some.inj h
            subst h
            exact az_E.ret (v := some (.int (1 : Int32))) (σ' := (97, I, J, R)) rfl hQ
      · rw [if_neg hc_5] at h
        by_cases hc_8 : a0 = (4 : Int32)
        · rw [if_pos hc_8] at h
          refine az_E.sw hc_8 (pc' := 64) (L' := [.int a0, .int a1]) (S' := []) (σ' := (97, I, J, R)) rfl ?_
          exact az_E.forget (L := [.retAddr 0, .int a1]) ⟨trivial, rfl, trivial⟩ (re_M_mayBecome_64 (I := I) (J := J) (R := R)  h hQ)
        · rw [if_neg hc_8] at h
          by_cases hc_11 : a0 = (5 : Int32)
          · rw [if_pos hc_11] at h
            refine az_E.sw hc_11 (pc' := 54) (L' := [.int a0, .int a1]) (S' := []) (σ' := (97, I, J, R)) rfl ?_
            refine az_E.sn 4 (pc' := 60) (L' := [.int a0, .int a1]) (S' := [.long (9 : Int64), .long (1 : Int64), .long a1.toInt64]) (σ' := (97, I, J, R)) rfl ?_
            refine az_E.call (d := 1) (k' := 154) (vs := [.long a1.toInt64, .long (1 : Int64), .long (9 : Int64)]) (pc' := 63) (S' := []) rfl ?_ (fun _ _ hq => hq)
            show az_E az_F ex 1 154 0 [.long a1.toInt64, .retAddr 0, .long (1 : Int64), .retAddr 0, .long (9 : Int64), .retAddr 0] [] (97, I, J, R) _
            refine az_E.sn 3 (pc' := 3) (L' := [.long a1.toInt64, .retAddr 0, .long (1 : Int64), .retAddr 0, .long (9 : Int64), .retAddr 0]) (S' := [.int (lg_cmp a1.toInt64 (1 : Int64))]) (σ' := (97, I, J, R)) rfl ?_
            refine az_E.br (c := (lg_cmp a1.toInt64 (1 : Int64)) < 0) (tt := 17) (ff := 6) (L' := [.long a1.toInt64, .retAddr 0, .long (1 : Int64), .retAddr 0, .long (9 : Int64), .retAddr 0]) (S' := []) (σ' := (97, I, J, R)) rfl (fun hc_12 => ?_) (fun hc_12 => ?_)
            · rw [if_pos hc_12] at h
              refine az_E.sn 1 (pc' := 18) (L' := [.long a1.toInt64, .retAddr 0, .long (1 : Int64), .retAddr 0, .long (9 : Int64), .retAddr 0]) (S' := [.int (0 : Int32)]) (σ' := (97, I, J, R)) rfl ?_
              refine az_E.ret (v := some (.int (0 : Int32))) (σ' := (97, I, J, R)) rfl ?_
              show az_E az_F ex 2 172 63 [.int a0, .int a1] [.int (0 : Int32)] (97, I, J, R) _
              have h := Option.some.inj h
              subst h
              exact az_E.ret (v := some (.int (0 : Int32))) (σ' := (97, I, J, R)) rfl hQ
            · rw [if_neg hc_12] at h
              refine az_E.sn 3 (pc' := 10) (L' := [.long a1.toInt64, .retAddr 0, .long (1 : Int64), .retAddr 0, .long (9 : Int64), .retAddr 0]) (S' := [.int (lg_cmp a1.toInt64 (9 : Int64))]) (σ' := (97, I, J, R)) rfl ?_
              refine az_E.br (c := 0 < (lg_cmp a1.toInt64 (9 : Int64))) (tt := 17) (ff := 13) (L' := [.long a1.toInt64, .retAddr 0, .long (1 : Int64), .retAddr 0, .long (9 : Int64), .retAddr 0]) (S' := []) (σ' := (97, I, J, R)) rfl (fun hc_13 => ?_) (fun hc_13 => ?_)
              · rw [if_pos hc_13] at h
                refine az_E.sn 1 (pc' := 18) (L' := [.long a1.toInt64, .retAddr 0, .long (1 : Int64), .retAddr 0, .long (9 : Int64), .retAddr 0]) (S' := [.int (0 : Int32)]) (σ' := (97, I, J, R)) rfl ?_
                refine az_E.ret (v := some (.int (0 : Int32))) (σ' := (97, I, J, R)) rfl ?_
                show az_E az_F ex 2 172 63 [.int a0, .int a1] [.int (0 : Int32)] (97, I, J, R) _
                have h := Option.some.inj h
                subst h
                exact az_E.ret (v := some (.int (0 : Int32))) (σ' := (97, I, J, R)) rfl hQ
              · rw [if_neg hc_13] at h
                refine az_E.sn 2 (pc' := 18) (L' := [.long a1.toInt64, .retAddr 0, .long (1 : Int64), .retAddr 0, .long (9 : Int64), .retAddr 0]) (S' := [.int (1 : Int32)]) (σ' := (97, I, J, R)) rfl ?_
                refine az_E.ret (v := some (.int (1 : Int32))) (σ' := (97, I, J, R)) rfl ?_
                show az_E az_F ex 2 172 63 [.int a0, .int a1] [.int (1 : Int32)] (97, I, J, R) _
                have h := Option.some.inj h
                subst h
                exact az_E.ret (v := some (.int (1 : Int32))) (σ' := (97, I, J, R)) rfl hQ
          · rw [if_neg hc_11] at h
            have ehc_1 := az_nei hc_1 (z := 1) (by decide)
            have ehc_4 := az_nei hc_4 (z := 2) (by decide)
            have ehc_5 := az_nei hc_5 (z := 3) (by decide)
            have ehc_8 := az_nei hc_8 (z := 4) (by decide)
            have ehc_11 := az_nei hc_11 (z := 5) (by decide)
            refine az_E.swd (a := 64) (lo := 1) (hi := 5) (offs := #[35, 35, 41, 63, 53]) rfl (by omega) ?_
            exact az_E.forget (L := [.retAddr 0, .int a1]) ⟨trivial, rfl, trivial⟩ (re_M_mayBecome_64 (I := I) (J := J) (R := R)  h hQ)
set_option maxRecDepth 100000 in
set_option maxHeartbeats 4000000 in
theorem re_M_becomes_97 {ex : az_X} {I : Nat → Nat → Int32} {J : Nat → Nat → Int64} {R : Nat → Nat → Option Nat} {v1 : Int32} {v2 : Int32} {v3 : Int32} {x : Int32 × (Nat → Nat → Int32)} (h : rs_M_becomes_97 I v1 v2 v3 = some x) {Q : Option Value → az_S → Prop} (hQ : Q (some (.int x.1)) (97, x.2, J, R)) : az_E az_F ex 0 157 97 [.ref 73, .int v1, .int v2, .int v3, .retAddr 0] [] (97, I, J, R) Q := by
  unfold rs_M_becomes_97 at h
  refine az_E.sn 5 (pc' := 106) (L' := [.ref 73, .int v1, .int v2, .int v3, .retAddr 0]) (S' := [.int v1, .int (I 73 5), .ref 75]) (σ' := (97, I, J, R)) rfl ?_
  by_cases hc_5 : (I 73 5) < 0 ∨ 40 ≤ (I 73 5).toNatClampNeg
  · rw [if_pos hc_5] at h; cases h
  · rw [if_neg hc_5] at h
    refine az_E.o (o := az_si az_F (97, I, J, R) 75 (I 73 5) v1) (pc' := 107) (L' := [.ref 73, .int v1, .int v2, .int v3, .retAddr 0]) (S' := []) (x := (97, (az_u I 75 (I 73 5).toNatClampNeg v1), J, R)) rfl (if_neg hc_5) ?_
    refine az_E.sn 5 (pc' := 116) (L' := [.ref 73, .int v1, .int v2, .int v3, .retAddr 0]) (S' := [.int v3, .int (I 73 5), .ref 76]) (σ' := (97, (az_u I 75 (I 73 5).toNatClampNeg v1), J, R)) rfl ?_
    by_cases hc_6 : (I 73 5) < 0 ∨ 40 ≤ (I 73 5).toNatClampNeg
    · rw [if_pos hc_6] at h; cases h
    · rw [if_neg hc_6] at h
      refine az_E.o (o := az_si az_F (97, (az_u I 75 (I 73 5).toNatClampNeg v1), J, R) 76 (I 73 5) v3) (pc' := 117) (L' := [.ref 73, .int v1, .int v2, .int v3, .retAddr 0]) (S' := []) (x := (97, (az_u (az_u I 75 (I 73 5).toNatClampNeg v1) 76 (I 73 5).toNatClampNeg v3), J, R)) rfl (if_neg hc_6) ?_
      refine az_E.sn 5 (pc' := 126) (L' := [.ref 73, .int v1, .int v2, .int v3, .retAddr 0]) (S' := [.int v2, .int (I 73 5), .ref 77]) (σ' := (97, (az_u (az_u I 75 (I 73 5).toNatClampNeg v1) 76 (I 73 5).toNatClampNeg v3), J, R)) rfl ?_
      by_cases hc_7 : (I 73 5) < 0 ∨ 40 ≤ (I 73 5).toNatClampNeg
      · rw [if_pos hc_7] at h; cases h
      · rw [if_neg hc_7] at h
        refine az_E.o (o := az_si az_F (97, (az_u (az_u I 75 (I 73 5).toNatClampNeg v1) 76 (I 73 5).toNatClampNeg v3), J, R) 77 (I 73 5) v2) (pc' := 127) (L' := [.ref 73, .int v1, .int v2, .int v3, .retAddr 0]) (S' := []) (x := (97, (az_u (az_u (az_u I 75 (I 73 5).toNatClampNeg v1) 76 (I 73 5).toNatClampNeg v3) 77 (I 73 5).toNatClampNeg v2), J, R)) rfl (if_neg hc_7) ?_
        refine az_E.sn 14 (pc' := 151) (L' := [.ref 73, .int v1, .int v2, .int v3, .retAddr 0]) (S' := [.int v2, .int v1, .ref 74]) (σ' := (97, (az_u (az_u (az_u (az_u (az_u I 75 (I 73 5).toNatClampNeg v1) 76 (I 73 5).toNatClampNeg v3) 77 (I 73 5).toNatClampNeg v2) 73 5 ((I 73 5) + (1 : Int32))) 73 4 ((I 73 5) + (1 : Int32))), J, R)) rfl ?_
        by_cases hc_8 : v1 < 0 ∨ 179 ≤ v1.toNatClampNeg
        · rw [if_pos hc_8] at h; cases h
        · rw [if_neg hc_8] at h
          refine az_E.o (o := az_si az_F (97, (az_u (az_u (az_u (az_u (az_u I 75 (I 73 5).toNatClampNeg v1) 76 (I 73 5).toNatClampNeg v3) 77 (I 73 5).toNatClampNeg v2) 73 5 ((I 73 5) + (1 : Int32))) 73 4 ((I 73 5) + (1 : Int32))), J, R) 74 v1 v2) (pc' := 152) (L' := [.ref 73, .int v1, .int v2, .int v3, .retAddr 0]) (S' := []) (x := (97, (az_u (az_u (az_u (az_u (az_u (az_u I 75 (I 73 5).toNatClampNeg v1) 76 (I 73 5).toNatClampNeg v3) 77 (I 73 5).toNatClampNeg v2) 73 5 ((I 73 5) + (1 : Int32))) 73 4 ((I 73 5) + (1 : Int32))) 74 v1.toNatClampNeg v2), J, R)) rfl (if_neg hc_8) ?_
          refine az_E.sn 1 (pc' := 153) (L' := [.ref 73, .int v1, .int v2, .int v3, .retAddr 0]) (S' := [.int v3]) (σ' := (97, (az_u (az_u (az_u (az_u (az_u (az_u I 75 (I 73 5).toNatClampNeg v1) 76 (I 73 5).toNatClampNeg v3) 77 (I 73 5).toNatClampNeg v2) 73 5 ((I 73 5) + (1 : Int32))) 73 4 ((I 73 5) + (1 : Int32))) 74 v1.toNatClampNeg v2), J, R)) rfl ?_
          have h := Option.some.inj h
          subst h
          exact az_E.ret (v := some (.int v3)) (σ' := (97, (az_u (az_u (az_u (az_u (az_u (az_u I 75 (I 73 5).toNatClampNeg v1) 76 (I 73 5).toNatClampNeg v3) 77 (I 73 5).toNatClampNeg v2) 73 5 ((I 73 5) + (1 : Int32))) 73 4 ((I 73 5) + (1 : Int32))) 74 v1.toNatClampNeg v2), J, R)) rfl hQ
set_option maxRecDepth 100000 in
set_option maxHeartbeats 4000000 in
theorem re_M_becomes_87 {ex : az_X} {I : Nat → Nat → Int32} {J : Nat → Nat → Int64} {R : Nat → Nat → Option Nat} {v1 : Int32} {v2 : Int32} {v3 : Int32} {x : Int32 × (Nat → Nat → Int32)} (h : rs_M_becomes_87 I v1 v2 v3 = some x) {Q : Option Value → az_S → Prop} (hQ : Q (some (.int x.1)) (97, x.2, J, R)) : az_E az_F ex 0 157 87 [.ref 73, .int v1, .int v2, .int v3, .retAddr 0] [] (97, I, J, R) Q := by
  unfold rs_M_becomes_87 at h
  refine az_E.sn 6 (pc' := 97) (L' := [.ref 73, .int v1, .int v2, .int v3, .retAddr 0]) (S' := []) (σ' := (97, (az_u I 73 5 ((I 73 5) - (1 : Int32))), J, R)) rfl ?_
  exact az_E.forget (L := [.ref 73, .int v1, .int v2, .int v3, .retAddr 0]) ⟨rfl, rfl, rfl, rfl, trivial, trivial⟩ (re_M_becomes_97 (I := (az_u I 73 5 ((I 73 5) - (1 : Int32)))) (J := J) (R := R)  h hQ)
set_option maxRecDepth 100000 in
set_option maxHeartbeats 4000000 in
theorem re_M_becomes_26_b {ex : az_X} {I : Nat → Nat → Int32} {J : Nat → Nat → Int64} {R : Nat → Nat → Option Nat} {v1 : Int32} {v2 : Int32} {v3 : Int32} {v4 : Int32} {x : ((Int32 × (Nat → Nat → Int32)) ⊕ (Int32 × (Nat → Nat → Int32)))} (h : rs_M_becomes_26_b v1 v2 v3 v4 I = some x) {Q : Option Value → az_S → Prop} (hQ : Sum.elim (fun s => az_E az_F ex 0 157 26 [.ref 73, .int v1, .int v2, .int v3, .int s.1] [] (97, s.2, J, R) Q) (fun x => Q (some (.int x.1)) (97, x.2, J, R)) x) : az_E az_F ex 0 157 26 [.ref 73, .int v1, .int v2, .int v3, .int v4] [] (97, I, J, R) Q := by
  unfold rs_M_becomes_26_b at h
  refine az_E.sn 2 (pc' := 30) (L' := [.ref 73, .int v1, .int v2, .int v3, .int v4]) (S' := [.int (40 : Int32), .int v4]) (σ' := (97, I, J, R)) rfl ?_
  refine az_E.br (c := (40 : Int32) ≤ v4) (tt := 87) (ff := 33) (L' := [.ref 73, .int v1, .int v2, .int v3, .int v4]) (S' := []) (σ' := (97, I, J, R)) rfl (fun hc_4 => ?_) (fun hc_4 => ?_)
  · rw [if_pos hc_4] at h
    obtain ⟨x, hx, rfl⟩ := Option.map_eq_some_iff.mp h
    exact az_E.forget (L := [.ref 73, .int v1, .int v2, .int v3, .retAddr 0]) ⟨rfl, rfl, rfl, rfl, trivial, trivial⟩ (re_M_becomes_87 (I := I) (J := J) (R := R)  hx hQ)
  · rw [if_neg hc_4] at h
    refine az_E.sn 8 (pc' := 47) (L' := [.ref 73, .int v1, .int v2, .int v3, .int v4]) (S' := [.int v4, .ref 75, .int (v4 - (1 : Int32)), .ref 75]) (σ' := (97, I, J, R)) rfl ?_
    by_cases hc_9 : v4 < 0 ∨ 40 ≤ v4.toNatClampNeg
    · rw [if_pos hc_9] at h; cases h
    · rw [if_neg hc_9] at h
      refine az_E.oi (o := az_ai az_F ex (97, I, J, R) 75 v4) (pc' := 48) (L' := [.ref 73, .int v1, .int v2, .int v3, .int v4]) (S' := [.int (v4 - (1 : Int32)), .ref 75]) (σ' := (97, I, J, R)) (x := (I 75 v4.toNatClampNeg)) rfl (if_neg hc_9) ?_
      by_cases hc_10 : (v4 - (1 : Int32)) < 0 ∨ 40 ≤ (v4 - (1 : Int32)).toNatClampNeg
      · rw [if_pos hc_10] at h; cases h
      · rw [if_neg hc_10] at h
        refine az_E.o (o := az_si az_F (97, I, J, R) 75 (v4 - (1 : Int32)) (I 75 v4.toNatClampNeg)) (pc' := 49) (L' := [.ref 73, .int v1, .int v2, .int v3, .int v4]) (S' := []) (x := (97, (az_u I 75 (v4 - (1 : Int32)).toNatClampNeg (I 75 v4.toNatClampNeg)), J, R)) rfl (if_neg hc_10) ?_
        refine az_E.sn 8 (pc' := 63) (L' := [.ref 73, .int v1, .int v2, .int v3, .int v4]) (S' := [.int v4, .ref 76, .int (v4 - (1 : Int32)), .ref 76]) (σ' := (97, (az_u I 75 (v4 - (1 : Int32)).toNatClampNeg (I 75 v4.toNatClampNeg)), J, R)) rfl ?_
        by_cases hc_11 : v4 < 0 ∨ 40 ≤ v4.toNatClampNeg
        · rw [if_pos hc_11] at h; cases h
        · rw [if_neg hc_11] at h
          refine az_E.oi (o := az_ai az_F ex (97, (az_u I 75 (v4 - (1 : Int32)).toNatClampNeg (I 75 v4.toNatClampNeg)), J, R) 76 v4) (pc' := 64) (L' := [.ref 73, .int v1, .int v2, .int v3, .int v4]) (S' := [.int (v4 - (1 : Int32)), .ref 76]) (σ' := (97, (az_u I 75 (v4 - (1 : Int32)).toNatClampNeg (I 75 v4.toNatClampNeg)), J, R)) (x := (I 76 v4.toNatClampNeg)) rfl (if_neg hc_11) ?_
          by_cases hc_12 : (v4 - (1 : Int32)) < 0 ∨ 40 ≤ (v4 - (1 : Int32)).toNatClampNeg
          · rw [if_pos hc_12] at h; cases h
          · rw [if_neg hc_12] at h
            refine az_E.o (o := az_si az_F (97, (az_u I 75 (v4 - (1 : Int32)).toNatClampNeg (I 75 v4.toNatClampNeg)), J, R) 76 (v4 - (1 : Int32)) (I 76 v4.toNatClampNeg)) (pc' := 65) (L' := [.ref 73, .int v1, .int v2, .int v3, .int v4]) (S' := []) (x := (97, (az_u (az_u I 75 (v4 - (1 : Int32)).toNatClampNeg (I 75 v4.toNatClampNeg)) 76 (v4 - (1 : Int32)).toNatClampNeg (I 76 v4.toNatClampNeg)), J, R)) rfl (if_neg hc_12) ?_
            refine az_E.sn 8 (pc' := 79) (L' := [.ref 73, .int v1, .int v2, .int v3, .int v4]) (S' := [.int v4, .ref 77, .int (v4 - (1 : Int32)), .ref 77]) (σ' := (97, (az_u (az_u I 75 (v4 - (1 : Int32)).toNatClampNeg (I 75 v4.toNatClampNeg)) 76 (v4 - (1 : Int32)).toNatClampNeg (I 76 v4.toNatClampNeg)), J, R)) rfl ?_
            by_cases hc_13 : v4 < 0 ∨ 40 ≤ v4.toNatClampNeg
            · rw [if_pos hc_13] at h; cases h
            · rw [if_neg hc_13] at h
              refine az_E.oi (o := az_ai az_F ex (97, (az_u (az_u I 75 (v4 - (1 : Int32)).toNatClampNeg (I 75 v4.toNatClampNeg)) 76 (v4 - (1 : Int32)).toNatClampNeg (I 76 v4.toNatClampNeg)), J, R) 77 v4) (pc' := 80) (L' := [.ref 73, .int v1, .int v2, .int v3, .int v4]) (S' := [.int (v4 - (1 : Int32)), .ref 77]) (σ' := (97, (az_u (az_u I 75 (v4 - (1 : Int32)).toNatClampNeg (I 75 v4.toNatClampNeg)) 76 (v4 - (1 : Int32)).toNatClampNeg (I 76 v4.toNatClampNeg)), J, R)) (x := (I 77 v4.toNatClampNeg)) rfl (if_neg hc_13) ?_
              by_cases hc_14 : (v4 - (1 : Int32)) < 0 ∨ 40 ≤ (v4 - (1 : Int32)).toNatClampNeg
              · rw [if_pos hc_14] at h; cases h
              · rw [if_neg hc_14] at h
                refine az_E.o (o := az_si az_F (97, (az_u (az_u I 75 (v4 - (1 : Int32)).toNatClampNeg (I 75 v4.toNatClampNeg)) 76 (v4 - (1 : Int32)).toNatClampNeg (I 76 v4.toNatClampNeg)), J, R) 77 (v4 - (1 : Int32)) (I 77 v4.toNatClampNeg)) (pc' := 81) (L' := [.ref 73, .int v1, .int v2, .int v3, .int v4]) (S' := []) (x := (97, (az_u (az_u (az_u I 75 (v4 - (1 : Int32)).toNatClampNeg (I 75 v4.toNatClampNeg)) 76 (v4 - (1 : Int32)).toNatClampNeg (I 76 v4.toNatClampNeg)) 77 (v4 - (1 : Int32)).toNatClampNeg (I 77 v4.toNatClampNeg)), J, R)) rfl (if_neg hc_14) ?_
                refine az_E.sn 2 (pc' := 26) (L' := [.ref 73, .int v1, .int v2, .int v3, .int (v4 + (1 : Int32))]) (S' := []) (σ' := (97, (az_u (az_u (az_u I 75 (v4 - (1 : Int32)).toNatClampNeg (I 75 v4.toNatClampNeg)) 76 (v4 - (1 : Int32)).toNatClampNeg (I 76 v4.toNatClampNeg)) 77 (v4 - (1 : Int32)).toNatClampNeg (I 77 v4.toNatClampNeg)), J, R)) rfl ?_
                have h := Option.some.inj h
                subst h
                exact az_E.forget (L := [.ref 73, .int v1, .int v2, .int v3, .int (v4 + (1 : Int32))]) ⟨rfl, rfl, rfl, rfl, rfl, trivial⟩ hQ
set_option maxRecDepth 100000 in
set_option maxHeartbeats 4000000 in
theorem re_M_becomes_26 {ex : az_X} {I : Nat → Nat → Int32} {J : Nat → Nat → Int64} {R : Nat → Nat → Option Nat} {v1 : Int32} {v2 : Int32} {v3 : Int32} {v4 : Int32} {x : Int32 × (Nat → Nat → Int32)} (h : rs_M_becomes_26 I v1 v2 v3 v4 = some x) {Q : Option Value → az_S → Prop} (hQ : Q (some (.int x.1)) (97, x.2, J, R)) : az_E az_F ex 0 157 26 [.ref 73, .int v1, .int v2, .int v3, .int v4] [] (97, I, J, R) Q := by
  unfold rs_M_becomes_26 at h
  refine az_lp_E (G := fun s => az_E az_F ex 0 157 26 [.ref 73, .int v1, .int v2, .int v3, .int s.1] [] (97, s.2, J, R) Q) (H := fun x => Q (some (.int x.1)) (97, x.2, J, R)) (fun s o hb ho => ?_) _ _ _ h hQ
  exact re_M_becomes_26_b  hb ho
set_option maxRecDepth 100000 in
set_option maxHeartbeats 4000000 in
theorem re_M_becomes {ex : az_X} {I : Nat → Nat → Int32} {J : Nat → Nat → Int64} {R : Nat → Nat → Option Nat} {a1 : Int32} {a2 : Int32} {o : Int32 × (Nat → Nat → Int32)} (h : rs_M_becomes I a1 a2 = some o) {Q : Option Value → az_S → Prop} (hQ : Q (some (.int o.1)) (97, o.2, J, R)) : az_E az_F ex 0 157 0 [.ref 73, .int a1, .int a2, .retAddr 0, .retAddr 0] [] (97, I, J, R) Q := by
  unfold rs_M_becomes at h
  refine az_E.sn 3 (pc' := 5) (L' := [.ref 73, .int a1, .int a2, .retAddr 0, .retAddr 0]) (S' := [.int a1, .ref 74]) (σ' := (97, I, J, R)) rfl ?_
  by_cases hc_1 : a1 < 0 ∨ 179 ≤ a1.toNatClampNeg
  · rw [if_pos hc_1] at h; cases h
  · rw [if_neg hc_1] at h
    refine az_E.oi (o := az_ai az_F ex (97, I, J, R) 74 a1) (pc' := 6) (L' := [.ref 73, .int a1, .int a2, .retAddr 0, .retAddr 0]) (S' := []) (σ' := (97, I, J, R)) (x := (I 74 a1.toNatClampNeg)) rfl (if_neg hc_1) ?_
    refine az_E.sn 3 (pc' := 9) (L' := [.ref 73, .int a1, .int a2, .int (I 74 a1.toNatClampNeg), .retAddr 0]) (S' := [.int a2, .int (I 74 a1.toNatClampNeg)]) (σ' := (97, I, J, R)) rfl ?_
    refine az_E.br (c := (I 74 a1.toNatClampNeg) = a2) (tt := 12) (ff := 14) (L' := [.ref 73, .int a1, .int a2, .int (I 74 a1.toNatClampNeg), .retAddr 0]) (S' := []) (σ' := (97, I, J, R)) rfl (fun hc_2 => ?_) (fun hc_2 => ?_)
    · rw [if_pos hc_2] at h
      refine az_E.sn 1 (pc' := 13) (L' := [.ref 73, .int a1, .int a2, .int (I 74 a1.toNatClampNeg), .retAddr 0]) (S' := [.int (I 74 a1.toNatClampNeg)]) (σ' := (97, I, J, R)) rfl ?_
      have h := Option.some.inj h
      subst h
      exact az_E.ret (v := some (.int (I 74 a1.toNatClampNeg))) (σ' := (97, I, J, R)) rfl hQ
    · rw [if_neg hc_2] at h
      refine az_E.sn 3 (pc' := 20) (L' := [.ref 73, .int a1, .int a2, .int (I 74 a1.toNatClampNeg), .retAddr 0]) (S' := [.int (40 : Int32), .int (I 73 5)]) (σ' := (97, I, J, R)) rfl ?_
      refine az_E.br (c := (I 73 5) = (40 : Int32)) (tt := 23) (ff := 97) (L' := [.ref 73, .int a1, .int a2, .int (I 74 a1.toNatClampNeg), .retAddr 0]) (S' := []) (σ' := (97, I, J, R)) rfl (fun hc_3 => ?_) (fun hc_3 => ?_)
      · rw [if_pos hc_3] at h
        refine az_E.sn 2 (pc' := 26) (L' := [.ref 73, .int a1, .int a2, .int (I 74 a1.toNatClampNeg), .int (1 : Int32)]) (S' := []) (σ' := (97, I, J, R)) rfl ?_
        exact az_E.forget (L := [.ref 73, .int a1, .int a2, .int (I 74 a1.toNatClampNeg), .int (1 : Int32)]) ⟨rfl, rfl, rfl, rfl, rfl, trivial⟩ (re_M_becomes_26 (I := I) (J := J) (R := R)  h hQ)
      · rw [if_neg hc_3] at h
        exact az_E.forget (L := [.ref 73, .int a1, .int a2, .int (I 74 a1.toNatClampNeg), .retAddr 0]) ⟨rfl, rfl, rfl, rfl, trivial, trivial⟩ (re_M_becomes_97 (I := I) (J := J) (R := R)  h hQ)
set_option maxRecDepth 100000 in
set_option maxHeartbeats 4000000 in
theorem re_M_mend {ex : az_X} {I : Nat → Nat → Int32} {J : Nat → Nat → Int64} {R : Nat → Nat → Option Nat} {a1 : Int32} {a2 : Int32} {a3 : Int32} {o : Int32 × (Nat → Nat → Int32)} (h : rs_M_mend I a1 a2 a3 = some o) {Q : Option Value → az_S → Prop} (hQ : Q (some (.int o.1)) (97, o.2, J, R)) : az_E az_F ex 3 173 0 [.ref 73, .int a1, .int a2, .int a3, .retAddr 0] [] (97, I, J, R) Q := by
  unfold rs_M_mend at h
  refine az_E.sn 3 (pc' := 3) (L' := [.ref 73, .int a1, .int a2, .int a3, .retAddr 0]) (S' := [.int a2, .int a1, .ref 73]) (σ' := (97, I, J, R)) rfl ?_
  cases hx_2 : rs_M_placeOf I a1 a2 with
  | none => rw [hx_2] at h; cases h
  | some x_1 =>
    rw [hx_2] at h
    dsimp only at h
    refine az_E.call (d := 2) (k' := 171) (vs := [.ref 73, .int a1, .int a2]) (pc' := 6) (S' := []) (Q1 := fun v s => v = some (.int x_1) ∧ s = (97, I, J, R)) rfl (az_E.deep (by omega) (re_M_placeOf (J := J) (R := R)  hx_2 ⟨rfl, rfl⟩)) (fun v s hq => ?_)
    obtain ⟨rfl, rfl⟩ := hq
    show az_E az_F ex 3 173 6 [.ref 73, .int a1, .int a2, .int a3, .retAddr 0] [.int x_1] (97, I, J, R) _
    refine az_E.sn 2 (pc' := 10) (L' := [.ref 73, .int a1, .int a2, .int a3, .int x_1]) (S' := [.int x_1]) (σ' := (97, I, J, R)) rfl ?_
    refine az_E.br (c := x_1 < 0) (tt := 31) (ff := 13) (L' := [.ref 73, .int a1, .int a2, .int a3, .int x_1]) (S' := []) (σ' := (97, I, J, R)) rfl (fun hc_3 => ?_) (fun hc_3 => ?_)
    · rw [if_pos hc_3] at h
      refine az_E.sn 1 (pc' := 33) (L' := [.ref 73, .int a1, .int a2, .int a3, .int x_1]) (S' := [.int (-2000000000 : Int32)]) (σ' := (97, I, J, R)) rfl ?_
      have h := Option.some.inj h
      subst h
      exact az_E.ret (v := some (.int (-2000000000 : Int32))) (σ' := (97, I, J, R)) rfl hQ
    · rw [if_neg hc_3] at h
      refine az_E.sn 2 (pc' := 15) (L' := [.ref 73, .int a1, .int a2, .int a3, .int x_1]) (S' := [.int a3, .int a2]) (σ' := (97, I, J, R)) rfl ?_
      cases hx_5 : rs_M_mayBecome a2 a3 with
      | none => rw [hx_5] at h; cases h
      | some x_4 =>
        rw [hx_5] at h
        dsimp only at h
        refine az_E.call (d := 2) (k' := 172) (vs := [.int a2, .int a3]) (pc' := 18) (S' := []) (Q1 := fun v s => v = some (.int x_4) ∧ s = (97, I, J, R)) rfl (az_E.deep (by omega) (re_M_mayBecome (J := J) (R := R)  hx_5 ⟨rfl, rfl⟩)) (fun v s hq => ?_)
        obtain ⟨rfl, rfl⟩ := hq
        show az_E az_F ex 3 173 18 [.ref 73, .int a1, .int a2, .int a3, .int x_1] [.int x_4] (97, I, J, R) _
        refine az_E.br (c := x_4 = 0) (tt := 31) (ff := 21) (L' := [.ref 73, .int a1, .int a2, .int a3, .int x_1]) (S' := []) (σ' := (97, I, J, R)) rfl (fun hc_6 => ?_) (fun hc_6 => ?_)
        · rw [if_pos hc_6] at h
          refine az_E.sn 1 (pc' := 33) (L' := [.ref 73, .int a1, .int a2, .int a3, .int x_1]) (S' := [.int (-2000000000 : Int32)]) (σ' := (97, I, J, R)) rfl ?_
          have h := Option.some.inj h
          subst h
          exact az_E.ret (v := some (.int (-2000000000 : Int32))) (σ' := (97, I, J, R)) rfl hQ
        · rw [if_neg hc_6] at h
          refine az_E.sn 3 (pc' := 25) (L' := [.ref 73, .int a1, .int a2, .int a3, .int x_1]) (S' := [.int a3, .int x_1, .ref 73]) (σ' := (97, I, J, R)) rfl ?_
          cases hx_9 : rs_M_becomes I x_1 a3 with
          | none => rw [hx_9] at h; cases h
          | some o =>
            rw [hx_9] at h
            obtain ⟨x_7, I_8⟩ := o
            dsimp only at h
            refine az_E.call (d := 2) (k' := 157) (vs := [.ref 73, .int x_1, .int a3]) (pc' := 28) (S' := []) (Q1 := fun v s => v = some (.int x_7) ∧ s = (97, I_8, J, R)) rfl (az_E.deep (by omega) (re_M_becomes (J := J) (R := R)  hx_9 ⟨rfl, rfl⟩)) (fun v s hq => ?_)
            obtain ⟨rfl, rfl⟩ := hq
            show az_E az_F ex 3 173 28 [.ref 73, .int a1, .int a2, .int a3, .int x_1] [.int x_7] (97, I_8, J, R) _
            refine az_E.sn 1 (pc' := 33) (L' := [.ref 73, .int a1, .int a2, .int a3, .int x_1]) (S' := [.int x_7]) (σ' := (97, I_8, J, R)) rfl ?_
            have h := Option.some.inj h
            subst h
            exact az_E.ret (v := some (.int x_7)) (σ' := (97, I_8, J, R)) rfl hQ
set_option maxRecDepth 100000 in
set_option maxHeartbeats 4000000 in
theorem re_X_of {ex : az_X} {I : Nat → Nat → Int32} {J : Nat → Nat → Int64} {R : Nat → Nat → Option Nat} {a1 : Int32} {a2 : Int32} {o : Int32} (h : rs_X_of I a1 a2 = some o) {Q : Option Value → az_S → Prop} (hQ : Q (some (.int o)) (97, I, J, R)) : az_E az_F ex 3 88 0 [.ref 3, .int a1, .int a2] [] (97, I, J, R) Q := by
  unfold rs_X_of at h
  refine az_E.sn 4 (pc' := 6) (L' := [.ref 3, .int a1, .int a2]) (S' := [.int a2, .int a1, .ref 4]) (σ' := (97, I, J, R)) rfl ?_
  cases hx_2 : rs_Mo_isThere I a1 a2 with
  | none => rw [hx_2] at h; cases h
  | some x_1 =>
    rw [hx_2] at h
    dsimp only at h
    refine az_E.call (d := 2) (k' := 37) (vs := [.ref 4, .int a1, .int a2]) (pc' := 9) (S' := []) (Q1 := fun v s => v = some (.int x_1) ∧ s = (97, I, J, R)) rfl (az_E.deep (by omega) (re_Mo_isThere (J := J) (R := R)  hx_2 ⟨rfl, rfl⟩)) (fun v s hq => ?_)
    obtain ⟨rfl, rfl⟩ := hq
    show az_E az_F ex 3 88 9 [.ref 3, .int a1, .int a2] [.int x_1] (97, I, J, R) _
    refine az_E.br (c := x_1 = 0) (tt := 24) (ff := 12) (L' := [.ref 3, .int a1, .int a2]) (S' := []) (σ' := (97, I, J, R)) rfl (fun hc_3 => ?_) (fun hc_3 => ?_)
    · rw [if_pos hc_3] at h
      refine az_E.sn 1 (pc' := 26) (L' := [.ref 3, .int a1, .int a2]) (S' := [.int (-2000000000 : Int32)]) (σ' := (97, I, J, R)) rfl ?_
      have h := Option.some.inj h
      subst h
      exact az_E.ret (v := some (.int (-2000000000 : Int32))) (σ' := (97, I, J, R)) rfl hQ
    · rw [if_neg hc_3] at h
      refine az_E.sn 4 (pc' := 18) (L' := [.ref 3, .int a1, .int a2]) (S' := [.int a2, .int a1, .ref 4]) (σ' := (97, I, J, R)) rfl ?_
      cases hx_5 : rs_Mo_read I a1 a2 with
      | none => rw [hx_5] at h; cases h
      | some x_4 =>
        rw [hx_5] at h
        dsimp only at h
        refine az_E.call (d := 2) (k' := 40) (vs := [.ref 4, .int a1, .int a2]) (pc' := 21) (S' := []) (Q1 := fun v s => v = some (.int x_4) ∧ s = (97, I, J, R)) rfl (az_E.deep (by omega) (re_Mo_read (J := J) (R := R)  hx_5 ⟨rfl, rfl⟩)) (fun v s hq => ?_)
        obtain ⟨rfl, rfl⟩ := hq
        show az_E az_F ex 3 88 21 [.ref 3, .int a1, .int a2] [.int x_4] (97, I, J, R) _
        refine az_E.sn 1 (pc' := 26) (L' := [.ref 3, .int a1, .int a2]) (S' := [.int x_4]) (σ' := (97, I, J, R)) rfl ?_
        have h := Option.some.inj h
        subst h
        exact az_E.ret (v := some (.int x_4)) (σ' := (97, I, J, R)) rfl hQ
set_option maxRecDepth 100000 in
set_option maxHeartbeats 4000000 in
theorem re_M_of {ex : az_X} {I : Nat → Nat → Int32} {J : Nat → Nat → Int64} {R : Nat → Nat → Option Nat} {a1 : Int32} {a2 : Int32} {o : Int32} (h : rs_M_of I a1 a2 = some o) {Q : Option Value → az_S → Prop} (hQ : Q (some (.int o)) (97, I, J, R)) : az_E az_F ex 3 174 0 [.ref 73, .int a1, .int a2, .retAddr 0] [] (97, I, J, R) Q := by
  unfold rs_M_of at h
  refine az_E.sn 3 (pc' := 3) (L' := [.ref 73, .int a1, .int a2, .retAddr 0]) (S' := [.int a2, .int a1, .ref 73]) (σ' := (97, I, J, R)) rfl ?_
  cases hx_2 : rs_M_placeOf I a1 a2 with
  | none => rw [hx_2] at h; cases h
  | some x_1 =>
    rw [hx_2] at h
    dsimp only at h
    refine az_E.call (d := 2) (k' := 171) (vs := [.ref 73, .int a1, .int a2]) (pc' := 6) (S' := []) (Q1 := fun v s => v = some (.int x_1) ∧ s = (97, I, J, R)) rfl (az_E.deep (by omega) (re_M_placeOf (J := J) (R := R)  hx_2 ⟨rfl, rfl⟩)) (fun v s hq => ?_)
    obtain ⟨rfl, rfl⟩ := hq
    show az_E az_F ex 3 174 6 [.ref 73, .int a1, .int a2, .retAddr 0] [.int x_1] (97, I, J, R) _
    refine az_E.sn 2 (pc' := 8) (L' := [.ref 73, .int a1, .int a2, .int x_1]) (S' := [.int x_1]) (σ' := (97, I, J, R)) rfl ?_
    refine az_E.br (c := x_1 < 0) (tt := 18) (ff := 11) (L' := [.ref 73, .int a1, .int a2, .int x_1]) (S' := []) (σ' := (97, I, J, R)) rfl (fun hc_3 => ?_) (fun hc_3 => ?_)
    · rw [if_pos hc_3] at h
      refine az_E.sn 3 (pc' := 21) (L' := [.ref 73, .int a1, .int a2, .int x_1]) (S' := [.long a1.toInt64, .ref 73]) (σ' := (97, I, J, R)) rfl ?_
      refine az_E.call (d := 2) (k' := 162) (vs := [.ref 73, .long a1.toInt64]) (pc' := 24) (S' := []) rfl ?_ (fun _ _ hq => hq)
      show az_E az_F ex 2 162 0 [.ref 73, .long a1.toInt64, .retAddr 0] [] (97, I, J, R) _
      refine az_E.sn 7 (pc' := 9) (L' := [.ref 73, .long a1.toInt64, .retAddr 0]) (S' := [.long ((I 73 7) - (1 : Int32)).toInt64, .long (0 : Int64), .long a1.toInt64]) (σ' := (97, I, J, R)) rfl ?_
      refine az_E.call (d := 1) (k' := 154) (vs := [.long a1.toInt64, .long (0 : Int64), .long ((I 73 7) - (1 : Int32)).toInt64]) (pc' := 12) (S' := []) rfl ?_ (fun _ _ hq => hq)
      show az_E az_F ex 1 154 0 [.long a1.toInt64, .retAddr 0, .long (0 : Int64), .retAddr 0, .long ((I 73 7) - (1 : Int32)).toInt64, .retAddr 0] [] (97, I, J, R) _
      refine az_E.sn 3 (pc' := 3) (L' := [.long a1.toInt64, .retAddr 0, .long (0 : Int64), .retAddr 0, .long ((I 73 7) - (1 : Int32)).toInt64, .retAddr 0]) (S' := [.int (lg_cmp a1.toInt64 (0 : Int64))]) (σ' := (97, I, J, R)) rfl ?_
      refine az_E.br (c := (lg_cmp a1.toInt64 (0 : Int64)) < 0) (tt := 17) (ff := 6) (L' := [.long a1.toInt64, .retAddr 0, .long (0 : Int64), .retAddr 0, .long ((I 73 7) - (1 : Int32)).toInt64, .retAddr 0]) (S' := []) (σ' := (97, I, J, R)) rfl (fun hc_4 => ?_) (fun hc_4 => ?_)
      · rw [if_pos hc_4] at h
        refine az_E.sn 1 (pc' := 18) (L' := [.long a1.toInt64, .retAddr 0, .long (0 : Int64), .retAddr 0, .long ((I 73 7) - (1 : Int32)).toInt64, .retAddr 0]) (S' := [.int (0 : Int32)]) (σ' := (97, I, J, R)) rfl ?_
        refine az_E.ret (v := some (.int (0 : Int32))) (σ' := (97, I, J, R)) rfl ?_
        show az_E az_F ex 2 162 12 [.ref 73, .long a1.toInt64, .retAddr 0] [.int (0 : Int32)] (97, I, J, R) _
        refine az_E.ret (v := some (.int (0 : Int32))) (σ' := (97, I, J, R)) rfl ?_
        show az_E az_F ex 3 174 24 [.ref 73, .int a1, .int a2, .int x_1] [.int (0 : Int32)] (97, I, J, R) _
        refine az_E.br (c := (0 : Int32) = 0) (tt := 27) (ff := 32) (L' := [.ref 73, .int a1, .int a2, .int x_1]) (S' := []) (σ' := (97, I, J, R)) rfl (fun _ => ?_) (fun hn => absurd (by decide) hn)
        refine az_E.sn 2 (pc' := 64) (L' := [.ref 73, .int a1, .int a2, .int x_1]) (S' := [.int (-2000000000 : Int32)]) (σ' := (97, I, J, R)) rfl ?_
        have h := Option.some.inj h
        subst h
        exact az_E.ret (v := some (.int (-2000000000 : Int32))) (σ' := (97, I, J, R)) rfl hQ
      · rw [if_neg hc_4] at h
        refine az_E.sn 3 (pc' := 10) (L' := [.long a1.toInt64, .retAddr 0, .long (0 : Int64), .retAddr 0, .long ((I 73 7) - (1 : Int32)).toInt64, .retAddr 0]) (S' := [.int (lg_cmp a1.toInt64 ((I 73 7) - (1 : Int32)).toInt64)]) (σ' := (97, I, J, R)) rfl ?_
        refine az_E.br (c := 0 < (lg_cmp a1.toInt64 ((I 73 7) - (1 : Int32)).toInt64)) (tt := 17) (ff := 13) (L' := [.long a1.toInt64, .retAddr 0, .long (0 : Int64), .retAddr 0, .long ((I 73 7) - (1 : Int32)).toInt64, .retAddr 0]) (S' := []) (σ' := (97, I, J, R)) rfl (fun hc_5 => ?_) (fun hc_5 => ?_)
        · rw [if_pos hc_5] at h
          refine az_E.sn 1 (pc' := 18) (L' := [.long a1.toInt64, .retAddr 0, .long (0 : Int64), .retAddr 0, .long ((I 73 7) - (1 : Int32)).toInt64, .retAddr 0]) (S' := [.int (0 : Int32)]) (σ' := (97, I, J, R)) rfl ?_
          refine az_E.ret (v := some (.int (0 : Int32))) (σ' := (97, I, J, R)) rfl ?_
          show az_E az_F ex 2 162 12 [.ref 73, .long a1.toInt64, .retAddr 0] [.int (0 : Int32)] (97, I, J, R) _
          refine az_E.ret (v := some (.int (0 : Int32))) (σ' := (97, I, J, R)) rfl ?_
          show az_E az_F ex 3 174 24 [.ref 73, .int a1, .int a2, .int x_1] [.int (0 : Int32)] (97, I, J, R) _
          refine az_E.br (c := (0 : Int32) = 0) (tt := 27) (ff := 32) (L' := [.ref 73, .int a1, .int a2, .int x_1]) (S' := []) (σ' := (97, I, J, R)) rfl (fun _ => ?_) (fun hn => absurd (by decide) hn)
          refine az_E.sn 2 (pc' := 64) (L' := [.ref 73, .int a1, .int a2, .int x_1]) (S' := [.int (-2000000000 : Int32)]) (σ' := (97, I, J, R)) rfl ?_
          have h := Option.some.inj h
          subst h
          exact az_E.ret (v := some (.int (-2000000000 : Int32))) (σ' := (97, I, J, R)) rfl hQ
        · rw [if_neg hc_5] at h
          refine az_E.sn 2 (pc' := 18) (L' := [.long a1.toInt64, .retAddr 0, .long (0 : Int64), .retAddr 0, .long ((I 73 7) - (1 : Int32)).toInt64, .retAddr 0]) (S' := [.int (1 : Int32)]) (σ' := (97, I, J, R)) rfl ?_
          refine az_E.ret (v := some (.int (1 : Int32))) (σ' := (97, I, J, R)) rfl ?_
          show az_E az_F ex 2 162 12 [.ref 73, .long a1.toInt64, .retAddr 0] [.int (1 : Int32)] (97, I, J, R) _
          refine az_E.ret (v := some (.int (1 : Int32))) (σ' := (97, I, J, R)) rfl ?_
          show az_E az_F ex 3 174 24 [.ref 73, .int a1, .int a2, .int x_1] [.int (1 : Int32)] (97, I, J, R) _
          refine az_E.br (c := (1 : Int32) = 0) (tt := 27) (ff := 32) (L' := [.ref 73, .int a1, .int a2, .int x_1]) (S' := []) (σ' := (97, I, J, R)) rfl (fun hn => absurd hn (by decide)) (fun _ => ?_)
          refine az_E.sn 2 (pc' := 35) (L' := [.ref 73, .int a1, .int a2, .int x_1]) (S' := [.int (7 : Int32), .int a2]) (σ' := (97, I, J, R)) rfl ?_
          refine az_E.br (c := a2 = (7 : Int32)) (tt := 38) (ff := 47) (L' := [.ref 73, .int a1, .int a2, .int x_1]) (S' := []) (σ' := (97, I, J, R)) rfl (fun hc_6 => ?_) (fun hc_6 => ?_)
          · rw [if_pos hc_6] at h
            refine az_E.sn 3 (pc' := 43) (L' := [.ref 73, .int a1, .int a2, .int x_1]) (S' := [.int a1, .ref 78]) (σ' := (97, I, J, R)) rfl ?_
            by_cases hc_7 : a1 < 0 ∨ 6 ≤ a1.toNatClampNeg
            · rw [if_pos hc_7] at h; cases h
            · rw [if_neg hc_7] at h
              refine az_E.oi (o := az_ai az_F ex (97, I, J, R) 78 a1) (pc' := 44) (L' := [.ref 73, .int a1, .int a2, .int x_1]) (S' := []) (σ' := (97, I, J, R)) (x := (I 78 a1.toNatClampNeg)) rfl (if_neg hc_7) ?_
              refine az_E.sn 1 (pc' := 64) (L' := [.ref 73, .int a1, .int a2, .int x_1]) (S' := [.int (I 78 a1.toNatClampNeg)]) (σ' := (97, I, J, R)) rfl ?_
              have h := Option.some.inj h
              subst h
              exact az_E.ret (v := some (.int (I 78 a1.toNatClampNeg))) (σ' := (97, I, J, R)) rfl hQ
          · rw [if_neg hc_6] at h
            refine az_E.sn 2 (pc' := 50) (L' := [.ref 73, .int a1, .int a2, .int x_1]) (S' := [.int (8 : Int32), .int a2]) (σ' := (97, I, J, R)) rfl ?_
            refine az_E.br (c := a2 = (8 : Int32)) (tt := 53) (ff := 62) (L' := [.ref 73, .int a1, .int a2, .int x_1]) (S' := []) (σ' := (97, I, J, R)) rfl (fun hc_8 => ?_) (fun hc_8 => ?_)
            · rw [if_pos hc_8] at h
              refine az_E.sn 3 (pc' := 58) (L' := [.ref 73, .int a1, .int a2, .int x_1]) (S' := [.int a1, .ref 79]) (σ' := (97, I, J, R)) rfl ?_
              by_cases hc_9 : a1 < 0 ∨ 6 ≤ a1.toNatClampNeg
              · rw [if_pos hc_9] at h; cases h
              · rw [if_neg hc_9] at h
                refine az_E.oi (o := az_ai az_F ex (97, I, J, R) 79 a1) (pc' := 59) (L' := [.ref 73, .int a1, .int a2, .int x_1]) (S' := []) (σ' := (97, I, J, R)) (x := (I 79 a1.toNatClampNeg)) rfl (if_neg hc_9) ?_
                refine az_E.sn 1 (pc' := 64) (L' := [.ref 73, .int a1, .int a2, .int x_1]) (S' := [.int (I 79 a1.toNatClampNeg)]) (σ' := (97, I, J, R)) rfl ?_
                have h := Option.some.inj h
                subst h
                exact az_E.ret (v := some (.int (I 79 a1.toNatClampNeg))) (σ' := (97, I, J, R)) rfl hQ
            · rw [if_neg hc_8] at h
              refine az_E.sn 1 (pc' := 64) (L' := [.ref 73, .int a1, .int a2, .int x_1]) (S' := [.int (-2000000000 : Int32)]) (σ' := (97, I, J, R)) rfl ?_
              have h := Option.some.inj h
              subst h
              exact az_E.ret (v := some (.int (-2000000000 : Int32))) (σ' := (97, I, J, R)) rfl hQ
    · rw [if_neg hc_3] at h
      refine az_E.sn 3 (pc' := 16) (L' := [.ref 73, .int a1, .int a2, .int x_1]) (S' := [.int x_1, .ref 74]) (σ' := (97, I, J, R)) rfl ?_
      by_cases hc_10 : x_1 < 0 ∨ 179 ≤ x_1.toNatClampNeg
      · rw [if_pos hc_10] at h; cases h
      · rw [if_neg hc_10] at h
        refine az_E.oi (o := az_ai az_F ex (97, I, J, R) 74 x_1) (pc' := 17) (L' := [.ref 73, .int a1, .int a2, .int x_1]) (S' := []) (σ' := (97, I, J, R)) (x := (I 74 x_1.toNatClampNeg)) rfl (if_neg hc_10) ?_
        have h := Option.some.inj h
        subst h
        exact az_E.ret (v := some (.int (I 74 x_1.toNatClampNeg))) (σ' := (97, I, J, R)) rfl hQ
set_option maxRecDepth 100000 in
set_option maxHeartbeats 4000000 in
theorem re_Ta_add {ex : az_X} {I : Nat → Nat → Int32} {J : Nat → Nat → Int64} {R : Nat → Nat → Option Nat} {a1 : Int32} {o : Int32 × (Nat → Nat → Int32)} (h : rs_Ta_add I a1 = some o) {Q : Option Value → az_S → Prop} (hQ : Q (some (.int o.1)) (97, o.2, J, R)) : az_E az_F ex 0 64 0 [.ref 14, .int a1] [] (97, I, J, R) Q := by
  unfold rs_Ta_add at h
  refine az_E.sn 3 (pc' := 6) (L' := [.ref 14, .int a1]) (S' := [.int (120 : Int32), .int (I 14 1)]) (σ' := (97, I, J, R)) rfl ?_
  refine az_E.br (c := (I 14 1) < (120 : Int32)) (tt := 12) (ff := 9) (L' := [.ref 14, .int a1]) (S' := []) (σ' := (97, I, J, R)) rfl (fun hc_1 => ?_) (fun hc_1 => ?_)
  · rw [if_pos hc_1] at h
    refine az_E.sn 5 (pc' := 21) (L' := [.ref 14, .int a1]) (S' := [.int a1, .int (I 14 1), .ref 15]) (σ' := (97, I, J, R)) rfl ?_
    by_cases hc_2 : (I 14 1) < 0 ∨ 120 ≤ (I 14 1).toNatClampNeg
    · rw [if_pos hc_2] at h; cases h
    · rw [if_neg hc_2] at h
      refine az_E.o (o := az_si az_F (97, I, J, R) 15 (I 14 1) a1) (pc' := 22) (L' := [.ref 14, .int a1]) (S' := []) (x := (97, (az_u I 15 (I 14 1).toNatClampNeg a1), J, R)) rfl (if_neg hc_2) ?_
      refine az_E.sn 8 (pc' := 36) (L' := [.ref 14, .int a1]) (S' := [.int ((I 14 1) + (1 : Int32))]) (σ' := (97, (az_u (az_u I 15 (I 14 1).toNatClampNeg a1) 14 1 ((I 14 1) + (1 : Int32))), J, R)) rfl ?_
      have h := Option.some.inj h
      subst h
      exact az_E.ret (v := some (.int ((I 14 1) + (1 : Int32)))) (σ' := (97, (az_u (az_u I 15 (I 14 1).toNatClampNeg a1) 14 1 ((I 14 1) + (1 : Int32))), J, R)) rfl hQ
  · rw [if_neg hc_1] at h
    refine az_E.sn 1 (pc' := 11) (L' := [.ref 14, .int a1]) (S' := [.int (-3 : Int32)]) (σ' := (97, I, J, R)) rfl ?_
    have h := Option.some.inj h
    subst h
    exact az_E.ret (v := some (.int (-3 : Int32))) (σ' := (97, I, J, R)) rfl hQ
set_option maxRecDepth 100000 in
set_option maxHeartbeats 4000000 in
theorem re_X_feed {ex : az_X} {I : Nat → Nat → Int32} {J : Nat → Nat → Int64} {R : Nat → Nat → Option Nat} {a1 : Int32} {o : Int32 × (Nat → Nat → Int32)} (h : rs_X_feed I a1 = some o) {Q : Option Value → az_S → Prop} (hQ : Q (some (.int o.1)) (97, o.2, J, R)) : az_E az_F ex 1 89 0 [.ref 3, .int a1] [] (97, I, J, R) Q := by
  unfold rs_X_feed at h
  refine az_E.sn 3 (pc' := 5) (L' := [.ref 3, .int a1]) (S' := [.int (255 : Int32), .int (0 : Int32), .int a1]) (σ' := (97, I, J, R)) rfl ?_
  refine az_E.call (d := 0) (k' := 131) (vs := [.int a1, .int (0 : Int32), .int (255 : Int32)]) (pc' := 8) (S' := []) rfl ?_ (fun _ _ hq => hq)
  show az_E az_F ex 0 131 0 [.int a1, .int (0 : Int32), .int (255 : Int32)] [] (97, I, J, R) _
  refine az_E.sn 2 (pc' := 2) (L' := [.int a1, .int (0 : Int32), .int (255 : Int32)]) (S' := [.int (0 : Int32), .int a1]) (σ' := (97, I, J, R)) rfl ?_
  refine az_E.br (c := a1 < (0 : Int32)) (tt := 14) (ff := 5) (L' := [.int a1, .int (0 : Int32), .int (255 : Int32)]) (S' := []) (σ' := (97, I, J, R)) rfl (fun hc_1 => ?_) (fun hc_1 => ?_)
  · rw [if_pos hc_1] at h
    refine az_E.sn 1 (pc' := 15) (L' := [.int a1, .int (0 : Int32), .int (255 : Int32)]) (S' := [.int (0 : Int32)]) (σ' := (97, I, J, R)) rfl ?_
    refine az_E.ret (v := some (.int (0 : Int32))) (σ' := (97, I, J, R)) rfl ?_
    show az_E az_F ex 1 89 8 [.ref 3, .int a1] [.int (0 : Int32)] (97, I, J, R) _
    refine az_E.br (c := (0 : Int32) = 0) (tt := 22) (ff := 11) (L' := [.ref 3, .int a1]) (S' := []) (σ' := (97, I, J, R)) rfl (fun _ => ?_) (fun hn => absurd (by decide) hn)
    refine az_E.sn 1 (pc' := 23) (L' := [.ref 3, .int a1]) (S' := [.int (-1 : Int32)]) (σ' := (97, I, J, R)) rfl ?_
    have h := Option.some.inj h
    subst h
    exact az_E.ret (v := some (.int (-1 : Int32))) (σ' := (97, I, J, R)) rfl hQ
  · rw [if_neg hc_1] at h
    refine az_E.sn 2 (pc' := 7) (L' := [.int a1, .int (0 : Int32), .int (255 : Int32)]) (S' := [.int (255 : Int32), .int a1]) (σ' := (97, I, J, R)) rfl ?_
    refine az_E.br (c := (255 : Int32) < a1) (tt := 14) (ff := 10) (L' := [.int a1, .int (0 : Int32), .int (255 : Int32)]) (S' := []) (σ' := (97, I, J, R)) rfl (fun hc_2 => ?_) (fun hc_2 => ?_)
    · rw [if_pos hc_2] at h
      refine az_E.sn 1 (pc' := 15) (L' := [.int a1, .int (0 : Int32), .int (255 : Int32)]) (S' := [.int (0 : Int32)]) (σ' := (97, I, J, R)) rfl ?_
      refine az_E.ret (v := some (.int (0 : Int32))) (σ' := (97, I, J, R)) rfl ?_
      show az_E az_F ex 1 89 8 [.ref 3, .int a1] [.int (0 : Int32)] (97, I, J, R) _
      refine az_E.br (c := (0 : Int32) = 0) (tt := 22) (ff := 11) (L' := [.ref 3, .int a1]) (S' := []) (σ' := (97, I, J, R)) rfl (fun _ => ?_) (fun hn => absurd (by decide) hn)
      refine az_E.sn 1 (pc' := 23) (L' := [.ref 3, .int a1]) (S' := [.int (-1 : Int32)]) (σ' := (97, I, J, R)) rfl ?_
      have h := Option.some.inj h
      subst h
      exact az_E.ret (v := some (.int (-1 : Int32))) (σ' := (97, I, J, R)) rfl hQ
    · rw [if_neg hc_2] at h
      refine az_E.sn 2 (pc' := 15) (L' := [.int a1, .int (0 : Int32), .int (255 : Int32)]) (S' := [.int (1 : Int32)]) (σ' := (97, I, J, R)) rfl ?_
      refine az_E.ret (v := some (.int (1 : Int32))) (σ' := (97, I, J, R)) rfl ?_
      show az_E az_F ex 1 89 8 [.ref 3, .int a1] [.int (1 : Int32)] (97, I, J, R) _
      refine az_E.br (c := (1 : Int32) = 0) (tt := 22) (ff := 11) (L' := [.ref 3, .int a1]) (S' := []) (σ' := (97, I, J, R)) rfl (fun hn => absurd hn (by decide)) (fun _ => ?_)
      refine az_E.sn 3 (pc' := 16) (L' := [.ref 3, .int a1]) (S' := [.int a1, .ref 14]) (σ' := (97, I, J, R)) rfl ?_
      cases hx_5 : rs_Ta_add I a1 with
      | none => rw [hx_5] at h; cases h
      | some o =>
        rw [hx_5] at h
        obtain ⟨x_3, I_4⟩ := o
        dsimp only at h
        refine az_E.call (d := 0) (k' := 64) (vs := [.ref 14, .int a1]) (pc' := 19) (S' := []) (Q1 := fun v s => v = some (.int x_3) ∧ s = (97, I_4, J, R)) rfl (az_E.deep (by omega) (re_Ta_add (J := J) (R := R)  hx_5 ⟨rfl, rfl⟩)) (fun v s hq => ?_)
        obtain ⟨rfl, rfl⟩ := hq
        show az_E az_F ex 1 89 19 [.ref 3, .int a1] [.int x_3] (97, I_4, J, R) _
        refine az_E.sn 1 (pc' := 23) (L' := [.ref 3, .int a1]) (S' := [.int x_3]) (σ' := (97, I_4, J, R)) rfl ?_
        have h := Option.some.inj h
        subst h
        exact az_E.ret (v := some (.int x_3)) (σ' := (97, I_4, J, R)) rfl hQ
set_option maxRecDepth 100000 in
set_option maxHeartbeats 4000000 in
theorem re_M_feed {ex : az_X} {I : Nat → Nat → Int32} {J : Nat → Nat → Int64} {R : Nat → Nat → Option Nat} {a1 : Int32} {o : Int32 × (Nat → Nat → Int32)} (h : rs_M_feed I a1 = some o) {Q : Option Value → az_S → Prop} (hQ : Q (some (.int o.1)) (97, o.2, J, R)) : az_E az_F ex 1 175 0 [.ref 73, .int a1] [] (97, I, J, R) Q := by
  unfold rs_M_feed at h
  refine az_E.sn 4 (pc' := 6) (L' := [.ref 73, .int a1]) (S' := [.long (255 : Int64), .long (0 : Int64), .long a1.toInt64]) (σ' := (97, I, J, R)) rfl ?_
  refine az_E.call (d := 0) (k' := 154) (vs := [.long a1.toInt64, .long (0 : Int64), .long (255 : Int64)]) (pc' := 9) (S' := []) rfl ?_ (fun _ _ hq => hq)
  show az_E az_F ex 0 154 0 [.long a1.toInt64, .retAddr 0, .long (0 : Int64), .retAddr 0, .long (255 : Int64), .retAddr 0] [] (97, I, J, R) _
  refine az_E.sn 3 (pc' := 3) (L' := [.long a1.toInt64, .retAddr 0, .long (0 : Int64), .retAddr 0, .long (255 : Int64), .retAddr 0]) (S' := [.int (lg_cmp a1.toInt64 (0 : Int64))]) (σ' := (97, I, J, R)) rfl ?_
  refine az_E.br (c := (lg_cmp a1.toInt64 (0 : Int64)) < 0) (tt := 17) (ff := 6) (L' := [.long a1.toInt64, .retAddr 0, .long (0 : Int64), .retAddr 0, .long (255 : Int64), .retAddr 0]) (S' := []) (σ' := (97, I, J, R)) rfl (fun hc_1 => ?_) (fun hc_1 => ?_)
  · rw [if_pos hc_1] at h
    refine az_E.sn 1 (pc' := 18) (L' := [.long a1.toInt64, .retAddr 0, .long (0 : Int64), .retAddr 0, .long (255 : Int64), .retAddr 0]) (S' := [.int (0 : Int32)]) (σ' := (97, I, J, R)) rfl ?_
    refine az_E.ret (v := some (.int (0 : Int32))) (σ' := (97, I, J, R)) rfl ?_
    show az_E az_F ex 1 175 9 [.ref 73, .int a1] [.int (0 : Int32)] (97, I, J, R) _
    refine az_E.br (c := (0 : Int32) = 0) (tt := 12) (ff := 14) (L' := [.ref 73, .int a1]) (S' := []) (σ' := (97, I, J, R)) rfl (fun _ => ?_) (fun hn => absurd (by decide) hn)
    refine az_E.sn 1 (pc' := 13) (L' := [.ref 73, .int a1]) (S' := [.int (-1 : Int32)]) (σ' := (97, I, J, R)) rfl ?_
    have h := Option.some.inj h
    subst h
    exact az_E.ret (v := some (.int (-1 : Int32))) (σ' := (97, I, J, R)) rfl hQ
  · rw [if_neg hc_1] at h
    refine az_E.sn 3 (pc' := 10) (L' := [.long a1.toInt64, .retAddr 0, .long (0 : Int64), .retAddr 0, .long (255 : Int64), .retAddr 0]) (S' := [.int (lg_cmp a1.toInt64 (255 : Int64))]) (σ' := (97, I, J, R)) rfl ?_
    refine az_E.br (c := 0 < (lg_cmp a1.toInt64 (255 : Int64))) (tt := 17) (ff := 13) (L' := [.long a1.toInt64, .retAddr 0, .long (0 : Int64), .retAddr 0, .long (255 : Int64), .retAddr 0]) (S' := []) (σ' := (97, I, J, R)) rfl (fun hc_2 => ?_) (fun hc_2 => ?_)
    · rw [if_pos hc_2] at h
      refine az_E.sn 1 (pc' := 18) (L' := [.long a1.toInt64, .retAddr 0, .long (0 : Int64), .retAddr 0, .long (255 : Int64), .retAddr 0]) (S' := [.int (0 : Int32)]) (σ' := (97, I, J, R)) rfl ?_
      refine az_E.ret (v := some (.int (0 : Int32))) (σ' := (97, I, J, R)) rfl ?_
      show az_E az_F ex 1 175 9 [.ref 73, .int a1] [.int (0 : Int32)] (97, I, J, R) _
      refine az_E.br (c := (0 : Int32) = 0) (tt := 12) (ff := 14) (L' := [.ref 73, .int a1]) (S' := []) (σ' := (97, I, J, R)) rfl (fun _ => ?_) (fun hn => absurd (by decide) hn)
      refine az_E.sn 1 (pc' := 13) (L' := [.ref 73, .int a1]) (S' := [.int (-1 : Int32)]) (σ' := (97, I, J, R)) rfl ?_
      have h := Option.some.inj h
      subst h
      exact az_E.ret (v := some (.int (-1 : Int32))) (σ' := (97, I, J, R)) rfl hQ
    · rw [if_neg hc_2] at h
      refine az_E.sn 2 (pc' := 18) (L' := [.long a1.toInt64, .retAddr 0, .long (0 : Int64), .retAddr 0, .long (255 : Int64), .retAddr 0]) (S' := [.int (1 : Int32)]) (σ' := (97, I, J, R)) rfl ?_
      refine az_E.ret (v := some (.int (1 : Int32))) (σ' := (97, I, J, R)) rfl ?_
      show az_E az_F ex 1 175 9 [.ref 73, .int a1] [.int (1 : Int32)] (97, I, J, R) _
      refine az_E.br (c := (1 : Int32) = 0) (tt := 12) (ff := 14) (L' := [.ref 73, .int a1]) (S' := []) (σ' := (97, I, J, R)) rfl (fun hn => absurd hn (by decide)) (fun _ => ?_)
      refine az_E.sn 3 (pc' := 20) (L' := [.ref 73, .int a1]) (S' := [.int (120 : Int32), .int (I 73 11)]) (σ' := (97, I, J, R)) rfl ?_
      refine az_E.br (c := (I 73 11) = (120 : Int32)) (tt := 23) (ff := 26) (L' := [.ref 73, .int a1]) (S' := []) (σ' := (97, I, J, R)) rfl (fun hc_3 => ?_) (fun hc_3 => ?_)
      · rw [if_pos hc_3] at h
        refine az_E.sn 1 (pc' := 25) (L' := [.ref 73, .int a1]) (S' := [.int (-3 : Int32)]) (σ' := (97, I, J, R)) rfl ?_
        have h := Option.some.inj h
        subst h
        exact az_E.ret (v := some (.int (-3 : Int32))) (σ' := (97, I, J, R)) rfl hQ
      · rw [if_neg hc_3] at h
        refine az_E.sn 5 (pc' := 35) (L' := [.ref 73, .int a1]) (S' := [.int a1, .int (I 73 11), .ref 80]) (σ' := (97, I, J, R)) rfl ?_
        by_cases hc_4 : (I 73 11) < 0 ∨ 120 ≤ (I 73 11).toNatClampNeg
        · rw [if_pos hc_4] at h; cases h
        · rw [if_neg hc_4] at h
          refine az_E.o (o := az_si az_F (97, I, J, R) 80 (I 73 11) a1) (pc' := 36) (L' := [.ref 73, .int a1]) (S' := []) (x := (97, (az_u I 80 (I 73 11).toNatClampNeg a1), J, R)) rfl (if_neg hc_4) ?_
          refine az_E.sn 8 (pc' := 50) (L' := [.ref 73, .int a1]) (S' := [.int ((I 73 11) + (1 : Int32))]) (σ' := (97, (az_u (az_u I 80 (I 73 11).toNatClampNeg a1) 73 11 ((I 73 11) + (1 : Int32))), J, R)) rfl ?_
          have h := Option.some.inj h
          subst h
          exact az_E.ret (v := some (.int ((I 73 11) + (1 : Int32)))) (σ' := (97, (az_u (az_u I 80 (I 73 11).toNatClampNeg a1) 73 11 ((I 73 11) + (1 : Int32))), J, R)) rfl hQ
set_option maxRecDepth 100000 in
set_option maxHeartbeats 4000000 in
theorem re_La_beginText_21 {ex : az_X} {I : Nat → Nat → Int32} {J : Nat → Nat → Int64} {R : Nat → Nat → Option Nat} {o : (Nat → Nat → Int32)} (h : rs_La_beginText 21 I = some o) {Q : Option Value → az_S → Prop} (hQ : Q none (97, o, J, R)) : az_E az_F ex 0 27 0 [.ref 21] [] (97, I, J, R) Q := by
  unfold rs_La_beginText at h
  refine az_E.sn 6 (pc' := 10) (L' := [.ref 21]) (S' := []) (σ' := (97, (az_u (az_u I 21 5 (1 : Int32)) 21 4 (0 : Int32)), J, R)) rfl ?_
  have h := Option.some.inj h
  subst h
  exact az_E.ret (v := none) (σ' := (97, (az_u (az_u I 21 5 (1 : Int32)) 21 4 (0 : Int32)), J, R)) rfl hQ
set_option maxRecDepth 100000 in
set_option maxHeartbeats 4000000 in
theorem re_Ta_joinsAt_135 {ex : az_X} {I : Nat → Nat → Int32} {J : Nat → Nat → Int64} {R : Nat → Nat → Option Nat} {v0 : Int32} {x : Int32} (h : rs_Ta_joinsAt_135 v0 = some x) {Q : Option Value → az_S → Prop} (hQ : Q (some (.int x)) (97, I, J, R)) : az_E az_F ex 0 70 135 [.int v0, .retAddr 0] [] (97, I, J, R) Q := by
  unfold rs_Ta_joinsAt_135 at h
  refine az_E.sn 2 (pc' := 137) (L' := [.int v0, .retAddr 0]) (S' := [.int (4 : Int32), .int v0]) (σ' := (97, I, J, R)) rfl ?_
  refine az_E.br (c := v0 = (4 : Int32)) (tt := 140) (ff := 144) (L' := [.int v0, .retAddr 0]) (S' := []) (σ' := (97, I, J, R)) rfl (fun hc_2 => ?_) (fun hc_2 => ?_)
  · rw [if_pos hc_2] at h
    refine az_E.sn 2 (pc' := 145) (L' := [.int v0, .retAddr 0]) (S' := [.int (1 : Int32)]) (σ' := (97, I, J, R)) rfl ?_
    have h := Option.some.inj h
    subst h
    exact az_E.ret (v := some (.int (1 : Int32))) (σ' := (97, I, J, R)) rfl hQ
  · rw [if_neg hc_2] at h
    refine az_E.sn 1 (pc' := 145) (L' := [.int v0, .retAddr 0]) (S' := [.int (0 : Int32)]) (σ' := (97, I, J, R)) rfl ?_
    have h := Option.some.inj h
    subst h
    exact az_E.ret (v := some (.int (0 : Int32))) (σ' := (97, I, J, R)) rfl hQ
set_option maxRecDepth 100000 in
set_option maxHeartbeats 4000000 in
theorem re_Ta_joinsAt_124 {ex : az_X} {I : Nat → Nat → Int32} {J : Nat → Nat → Int64} {R : Nat → Nat → Option Nat} {v0 : Int32} {x : Int32} (h : rs_Ta_joinsAt_124 v0 = some x) {Q : Option Value → az_S → Prop} (hQ : Q (some (.int x)) (97, I, J, R)) : az_E az_F ex 0 70 124 [.int v0, .retAddr 0] [] (97, I, J, R) Q := by
  unfold rs_Ta_joinsAt_124 at h
  refine az_E.sn 2 (pc' := 126) (L' := [.int v0, .retAddr 0]) (S' := [.int (3 : Int32), .int v0]) (σ' := (97, I, J, R)) rfl ?_
  refine az_E.br (c := v0 = (3 : Int32)) (tt := 129) (ff := 133) (L' := [.int v0, .retAddr 0]) (S' := []) (σ' := (97, I, J, R)) rfl (fun hc_7 => ?_) (fun hc_7 => ?_)
  · rw [if_pos hc_7] at h
    refine az_E.sn 2 (pc' := 134) (L' := [.int v0, .retAddr 0]) (S' := [.int (1 : Int32)]) (σ' := (97, I, J, R)) rfl ?_
    have h := Option.some.inj h
    subst h
    exact az_E.ret (v := some (.int (1 : Int32))) (σ' := (97, I, J, R)) rfl hQ
  · rw [if_neg hc_7] at h
    refine az_E.sn 1 (pc' := 134) (L' := [.int v0, .retAddr 0]) (S' := [.int (0 : Int32)]) (σ' := (97, I, J, R)) rfl ?_
    have h := Option.some.inj h
    subst h
    exact az_E.ret (v := some (.int (0 : Int32))) (σ' := (97, I, J, R)) rfl hQ
set_option maxRecDepth 100000 in
set_option maxHeartbeats 4000000 in
theorem re_Ta_joinsAt_113 {ex : az_X} {I : Nat → Nat → Int32} {J : Nat → Nat → Int64} {R : Nat → Nat → Option Nat} {v0 : Int32} {x : Int32} (h : rs_Ta_joinsAt_113 v0 = some x) {Q : Option Value → az_S → Prop} (hQ : Q (some (.int x)) (97, I, J, R)) : az_E az_F ex 0 70 113 [.int v0, .retAddr 0] [] (97, I, J, R) Q := by
  unfold rs_Ta_joinsAt_113 at h
  refine az_E.sn 2 (pc' := 115) (L' := [.int v0, .retAddr 0]) (S' := [.int (2 : Int32), .int v0]) (σ' := (97, I, J, R)) rfl ?_
  refine az_E.br (c := v0 = (2 : Int32)) (tt := 118) (ff := 122) (L' := [.int v0, .retAddr 0]) (S' := []) (σ' := (97, I, J, R)) rfl (fun hc_11 => ?_) (fun hc_11 => ?_)
  · rw [if_pos hc_11] at h
    refine az_E.sn 2 (pc' := 123) (L' := [.int v0, .retAddr 0]) (S' := [.int (1 : Int32)]) (σ' := (97, I, J, R)) rfl ?_
    have h := Option.some.inj h
    subst h
    exact az_E.ret (v := some (.int (1 : Int32))) (σ' := (97, I, J, R)) rfl hQ
  · rw [if_neg hc_11] at h
    refine az_E.sn 1 (pc' := 123) (L' := [.int v0, .retAddr 0]) (S' := [.int (0 : Int32)]) (σ' := (97, I, J, R)) rfl ?_
    have h := Option.some.inj h
    subst h
    exact az_E.ret (v := some (.int (0 : Int32))) (σ' := (97, I, J, R)) rfl hQ
set_option maxRecDepth 100000 in
set_option maxHeartbeats 4000000 in
theorem re_Ta_joinsAt {ex : az_X} {I : Nat → Nat → Int32} {J : Nat → Nat → Int64} {R : Nat → Nat → Option Nat} {a0 : Int32} {a1 : Int32} {o : Int32} (h : rs_Ta_joinsAt a0 a1 = some o) {Q : Option Value → az_S → Prop} (hQ : Q (some (.int o)) (97, I, J, R)) : az_E az_F ex 0 70 0 [.int a0, .int a1] [] (97, I, J, R) Q := by
  unfold rs_Ta_joinsAt at h
  refine az_E.sn 1 (pc' := 1) (L' := [.int a0, .int a1]) (S' := [.int a1]) (σ' := (97, I, J, R)) rfl ?_
  by_cases hc_1 : a1 = (37 : Int32)
  · rw [if_pos hc_1] at h
    refine az_E.sw hc_1 (pc' := 135) (L' := [.int a0, .int a1]) (S' := []) (σ' := (97, I, J, R)) rfl ?_
    exact az_E.forget (L := [.int a0, .retAddr 0]) ⟨rfl, trivial, trivial⟩ (re_Ta_joinsAt_135 (I := I) (J := J) (R := R)  h hQ)
  · rw [if_neg hc_1] at h
    by_cases hc_3 : a1 = (38 : Int32)
    · rw [if_pos hc_3] at h
      refine az_E.sw hc_3 (pc' := 102) (L' := [.int a0, .int a1]) (S' := []) (σ' := (97, I, J, R)) rfl ?_
      refine az_E.sn 2 (pc' := 104) (L' := [.int a0, .int a1]) (S' := [.int (1 : Int32), .int a0]) (σ' := (97, I, J, R)) rfl ?_
      refine az_E.br (c := a0 = (1 : Int32)) (tt := 107) (ff := 111) (L' := [.int a0, .int a1]) (S' := []) (σ' := (97, I, J, R)) rfl (fun hc_4 => ?_) (fun hc_4 => ?_)
      · rw [if_pos hc_4] at h
        refine az_E.sn 2 (pc' := 112) (L' := [.int a0, .int a1]) (S' := [.int (1 : Int32)]) (σ' := (97, I, J, R)) rfl ?_
        have h := Option.some.inj h
        subst h
        exact az_E.ret (v := some (.int (1 : Int32))) (σ' := (97, I, J, R)) rfl hQ
      · rw [if_neg hc_4] at h
        refine az_E.sn 1 (pc' := 112) (L' := [.int a0, .int a1]) (S' := [.int (0 : Int32)]) (σ' := (97, I, J, R)) rfl ?_
        have h := Option.some.inj h
        subst h
        exact az_E.ret (v := some (.int (0 : Int32))) (σ' := (97, I, J, R)) rfl hQ
    · rw [if_neg hc_3] at h
      by_cases hc_5 : a1 = (42 : Int32)
      · rw [if_pos hc_5] at h
        refine az_E.sw hc_5 (pc' := 135) (L' := [.int a0, .int a1]) (S' := []) (σ' := (97, I, J, R)) rfl ?_
        exact az_E.forget (L := [.int a0, .retAddr 0]) ⟨rfl, trivial, trivial⟩ (re_Ta_joinsAt_135 (I := I) (J := J) (R := R)  h hQ)
      · rw [if_neg hc_5] at h
        by_cases hc_6 : a1 = (43 : Int32)
        · rw [if_pos hc_6] at h
          refine az_E.sw hc_6 (pc' := 124) (L' := [.int a0, .int a1]) (S' := []) (σ' := (97, I, J, R)) rfl ?_
          exact az_E.forget (L := [.int a0, .retAddr 0]) ⟨rfl, trivial, trivial⟩ (re_Ta_joinsAt_124 (I := I) (J := J) (R := R)  h hQ)
        · rw [if_neg hc_6] at h
          by_cases hc_8 : a1 = (45 : Int32)
          · rw [if_pos hc_8] at h
            refine az_E.sw hc_8 (pc' := 124) (L' := [.int a0, .int a1]) (S' := []) (σ' := (97, I, J, R)) rfl ?_
            exact az_E.forget (L := [.int a0, .retAddr 0]) ⟨rfl, trivial, trivial⟩ (re_Ta_joinsAt_124 (I := I) (J := J) (R := R)  h hQ)
          · rw [if_neg hc_8] at h
            by_cases hc_9 : a1 = (47 : Int32)
            · rw [if_pos hc_9] at h
              refine az_E.sw hc_9 (pc' := 135) (L' := [.int a0, .int a1]) (S' := []) (σ' := (97, I, J, R)) rfl ?_
              exact az_E.forget (L := [.int a0, .retAddr 0]) ⟨rfl, trivial, trivial⟩ (re_Ta_joinsAt_135 (I := I) (J := J) (R := R)  h hQ)
            · rw [if_neg hc_9] at h
              by_cases hc_10 : a1 = (60 : Int32)
              · rw [if_pos hc_10] at h
                refine az_E.sw hc_10 (pc' := 113) (L' := [.int a0, .int a1]) (S' := []) (σ' := (97, I, J, R)) rfl ?_
                exact az_E.forget (L := [.int a0, .retAddr 0]) ⟨rfl, trivial, trivial⟩ (re_Ta_joinsAt_113 (I := I) (J := J) (R := R)  h hQ)
              · rw [if_neg hc_10] at h
                by_cases hc_12 : a1 = (61 : Int32)
                · rw [if_pos hc_12] at h
                  refine az_E.sw hc_12 (pc' := 113) (L' := [.int a0, .int a1]) (S' := []) (σ' := (97, I, J, R)) rfl ?_
                  exact az_E.forget (L := [.int a0, .retAddr 0]) ⟨rfl, trivial, trivial⟩ (re_Ta_joinsAt_113 (I := I) (J := J) (R := R)  h hQ)
                · rw [if_neg hc_12] at h
                  by_cases hc_13 : a1 = (62 : Int32)
                  · rw [if_pos hc_13] at h
                    refine az_E.sw hc_13 (pc' := 113) (L' := [.int a0, .int a1]) (S' := []) (σ' := (97, I, J, R)) rfl ?_
                    exact az_E.forget (L := [.int a0, .retAddr 0]) ⟨rfl, trivial, trivial⟩ (re_Ta_joinsAt_113 (I := I) (J := J) (R := R)  h hQ)
                  · rw [if_neg hc_13] at h
                    by_cases hc_14 : a1 = (124 : Int32)
                    · rw [if_pos hc_14] at h
                      refine az_E.sw hc_14 (pc' := 92) (L' := [.int a0, .int a1]) (S' := []) (σ' := (97, I, J, R)) rfl ?_
                      refine az_E.sn 1 (pc' := 93) (L' := [.int a0, .int a1]) (S' := [.int a0]) (σ' := (97, I, J, R)) rfl ?_
                      refine az_E.br (c := a0 = 0) (tt := 96) (ff := 100) (L' := [.int a0, .int a1]) (S' := []) (σ' := (97, I, J, R)) rfl (fun hc_15 => ?_) (fun hc_15 => ?_)
                      · rw [if_pos hc_15] at h
                        refine az_E.sn 2 (pc' := 101) (L' := [.int a0, .int a1]) (S' := [.int (1 : Int32)]) (σ' := (97, I, J, R)) rfl ?_
                        have h := Option.some.inj h
                        subst h
                        exact az_E.ret (v := some (.int (1 : Int32))) (σ' := (97, I, J, R)) rfl hQ
                      · rw [if_neg hc_15] at h
                        refine az_E.sn 1 (pc' := 101) (L' := [.int a0, .int a1]) (S' := [.int (0 : Int32)]) (σ' := (97, I, J, R)) rfl ?_
                        have h := Option.some.inj h
                        subst h
                        exact az_E.ret (v := some (.int (0 : Int32))) (σ' := (97, I, J, R)) rfl hQ
                    · rw [if_neg hc_14] at h
                      refine az_E.lwd (df := 145) (ps := #[(37, 134), (38, 101), (42, 134), (43, 123), (45, 123), (47, 134), (60, 112), (61, 112), (62, 112), (124, 91)]) (a := 146) rfl (by show Op.lookupswitch.offset [(37, 134), (38, 101), (42, 134), (43, 123), (45, 123), (47, 134), (60, 112), (61, 112), (62, 112), (124, 91)] _ _ = _; rw [lv_osw hc_1 (by decide), lv_osw hc_3 (by decide), lv_osw hc_5 (by decide), lv_osw hc_6 (by decide), lv_osw hc_8 (by decide), lv_osw hc_9 (by decide), lv_osw hc_10 (by decide), lv_osw hc_12 (by decide), lv_osw hc_13 (by decide), lv_osw hc_14 (by decide)]; rfl) (by decide) ?_
                      refine az_E.sn 1 (pc' := 147) (L' := [.int a0, .int a1]) (S' := [.int (0 : Int32)]) (σ' := (97, I, J, R)) rfl ?_
                      have h := Option.some.inj h
                      subst h
                      exact az_E.ret (v := some (.int (0 : Int32))) (σ' := (97, I, J, R)) rfl hQ
set_option maxRecDepth 100000 in
set_option maxHeartbeats 4000000 in
theorem re_La_add_21 {ex : az_X} {I : Nat → Nat → Int32} {J : Nat → Nat → Int64} {R : Nat → Nat → Option Nat} {a1 : Int32} {a2 : Int32} {o : Int32 × (Nat → Nat → Int32)} (h : rs_La_add 21 I a1 a2 = some o) {Q : Option Value → az_S → Prop} (hQ : Q (some (.int o.1)) (97, o.2, J, R)) : az_E az_F ex 0 28 0 [.ref 21, .int a1, .int a2] [] (97, I, J, R) Q := by
  unfold rs_La_add at h
  refine az_E.sn 3 (pc' := 6) (L' := [.ref 21, .int a1, .int a2]) (S' := [.int (121 : Int32), .int (I 21 4)]) (σ' := (97, I, J, R)) rfl ?_
  refine az_E.br (c := (I 21 4) < (121 : Int32)) (tt := 14) (ff := 9) (L' := [.ref 21, .int a1, .int a2]) (S' := []) (σ' := (97, I, J, R)) rfl (fun hc_1 => ?_) (fun hc_1 => ?_)
  · rw [if_pos hc_1] at h
    refine az_E.sn 5 (pc' := 23) (L' := [.ref 21, .int a1, .int a2]) (S' := [.int a1, .int (I 21 4), .ref (21 + 1)]) (σ' := (97, I, J, R)) rfl ?_
    by_cases hc_2 : (I 21 4) < 0 ∨ 121 ≤ (I 21 4).toNatClampNeg
    · rw [if_pos hc_2] at h; cases h
    · rw [if_neg hc_2] at h
      refine az_E.o (o := az_si az_F (97, I, J, R) (21 + 1) (I 21 4) a1) (pc' := 24) (L' := [.ref 21, .int a1, .int a2]) (S' := []) (x := (97, (az_u I (21 + 1) (I 21 4).toNatClampNeg a1), J, R)) rfl (if_neg hc_2) ?_
      refine az_E.sn 5 (pc' := 33) (L' := [.ref 21, .int a1, .int a2]) (S' := [.int a2, .int (I 21 4), .ref (21 + 2)]) (σ' := (97, (az_u I (21 + 1) (I 21 4).toNatClampNeg a1), J, R)) rfl ?_
      by_cases hc_3 : (I 21 4) < 0 ∨ 121 ≤ (I 21 4).toNatClampNeg
      · rw [if_pos hc_3] at h; cases h
      · rw [if_neg hc_3] at h
        refine az_E.o (o := az_si az_F (97, (az_u I (21 + 1) (I 21 4).toNatClampNeg a1), J, R) (21 + 2) (I 21 4) a2) (pc' := 34) (L' := [.ref 21, .int a1, .int a2]) (S' := []) (x := (97, (az_u (az_u I (21 + 1) (I 21 4).toNatClampNeg a1) (21 + 2) (I 21 4).toNatClampNeg a2), J, R)) rfl (if_neg hc_3) ?_
        refine az_E.sn 7 (pc' := 45) (L' := [.ref 21, .int a1, .int a2]) (S' := [.int (I 21 4)]) (σ' := (97, (az_u (az_u (az_u I (21 + 1) (I 21 4).toNatClampNeg a1) (21 + 2) (I 21 4).toNatClampNeg a2) 21 4 ((I 21 4) + (1 : Int32))), J, R)) rfl ?_
        have h := Option.some.inj h
        subst h
        exact az_E.ret (v := some (.int (I 21 4))) (σ' := (97, (az_u (az_u (az_u I (21 + 1) (I 21 4).toNatClampNeg a1) (21 + 2) (I 21 4).toNatClampNeg a2) 21 4 ((I 21 4) + (1 : Int32))), J, R)) rfl hQ
  · rw [if_neg hc_1] at h
    refine az_E.sn 2 (pc' := 13) (L' := [.ref 21, .int a1, .int a2]) (S' := [.int (I 21 4)]) (σ' := (97, I, J, R)) rfl ?_
    have h := Option.some.inj h
    subst h
    exact az_E.ret (v := some (.int (I 21 4))) (σ' := (97, I, J, R)) rfl hQ
set_option maxRecDepth 100000 in
set_option maxHeartbeats 4000000 in
theorem re_Ta_readLevel_21_b_21 {rec : az_GT} {d : Nat} {ex : az_X} {I : Nat → Nat → Int32} {J : Nat → Nat → Int64} {R : Nat → Nat → Option Nat} {v1 : Int32} {v2 : Int32} {v3 : Int32} (hg_69 : ∀ (b1 b2 b3 b4 : Int32) (I : Nat → Nat → Int32) (o : Int32 × (Nat → Nat → Int32)), rec 69 b1 b2 b3 b4 I = some o → ∀ {J : Nat → Nat → Int64} {R : Nat → Nat → Option Nat} {Q : Option Value → az_S → Prop}, R 14 4 = some 21 → Q none (97, o.2, J, R) → az_E az_F ex d 69 0 [.ref 14, .int b1, .int b2, .retAddr 0, .retAddr 0] [] (97, I, J, R) Q) (hg_71 : ∀ (b1 b2 b3 b4 : Int32) (I : Nat → Nat → Int32) (o : Int32 × (Nat → Nat → Int32)), rec 71 b1 b2 b3 b4 I = some o → ∀ {J : Nat → Nat → Int64} {R : Nat → Nat → Option Nat} {Q : Option Value → az_S → Prop}, R 14 4 = some 21 → Q none (97, o.2, J, R) → az_E az_F ex d 71 0 [.ref 14, .int b1, .retAddr 0] [] (97, I, J, R) Q) (hR_14_4 : R 14 4 = some 21) {x : ((Int32 × (Nat → Nat → Int32)) ⊕ ((Nat → Nat → Int32)))} (h : rs_Ta_readLevel_21_b rec 21 v1 v2 v3 I = some x) {Q : Option Value → az_S → Prop} (hQ : Sum.elim (fun s => az_E az_F ex (d + 2) 69 21 [.ref 14, .int v1, .int v2, .int s.1, .retAddr 0] [] (97, s.2, J, R) Q) (fun x => Q none (97, x, J, R)) x) : az_E az_F ex (d + 2) 69 21 [.ref 14, .int v1, .int v2, .int v3, .retAddr 0] [] (97, I, J, R) Q := by
  unfold rs_Ta_readLevel_21_b at h
  refine az_E.sn 2 (pc' := 24) (L' := [.ref 14, .int v1, .int v2, .int v3, .retAddr 0]) (S' := [.int (120 : Int32), .int v3]) (σ' := (97, I, J, R)) rfl ?_
  refine az_E.br (c := (120 : Int32) ≤ v3) (tt := 92) (ff := 27) (L' := [.ref 14, .int v1, .int v2, .int v3, .retAddr 0]) (S' := []) (σ' := (97, I, J, R)) rfl (fun hc_5 => ?_) (fun hc_5 => ?_)
  · rw [if_pos hc_5] at h
    have h := Option.some.inj h
    subst h
    exact az_E.ret (v := none) (σ' := (97, I, J, R)) rfl hQ
  · rw [if_neg hc_5] at h
    refine az_E.sn 2 (pc' := 31) (L' := [.ref 14, .int v1, .int v2, .int v3, .retAddr 0]) (S' := [.int (I 14 3)]) (σ' := (97, I, J, R)) rfl ?_
    refine az_E.br (c := 0 ≤ (I 14 3)) (tt := 92) (ff := 34) (L' := [.ref 14, .int v1, .int v2, .int v3, .retAddr 0]) (S' := []) (σ' := (97, I, J, R)) rfl (fun hc_6 => ?_) (fun hc_6 => ?_)
    · rw [if_pos hc_6] at h
      have h := Option.some.inj h
      subst h
      exact az_E.ret (v := none) (σ' := (97, I, J, R)) rfl hQ
    · rw [if_neg hc_6] at h
      refine az_E.sn 2 (pc' := 36) (L' := [.ref 14, .int v1, .int v2, .int v3, .retAddr 0]) (S' := [.ref 14, .int v1]) (σ' := (97, I, J, R)) rfl ?_
      refine az_E.call (d := (d + 1)) (k' := 66) (vs := [.ref 14]) (pc' := 39) (S' := [.int v1]) rfl ?_ (fun _ _ hq => hq)
      show az_E az_F ex (d + 1) 66 0 [.ref 14] [] (97, I, J, R) _
      refine az_E.sn 2 (pc' := 4) (L' := [.ref 14]) (S' := [.int (I 14 2)]) (σ' := (97, I, J, R)) rfl ?_
      refine az_E.br (c := (I 14 2) < 0) (tt := 30) (ff := 7) (L' := [.ref 14]) (S' := []) (σ' := (97, I, J, R)) rfl (fun hc_7 => ?_) (fun hc_7 => ?_)
      · rw [if_pos hc_7] at h
        refine az_E.sn 1 (pc' := 31) (L' := [.ref 14]) (S' := [.int (-1 : Int32)]) (σ' := (97, I, J, R)) rfl ?_
        refine az_E.ret (v := some (.int (-1 : Int32))) (σ' := (97, I, J, R)) rfl ?_
        show az_E az_F ex (d + 2) 69 39 [.ref 14, .int v1, .int v2, .int v3, .retAddr 0] [.int (-1 : Int32), .int v1] (97, I, J, R) _
        cases hx_9 : rs_Ta_joinsAt v1 (-1 : Int32) with
        | none => rw [hx_9] at h; cases h
        | some x_8 =>
          rw [hx_9] at h
          dsimp only at h
          refine az_E.call (d := (d + 1)) (k' := 70) (vs := [.int v1, .int (-1 : Int32)]) (pc' := 42) (S' := []) (Q1 := fun v s => v = some (.int x_8) ∧ s = (97, I, J, R)) rfl (az_E.deep (by omega) (re_Ta_joinsAt (J := J) (R := R)  hx_9 ⟨rfl, rfl⟩)) (fun v s hq => ?_)
          obtain ⟨rfl, rfl⟩ := hq
          show az_E az_F ex (d + 2) 69 42 [.ref 14, .int v1, .int v2, .int v3, .retAddr 0] [.int x_8] (97, I, J, R) _
          refine az_E.br (c := x_8 = 0) (tt := 92) (ff := 45) (L' := [.ref 14, .int v1, .int v2, .int v3, .retAddr 0]) (S' := []) (σ' := (97, I, J, R)) rfl (fun hc_10 => ?_) (fun hc_10 => ?_)
          · rw [if_pos hc_10] at h
            have h := Option.some.inj h
            subst h
            exact az_E.ret (v := none) (σ' := (97, I, J, R)) rfl hQ
          · rw [if_neg hc_10] at h
            refine az_E.sn 1 (pc' := 46) (L' := [.ref 14, .int v1, .int v2, .int v3, .retAddr 0]) (S' := [.ref 14]) (σ' := (97, I, J, R)) rfl ?_
            refine az_E.call (d := (d + 1)) (k' := 66) (vs := [.ref 14]) (pc' := 49) (S' := []) rfl ?_ (fun _ _ hq => hq)
            show az_E az_F ex (d + 1) 66 0 [.ref 14] [] (97, I, J, R) _
            refine az_E.sn 2 (pc' := 4) (L' := [.ref 14]) (S' := [.int (I 14 2)]) (σ' := (97, I, J, R)) rfl ?_
            refine az_E.br (c := (I 14 2) < 0) (tt := 30) (ff := 7) (L' := [.ref 14]) (S' := []) (σ' := (97, I, J, R)) rfl (fun hc_11 => ?_) (fun hc_11 => ?_)
            · rw [if_pos hc_11] at h
              refine az_E.sn 1 (pc' := 31) (L' := [.ref 14]) (S' := [.int (-1 : Int32)]) (σ' := (97, I, J, R)) rfl ?_
              refine az_E.ret (v := some (.int (-1 : Int32))) (σ' := (97, I, J, R)) rfl ?_
              show az_E az_F ex (d + 2) 69 49 [.ref 14, .int v1, .int v2, .int v3, .retAddr 0] [.int (-1 : Int32)] (97, I, J, R) _
              refine az_E.sn 12 (pc' := 66) (L' := [.ref 14, .int v1, .int v2, .int v3, .int (-1 : Int32)]) (S' := [.int v2, .int (v1 + (1 : Int32)), .ref 14]) (σ' := (97, (az_u I 14 2 ((I 14 2) + (1 : Int32))), J, R)) rfl ?_
              cases hx_14 : rec 69 (v1 + (1 : Int32)) v2 0 0 (az_u I 14 2 ((I 14 2) + (1 : Int32))) with
              | none => rw [hx_14] at h; cases h
              | some o =>
                rw [hx_14] at h
                obtain ⟨x_12, I_13⟩ := o
                dsimp only at h
                refine az_E.call (d := (d + 1)) (k' := 69) (vs := [.ref 14, .int (v1 + (1 : Int32)), .int v2]) (pc' := 69) (S' := []) (Q1 := fun v s => v = none ∧ s = (97, I_13, J, R)) rfl (az_E.deep (by omega) (hg_69 _ _ _ _ _ _ hx_14 (J := J) (R := R) hR_14_4 ⟨rfl, rfl⟩)) (fun v s hq => ?_)
                obtain ⟨rfl, rfl⟩ := hq
                show az_E az_F ex (d + 2) 69 69 [.ref 14, .int v1, .int v2, .int v3, .int (-1 : Int32)] [] (97, I_13, J, R) _
                refine az_E.sn 1 (pc' := 70) (L' := [.ref 14, .int v1, .int v2, .int v3, .int (-1 : Int32)]) (S' := [.ref 14]) (σ' := (97, I_13, J, R)) rfl ?_
                refine az_E.ov (pc' := 73) (L' := [.ref 14, .int v1, .int v2, .int v3, .int (-1 : Int32)]) (S' := []) (σ' := (97, I_13, J, R)) (x := .ref 21) rfl (congrArg (fun z => some (va_rf z)) hR_14_4) ?_
                refine az_E.sn 2 (pc' := 76) (L' := [.ref 14, .int v1, .int v2, .int v3, .int (-1 : Int32)]) (S' := [.int (0 : Int32), .int (-1 : Int32), .ref 21]) (σ' := (97, I_13, J, R)) rfl ?_
                cases hx_17 : rs_La_add 21 I_13 (-1 : Int32) (0 : Int32) with
                | none => rw [hx_17] at h; cases h
                | some o =>
                  rw [hx_17] at h
                  obtain ⟨x_15, I_16⟩ := o
                  dsimp only at h
                  refine az_E.call (d := (d + 1)) (k' := 28) (vs := [.ref 21, .int (-1 : Int32), .int (0 : Int32)]) (pc' := 79) (S' := []) (Q1 := fun v s => v = some (.int x_15) ∧ s = (97, I_16, J, R)) rfl (az_E.deep (by omega) (re_La_add_21 (J := J) (R := R)  hx_17 ⟨rfl, rfl⟩)) (fun v s hq => ?_)
                  obtain ⟨rfl, rfl⟩ := hq
                  show az_E az_F ex (d + 2) 69 79 [.ref 14, .int v1, .int v2, .int v3, .int (-1 : Int32)] [.int x_15] (97, I_16, J, R) _
                  refine az_E.sn 3 (pc' := 82) (L' := [.ref 14, .int v1, .int v2, .int v3, .int (-1 : Int32)]) (S' := [.int (2 : Int32), .int v1]) (σ' := (97, I_16, J, R)) rfl ?_
                  refine az_E.br (c := v1 = (2 : Int32)) (tt := 85) (ff := 86) (L' := [.ref 14, .int v1, .int v2, .int v3, .int (-1 : Int32)]) (S' := []) (σ' := (97, I_16, J, R)) rfl (fun hc_18 => ?_) (fun hc_18 => ?_)
                  · rw [if_pos hc_18] at h
                    have h := Option.some.inj h
                    subst h
                    exact az_E.ret (v := none) (σ' := (97, I_16, J, R)) rfl hQ
                  · rw [if_neg hc_18] at h
                    refine az_E.sn 2 (pc' := 21) (L' := [.ref 14, .int v1, .int v2, .int (v3 + (1 : Int32)), .int (-1 : Int32)]) (S' := []) (σ' := (97, I_16, J, R)) rfl ?_
                    have h := Option.some.inj h
                    subst h
                    exact az_E.forget (L := [.ref 14, .int v1, .int v2, .int (v3 + (1 : Int32)), .retAddr 0]) ⟨rfl, rfl, rfl, rfl, trivial, trivial⟩ hQ
            · rw [if_neg hc_11] at h
              refine az_E.sn 4 (pc' := 15) (L' := [.ref 14]) (S' := [.int (I 14 1), .int (I 14 2)]) (σ' := (97, I, J, R)) rfl ?_
              refine az_E.br (c := (I 14 1) ≤ (I 14 2)) (tt := 30) (ff := 18) (L' := [.ref 14]) (S' := []) (σ' := (97, I, J, R)) rfl (fun hc_19 => ?_) (fun hc_19 => ?_)
              · rw [if_pos hc_19] at h
                refine az_E.sn 1 (pc' := 31) (L' := [.ref 14]) (S' := [.int (-1 : Int32)]) (σ' := (97, I, J, R)) rfl ?_
                refine az_E.ret (v := some (.int (-1 : Int32))) (σ' := (97, I, J, R)) rfl ?_
                show az_E az_F ex (d + 2) 69 49 [.ref 14, .int v1, .int v2, .int v3, .retAddr 0] [.int (-1 : Int32)] (97, I, J, R) _
                refine az_E.sn 12 (pc' := 66) (L' := [.ref 14, .int v1, .int v2, .int v3, .int (-1 : Int32)]) (S' := [.int v2, .int (v1 + (1 : Int32)), .ref 14]) (σ' := (97, (az_u I 14 2 ((I 14 2) + (1 : Int32))), J, R)) rfl ?_
                cases hx_22 : rec 69 (v1 + (1 : Int32)) v2 0 0 (az_u I 14 2 ((I 14 2) + (1 : Int32))) with
                | none => rw [hx_22] at h; cases h
                | some o =>
                  rw [hx_22] at h
                  obtain ⟨x_20, I_21⟩ := o
                  dsimp only at h
                  refine az_E.call (d := (d + 1)) (k' := 69) (vs := [.ref 14, .int (v1 + (1 : Int32)), .int v2]) (pc' := 69) (S' := []) (Q1 := fun v s => v = none ∧ s = (97, I_21, J, R)) rfl (az_E.deep (by omega) (hg_69 _ _ _ _ _ _ hx_22 (J := J) (R := R) hR_14_4 ⟨rfl, rfl⟩)) (fun v s hq => ?_)
                  obtain ⟨rfl, rfl⟩ := hq
                  show az_E az_F ex (d + 2) 69 69 [.ref 14, .int v1, .int v2, .int v3, .int (-1 : Int32)] [] (97, I_21, J, R) _
                  refine az_E.sn 1 (pc' := 70) (L' := [.ref 14, .int v1, .int v2, .int v3, .int (-1 : Int32)]) (S' := [.ref 14]) (σ' := (97, I_21, J, R)) rfl ?_
                  refine az_E.ov (pc' := 73) (L' := [.ref 14, .int v1, .int v2, .int v3, .int (-1 : Int32)]) (S' := []) (σ' := (97, I_21, J, R)) (x := .ref 21) rfl (congrArg (fun z => some (va_rf z)) hR_14_4) ?_
                  refine az_E.sn 2 (pc' := 76) (L' := [.ref 14, .int v1, .int v2, .int v3, .int (-1 : Int32)]) (S' := [.int (0 : Int32), .int (-1 : Int32), .ref 21]) (σ' := (97, I_21, J, R)) rfl ?_
                  cases hx_25 : rs_La_add 21 I_21 (-1 : Int32) (0 : Int32) with
                  | none => rw [hx_25] at h; cases h
                  | some o =>
                    rw [hx_25] at h
                    obtain ⟨x_23, I_24⟩ := o
                    dsimp only at h
                    refine az_E.call (d := (d + 1)) (k' := 28) (vs := [.ref 21, .int (-1 : Int32), .int (0 : Int32)]) (pc' := 79) (S' := []) (Q1 := fun v s => v = some (.int x_23) ∧ s = (97, I_24, J, R)) rfl (az_E.deep (by omega) (re_La_add_21 (J := J) (R := R)  hx_25 ⟨rfl, rfl⟩)) (fun v s hq => ?_)
                    obtain ⟨rfl, rfl⟩ := hq
                    show az_E az_F ex (d + 2) 69 79 [.ref 14, .int v1, .int v2, .int v3, .int (-1 : Int32)] [.int x_23] (97, I_24, J, R) _
                    refine az_E.sn 3 (pc' := 82) (L' := [.ref 14, .int v1, .int v2, .int v3, .int (-1 : Int32)]) (S' := [.int (2 : Int32), .int v1]) (σ' := (97, I_24, J, R)) rfl ?_
                    refine az_E.br (c := v1 = (2 : Int32)) (tt := 85) (ff := 86) (L' := [.ref 14, .int v1, .int v2, .int v3, .int (-1 : Int32)]) (S' := []) (σ' := (97, I_24, J, R)) rfl (fun hc_26 => ?_) (fun hc_26 => ?_)
                    · rw [if_pos hc_26] at h
                      have h := Option.some.inj h
                      subst h
                      exact az_E.ret (v := none) (σ' := (97, I_24, J, R)) rfl hQ
                    · rw [if_neg hc_26] at h
                      refine az_E.sn 2 (pc' := 21) (L' := [.ref 14, .int v1, .int v2, .int (v3 + (1 : Int32)), .int (-1 : Int32)]) (S' := []) (σ' := (97, I_24, J, R)) rfl ?_
                      have h := Option.some.inj h
                      subst h
                      exact az_E.forget (L := [.ref 14, .int v1, .int v2, .int (v3 + (1 : Int32)), .retAddr 0]) ⟨rfl, rfl, rfl, rfl, trivial, trivial⟩ hQ
              · rw [if_neg hc_19] at h
                refine az_E.sn 4 (pc' := 26) (L' := [.ref 14]) (S' := [.int (I 14 2), .ref 15]) (σ' := (97, I, J, R)) rfl ?_
                by_cases hc_27 : (I 14 2) < 0 ∨ 120 ≤ (I 14 2).toNatClampNeg
                · rw [if_pos hc_27] at h; cases h
                · rw [if_neg hc_27] at h
                  refine az_E.oi (o := az_ai az_F ex (97, I, J, R) 15 (I 14 2)) (pc' := 27) (L' := [.ref 14]) (S' := []) (σ' := (97, I, J, R)) (x := (I 15 (I 14 2).toNatClampNeg)) rfl (if_neg hc_27) ?_
                  refine az_E.sn 1 (pc' := 31) (L' := [.ref 14]) (S' := [.int (I 15 (I 14 2).toNatClampNeg)]) (σ' := (97, I, J, R)) rfl ?_
                  refine az_E.ret (v := some (.int (I 15 (I 14 2).toNatClampNeg))) (σ' := (97, I, J, R)) rfl ?_
                  show az_E az_F ex (d + 2) 69 49 [.ref 14, .int v1, .int v2, .int v3, .retAddr 0] [.int (I 15 (I 14 2).toNatClampNeg)] (97, I, J, R) _
                  refine az_E.sn 12 (pc' := 66) (L' := [.ref 14, .int v1, .int v2, .int v3, .int (I 15 (I 14 2).toNatClampNeg)]) (S' := [.int v2, .int (v1 + (1 : Int32)), .ref 14]) (σ' := (97, (az_u I 14 2 ((I 14 2) + (1 : Int32))), J, R)) rfl ?_
                  cases hx_30 : rec 69 (v1 + (1 : Int32)) v2 0 0 (az_u I 14 2 ((I 14 2) + (1 : Int32))) with
                  | none => rw [hx_30] at h; cases h
                  | some o =>
                    rw [hx_30] at h
                    obtain ⟨x_28, I_29⟩ := o
                    dsimp only at h
                    refine az_E.call (d := (d + 1)) (k' := 69) (vs := [.ref 14, .int (v1 + (1 : Int32)), .int v2]) (pc' := 69) (S' := []) (Q1 := fun v s => v = none ∧ s = (97, I_29, J, R)) rfl (az_E.deep (by omega) (hg_69 _ _ _ _ _ _ hx_30 (J := J) (R := R) hR_14_4 ⟨rfl, rfl⟩)) (fun v s hq => ?_)
                    obtain ⟨rfl, rfl⟩ := hq
                    show az_E az_F ex (d + 2) 69 69 [.ref 14, .int v1, .int v2, .int v3, .int (I 15 (I 14 2).toNatClampNeg)] [] (97, I_29, J, R) _
                    refine az_E.sn 1 (pc' := 70) (L' := [.ref 14, .int v1, .int v2, .int v3, .int (I 15 (I 14 2).toNatClampNeg)]) (S' := [.ref 14]) (σ' := (97, I_29, J, R)) rfl ?_
                    refine az_E.ov (pc' := 73) (L' := [.ref 14, .int v1, .int v2, .int v3, .int (I 15 (I 14 2).toNatClampNeg)]) (S' := []) (σ' := (97, I_29, J, R)) (x := .ref 21) rfl (congrArg (fun z => some (va_rf z)) hR_14_4) ?_
                    refine az_E.sn 2 (pc' := 76) (L' := [.ref 14, .int v1, .int v2, .int v3, .int (I 15 (I 14 2).toNatClampNeg)]) (S' := [.int (0 : Int32), .int (I 15 (I 14 2).toNatClampNeg), .ref 21]) (σ' := (97, I_29, J, R)) rfl ?_
                    cases hx_33 : rs_La_add 21 I_29 (I 15 (I 14 2).toNatClampNeg) (0 : Int32) with
                    | none => rw [hx_33] at h; cases h
                    | some o =>
                      rw [hx_33] at h
                      obtain ⟨x_31, I_32⟩ := o
                      dsimp only at h
                      refine az_E.call (d := (d + 1)) (k' := 28) (vs := [.ref 21, .int (I 15 (I 14 2).toNatClampNeg), .int (0 : Int32)]) (pc' := 79) (S' := []) (Q1 := fun v s => v = some (.int x_31) ∧ s = (97, I_32, J, R)) rfl (az_E.deep (by omega) (re_La_add_21 (J := J) (R := R)  hx_33 ⟨rfl, rfl⟩)) (fun v s hq => ?_)
                      obtain ⟨rfl, rfl⟩ := hq
                      show az_E az_F ex (d + 2) 69 79 [.ref 14, .int v1, .int v2, .int v3, .int (I 15 (I 14 2).toNatClampNeg)] [.int x_31] (97, I_32, J, R) _
                      refine az_E.sn 3 (pc' := 82) (L' := [.ref 14, .int v1, .int v2, .int v3, .int (I 15 (I 14 2).toNatClampNeg)]) (S' := [.int (2 : Int32), .int v1]) (σ' := (97, I_32, J, R)) rfl ?_
                      refine az_E.br (c := v1 = (2 : Int32)) (tt := 85) (ff := 86) (L' := [.ref 14, .int v1, .int v2, .int v3, .int (I 15 (I 14 2).toNatClampNeg)]) (S' := []) (σ' := (97, I_32, J, R)) rfl (fun hc_34 => ?_) (fun hc_34 => ?_)
                      · rw [if_pos hc_34] at h
                        have h := Option.some.inj h
                        subst h
                        exact az_E.ret (v := none) (σ' := (97, I_32, J, R)) rfl hQ
                      · rw [if_neg hc_34] at h
                        refine az_E.sn 2 (pc' := 21) (L' := [.ref 14, .int v1, .int v2, .int (v3 + (1 : Int32)), .int (I 15 (I 14 2).toNatClampNeg)]) (S' := []) (σ' := (97, I_32, J, R)) rfl ?_
                        have h := Option.some.inj h
                        subst h
                        exact az_E.forget (L := [.ref 14, .int v1, .int v2, .int (v3 + (1 : Int32)), .retAddr 0]) ⟨rfl, rfl, rfl, rfl, trivial, trivial⟩ hQ
      · rw [if_neg hc_7] at h
        refine az_E.sn 4 (pc' := 15) (L' := [.ref 14]) (S' := [.int (I 14 1), .int (I 14 2)]) (σ' := (97, I, J, R)) rfl ?_
        refine az_E.br (c := (I 14 1) ≤ (I 14 2)) (tt := 30) (ff := 18) (L' := [.ref 14]) (S' := []) (σ' := (97, I, J, R)) rfl (fun hc_35 => ?_) (fun hc_35 => ?_)
        · rw [if_pos hc_35] at h
          refine az_E.sn 1 (pc' := 31) (L' := [.ref 14]) (S' := [.int (-1 : Int32)]) (σ' := (97, I, J, R)) rfl ?_
          refine az_E.ret (v := some (.int (-1 : Int32))) (σ' := (97, I, J, R)) rfl ?_
          show az_E az_F ex (d + 2) 69 39 [.ref 14, .int v1, .int v2, .int v3, .retAddr 0] [.int (-1 : Int32), .int v1] (97, I, J, R) _
          cases hx_37 : rs_Ta_joinsAt v1 (-1 : Int32) with
          | none => rw [hx_37] at h; cases h
          | some x_36 =>
            rw [hx_37] at h
            dsimp only at h
            refine az_E.call (d := (d + 1)) (k' := 70) (vs := [.int v1, .int (-1 : Int32)]) (pc' := 42) (S' := []) (Q1 := fun v s => v = some (.int x_36) ∧ s = (97, I, J, R)) rfl (az_E.deep (by omega) (re_Ta_joinsAt (J := J) (R := R)  hx_37 ⟨rfl, rfl⟩)) (fun v s hq => ?_)
            obtain ⟨rfl, rfl⟩ := hq
            show az_E az_F ex (d + 2) 69 42 [.ref 14, .int v1, .int v2, .int v3, .retAddr 0] [.int x_36] (97, I, J, R) _
            refine az_E.br (c := x_36 = 0) (tt := 92) (ff := 45) (L' := [.ref 14, .int v1, .int v2, .int v3, .retAddr 0]) (S' := []) (σ' := (97, I, J, R)) rfl (fun hc_38 => ?_) (fun hc_38 => ?_)
            · rw [if_pos hc_38] at h
              have h := Option.some.inj h
              subst h
              exact az_E.ret (v := none) (σ' := (97, I, J, R)) rfl hQ
            · rw [if_neg hc_38] at h
              refine az_E.sn 1 (pc' := 46) (L' := [.ref 14, .int v1, .int v2, .int v3, .retAddr 0]) (S' := [.ref 14]) (σ' := (97, I, J, R)) rfl ?_
              refine az_E.call (d := (d + 1)) (k' := 66) (vs := [.ref 14]) (pc' := 49) (S' := []) rfl ?_ (fun _ _ hq => hq)
              show az_E az_F ex (d + 1) 66 0 [.ref 14] [] (97, I, J, R) _
              refine az_E.sn 2 (pc' := 4) (L' := [.ref 14]) (S' := [.int (I 14 2)]) (σ' := (97, I, J, R)) rfl ?_
              refine az_E.br (c := (I 14 2) < 0) (tt := 30) (ff := 7) (L' := [.ref 14]) (S' := []) (σ' := (97, I, J, R)) rfl (fun hc_39 => ?_) (fun hc_39 => ?_)
              · rw [if_pos hc_39] at h
                refine az_E.sn 1 (pc' := 31) (L' := [.ref 14]) (S' := [.int (-1 : Int32)]) (σ' := (97, I, J, R)) rfl ?_
                refine az_E.ret (v := some (.int (-1 : Int32))) (σ' := (97, I, J, R)) rfl ?_
                show az_E az_F ex (d + 2) 69 49 [.ref 14, .int v1, .int v2, .int v3, .retAddr 0] [.int (-1 : Int32)] (97, I, J, R) _
                refine az_E.sn 12 (pc' := 66) (L' := [.ref 14, .int v1, .int v2, .int v3, .int (-1 : Int32)]) (S' := [.int v2, .int (v1 + (1 : Int32)), .ref 14]) (σ' := (97, (az_u I 14 2 ((I 14 2) + (1 : Int32))), J, R)) rfl ?_
                cases hx_42 : rec 69 (v1 + (1 : Int32)) v2 0 0 (az_u I 14 2 ((I 14 2) + (1 : Int32))) with
                | none => rw [hx_42] at h; cases h
                | some o =>
                  rw [hx_42] at h
                  obtain ⟨x_40, I_41⟩ := o
                  dsimp only at h
                  refine az_E.call (d := (d + 1)) (k' := 69) (vs := [.ref 14, .int (v1 + (1 : Int32)), .int v2]) (pc' := 69) (S' := []) (Q1 := fun v s => v = none ∧ s = (97, I_41, J, R)) rfl (az_E.deep (by omega) (hg_69 _ _ _ _ _ _ hx_42 (J := J) (R := R) hR_14_4 ⟨rfl, rfl⟩)) (fun v s hq => ?_)
                  obtain ⟨rfl, rfl⟩ := hq
                  show az_E az_F ex (d + 2) 69 69 [.ref 14, .int v1, .int v2, .int v3, .int (-1 : Int32)] [] (97, I_41, J, R) _
                  refine az_E.sn 1 (pc' := 70) (L' := [.ref 14, .int v1, .int v2, .int v3, .int (-1 : Int32)]) (S' := [.ref 14]) (σ' := (97, I_41, J, R)) rfl ?_
                  refine az_E.ov (pc' := 73) (L' := [.ref 14, .int v1, .int v2, .int v3, .int (-1 : Int32)]) (S' := []) (σ' := (97, I_41, J, R)) (x := .ref 21) rfl (congrArg (fun z => some (va_rf z)) hR_14_4) ?_
                  refine az_E.sn 2 (pc' := 76) (L' := [.ref 14, .int v1, .int v2, .int v3, .int (-1 : Int32)]) (S' := [.int (0 : Int32), .int (-1 : Int32), .ref 21]) (σ' := (97, I_41, J, R)) rfl ?_
                  cases hx_45 : rs_La_add 21 I_41 (-1 : Int32) (0 : Int32) with
                  | none => rw [hx_45] at h; cases h
                  | some o =>
                    rw [hx_45] at h
                    obtain ⟨x_43, I_44⟩ := o
                    dsimp only at h
                    refine az_E.call (d := (d + 1)) (k' := 28) (vs := [.ref 21, .int (-1 : Int32), .int (0 : Int32)]) (pc' := 79) (S' := []) (Q1 := fun v s => v = some (.int x_43) ∧ s = (97, I_44, J, R)) rfl (az_E.deep (by omega) (re_La_add_21 (J := J) (R := R)  hx_45 ⟨rfl, rfl⟩)) (fun v s hq => ?_)
                    obtain ⟨rfl, rfl⟩ := hq
                    show az_E az_F ex (d + 2) 69 79 [.ref 14, .int v1, .int v2, .int v3, .int (-1 : Int32)] [.int x_43] (97, I_44, J, R) _
                    refine az_E.sn 3 (pc' := 82) (L' := [.ref 14, .int v1, .int v2, .int v3, .int (-1 : Int32)]) (S' := [.int (2 : Int32), .int v1]) (σ' := (97, I_44, J, R)) rfl ?_
                    refine az_E.br (c := v1 = (2 : Int32)) (tt := 85) (ff := 86) (L' := [.ref 14, .int v1, .int v2, .int v3, .int (-1 : Int32)]) (S' := []) (σ' := (97, I_44, J, R)) rfl (fun hc_46 => ?_) (fun hc_46 => ?_)
                    · rw [if_pos hc_46] at h
                      have h := Option.some.inj h
                      subst h
                      exact az_E.ret (v := none) (σ' := (97, I_44, J, R)) rfl hQ
                    · rw [if_neg hc_46] at h
                      refine az_E.sn 2 (pc' := 21) (L' := [.ref 14, .int v1, .int v2, .int (v3 + (1 : Int32)), .int (-1 : Int32)]) (S' := []) (σ' := (97, I_44, J, R)) rfl ?_
                      have h := Option.some.inj h
                      subst h
                      exact az_E.forget (L := [.ref 14, .int v1, .int v2, .int (v3 + (1 : Int32)), .retAddr 0]) ⟨rfl, rfl, rfl, rfl, trivial, trivial⟩ hQ
              · rw [if_neg hc_39] at h
                refine az_E.sn 4 (pc' := 15) (L' := [.ref 14]) (S' := [.int (I 14 1), .int (I 14 2)]) (σ' := (97, I, J, R)) rfl ?_
                refine az_E.br (c := (I 14 1) ≤ (I 14 2)) (tt := 30) (ff := 18) (L' := [.ref 14]) (S' := []) (σ' := (97, I, J, R)) rfl (fun hc_47 => ?_) (fun hc_47 => ?_)
                · rw [if_pos hc_47] at h
                  refine az_E.sn 1 (pc' := 31) (L' := [.ref 14]) (S' := [.int (-1 : Int32)]) (σ' := (97, I, J, R)) rfl ?_
                  refine az_E.ret (v := some (.int (-1 : Int32))) (σ' := (97, I, J, R)) rfl ?_
                  show az_E az_F ex (d + 2) 69 49 [.ref 14, .int v1, .int v2, .int v3, .retAddr 0] [.int (-1 : Int32)] (97, I, J, R) _
                  refine az_E.sn 12 (pc' := 66) (L' := [.ref 14, .int v1, .int v2, .int v3, .int (-1 : Int32)]) (S' := [.int v2, .int (v1 + (1 : Int32)), .ref 14]) (σ' := (97, (az_u I 14 2 ((I 14 2) + (1 : Int32))), J, R)) rfl ?_
                  cases hx_50 : rec 69 (v1 + (1 : Int32)) v2 0 0 (az_u I 14 2 ((I 14 2) + (1 : Int32))) with
                  | none => rw [hx_50] at h; cases h
                  | some o =>
                    rw [hx_50] at h
                    obtain ⟨x_48, I_49⟩ := o
                    dsimp only at h
                    refine az_E.call (d := (d + 1)) (k' := 69) (vs := [.ref 14, .int (v1 + (1 : Int32)), .int v2]) (pc' := 69) (S' := []) (Q1 := fun v s => v = none ∧ s = (97, I_49, J, R)) rfl (az_E.deep (by omega) (hg_69 _ _ _ _ _ _ hx_50 (J := J) (R := R) hR_14_4 ⟨rfl, rfl⟩)) (fun v s hq => ?_)
                    obtain ⟨rfl, rfl⟩ := hq
                    show az_E az_F ex (d + 2) 69 69 [.ref 14, .int v1, .int v2, .int v3, .int (-1 : Int32)] [] (97, I_49, J, R) _
                    refine az_E.sn 1 (pc' := 70) (L' := [.ref 14, .int v1, .int v2, .int v3, .int (-1 : Int32)]) (S' := [.ref 14]) (σ' := (97, I_49, J, R)) rfl ?_
                    refine az_E.ov (pc' := 73) (L' := [.ref 14, .int v1, .int v2, .int v3, .int (-1 : Int32)]) (S' := []) (σ' := (97, I_49, J, R)) (x := .ref 21) rfl (congrArg (fun z => some (va_rf z)) hR_14_4) ?_
                    refine az_E.sn 2 (pc' := 76) (L' := [.ref 14, .int v1, .int v2, .int v3, .int (-1 : Int32)]) (S' := [.int (0 : Int32), .int (-1 : Int32), .ref 21]) (σ' := (97, I_49, J, R)) rfl ?_
                    cases hx_53 : rs_La_add 21 I_49 (-1 : Int32) (0 : Int32) with
                    | none => rw [hx_53] at h; cases h
                    | some o =>
                      rw [hx_53] at h
                      obtain ⟨x_51, I_52⟩ := o
                      dsimp only at h
                      refine az_E.call (d := (d + 1)) (k' := 28) (vs := [.ref 21, .int (-1 : Int32), .int (0 : Int32)]) (pc' := 79) (S' := []) (Q1 := fun v s => v = some (.int x_51) ∧ s = (97, I_52, J, R)) rfl (az_E.deep (by omega) (re_La_add_21 (J := J) (R := R)  hx_53 ⟨rfl, rfl⟩)) (fun v s hq => ?_)
                      obtain ⟨rfl, rfl⟩ := hq
                      show az_E az_F ex (d + 2) 69 79 [.ref 14, .int v1, .int v2, .int v3, .int (-1 : Int32)] [.int x_51] (97, I_52, J, R) _
                      refine az_E.sn 3 (pc' := 82) (L' := [.ref 14, .int v1, .int v2, .int v3, .int (-1 : Int32)]) (S' := [.int (2 : Int32), .int v1]) (σ' := (97, I_52, J, R)) rfl ?_
                      refine az_E.br (c := v1 = (2 : Int32)) (tt := 85) (ff := 86) (L' := [.ref 14, .int v1, .int v2, .int v3, .int (-1 : Int32)]) (S' := []) (σ' := (97, I_52, J, R)) rfl (fun hc_54 => ?_) (fun hc_54 => ?_)
                      · rw [if_pos hc_54] at h
                        have h := Option.some.inj h
                        subst h
                        exact az_E.ret (v := none) (σ' := (97, I_52, J, R)) rfl hQ
                      · rw [if_neg hc_54] at h
                        refine az_E.sn 2 (pc' := 21) (L' := [.ref 14, .int v1, .int v2, .int (v3 + (1 : Int32)), .int (-1 : Int32)]) (S' := []) (σ' := (97, I_52, J, R)) rfl ?_
                        have h := Option.some.inj h
                        subst h
                        exact az_E.forget (L := [.ref 14, .int v1, .int v2, .int (v3 + (1 : Int32)), .retAddr 0]) ⟨rfl, rfl, rfl, rfl, trivial, trivial⟩ hQ
                · rw [if_neg hc_47] at h
                  refine az_E.sn 4 (pc' := 26) (L' := [.ref 14]) (S' := [.int (I 14 2), .ref 15]) (σ' := (97, I, J, R)) rfl ?_
                  by_cases hc_55 : (I 14 2) < 0 ∨ 120 ≤ (I 14 2).toNatClampNeg
                  · rw [if_pos hc_55] at h; cases h
                  · rw [if_neg hc_55] at h
                    refine az_E.oi (o := az_ai az_F ex (97, I, J, R) 15 (I 14 2)) (pc' := 27) (L' := [.ref 14]) (S' := []) (σ' := (97, I, J, R)) (x := (I 15 (I 14 2).toNatClampNeg)) rfl (if_neg hc_55) ?_
                    refine az_E.sn 1 (pc' := 31) (L' := [.ref 14]) (S' := [.int (I 15 (I 14 2).toNatClampNeg)]) (σ' := (97, I, J, R)) rfl ?_
                    refine az_E.ret (v := some (.int (I 15 (I 14 2).toNatClampNeg))) (σ' := (97, I, J, R)) rfl ?_
                    show az_E az_F ex (d + 2) 69 49 [.ref 14, .int v1, .int v2, .int v3, .retAddr 0] [.int (I 15 (I 14 2).toNatClampNeg)] (97, I, J, R) _
                    refine az_E.sn 12 (pc' := 66) (L' := [.ref 14, .int v1, .int v2, .int v3, .int (I 15 (I 14 2).toNatClampNeg)]) (S' := [.int v2, .int (v1 + (1 : Int32)), .ref 14]) (σ' := (97, (az_u I 14 2 ((I 14 2) + (1 : Int32))), J, R)) rfl ?_
                    cases hx_58 : rec 69 (v1 + (1 : Int32)) v2 0 0 (az_u I 14 2 ((I 14 2) + (1 : Int32))) with
                    | none => rw [hx_58] at h; cases h
                    | some o =>
                      rw [hx_58] at h
                      obtain ⟨x_56, I_57⟩ := o
                      dsimp only at h
                      refine az_E.call (d := (d + 1)) (k' := 69) (vs := [.ref 14, .int (v1 + (1 : Int32)), .int v2]) (pc' := 69) (S' := []) (Q1 := fun v s => v = none ∧ s = (97, I_57, J, R)) rfl (az_E.deep (by omega) (hg_69 _ _ _ _ _ _ hx_58 (J := J) (R := R) hR_14_4 ⟨rfl, rfl⟩)) (fun v s hq => ?_)
                      obtain ⟨rfl, rfl⟩ := hq
                      show az_E az_F ex (d + 2) 69 69 [.ref 14, .int v1, .int v2, .int v3, .int (I 15 (I 14 2).toNatClampNeg)] [] (97, I_57, J, R) _
                      refine az_E.sn 1 (pc' := 70) (L' := [.ref 14, .int v1, .int v2, .int v3, .int (I 15 (I 14 2).toNatClampNeg)]) (S' := [.ref 14]) (σ' := (97, I_57, J, R)) rfl ?_
                      refine az_E.ov (pc' := 73) (L' := [.ref 14, .int v1, .int v2, .int v3, .int (I 15 (I 14 2).toNatClampNeg)]) (S' := []) (σ' := (97, I_57, J, R)) (x := .ref 21) rfl (congrArg (fun z => some (va_rf z)) hR_14_4) ?_
                      refine az_E.sn 2 (pc' := 76) (L' := [.ref 14, .int v1, .int v2, .int v3, .int (I 15 (I 14 2).toNatClampNeg)]) (S' := [.int (0 : Int32), .int (I 15 (I 14 2).toNatClampNeg), .ref 21]) (σ' := (97, I_57, J, R)) rfl ?_
                      cases hx_61 : rs_La_add 21 I_57 (I 15 (I 14 2).toNatClampNeg) (0 : Int32) with
                      | none => rw [hx_61] at h; cases h
                      | some o =>
                        rw [hx_61] at h
                        obtain ⟨x_59, I_60⟩ := o
                        dsimp only at h
                        refine az_E.call (d := (d + 1)) (k' := 28) (vs := [.ref 21, .int (I 15 (I 14 2).toNatClampNeg), .int (0 : Int32)]) (pc' := 79) (S' := []) (Q1 := fun v s => v = some (.int x_59) ∧ s = (97, I_60, J, R)) rfl (az_E.deep (by omega) (re_La_add_21 (J := J) (R := R)  hx_61 ⟨rfl, rfl⟩)) (fun v s hq => ?_)
                        obtain ⟨rfl, rfl⟩ := hq
                        show az_E az_F ex (d + 2) 69 79 [.ref 14, .int v1, .int v2, .int v3, .int (I 15 (I 14 2).toNatClampNeg)] [.int x_59] (97, I_60, J, R) _
                        refine az_E.sn 3 (pc' := 82) (L' := [.ref 14, .int v1, .int v2, .int v3, .int (I 15 (I 14 2).toNatClampNeg)]) (S' := [.int (2 : Int32), .int v1]) (σ' := (97, I_60, J, R)) rfl ?_
                        refine az_E.br (c := v1 = (2 : Int32)) (tt := 85) (ff := 86) (L' := [.ref 14, .int v1, .int v2, .int v3, .int (I 15 (I 14 2).toNatClampNeg)]) (S' := []) (σ' := (97, I_60, J, R)) rfl (fun hc_62 => ?_) (fun hc_62 => ?_)
                        · rw [if_pos hc_62] at h
                          have h := Option.some.inj h
                          subst h
                          exact az_E.ret (v := none) (σ' := (97, I_60, J, R)) rfl hQ
                        · rw [if_neg hc_62] at h
                          refine az_E.sn 2 (pc' := 21) (L' := [.ref 14, .int v1, .int v2, .int (v3 + (1 : Int32)), .int (I 15 (I 14 2).toNatClampNeg)]) (S' := []) (σ' := (97, I_60, J, R)) rfl ?_
                          have h := Option.some.inj h
                          subst h
                          exact az_E.forget (L := [.ref 14, .int v1, .int v2, .int (v3 + (1 : Int32)), .retAddr 0]) ⟨rfl, rfl, rfl, rfl, trivial, trivial⟩ hQ
        · rw [if_neg hc_35] at h
          refine az_E.sn 4 (pc' := 26) (L' := [.ref 14]) (S' := [.int (I 14 2), .ref 15]) (σ' := (97, I, J, R)) rfl ?_
          by_cases hc_63 : (I 14 2) < 0 ∨ 120 ≤ (I 14 2).toNatClampNeg
          · rw [if_pos hc_63] at h; cases h
          · rw [if_neg hc_63] at h
            refine az_E.oi (o := az_ai az_F ex (97, I, J, R) 15 (I 14 2)) (pc' := 27) (L' := [.ref 14]) (S' := []) (σ' := (97, I, J, R)) (x := (I 15 (I 14 2).toNatClampNeg)) rfl (if_neg hc_63) ?_
            refine az_E.sn 1 (pc' := 31) (L' := [.ref 14]) (S' := [.int (I 15 (I 14 2).toNatClampNeg)]) (σ' := (97, I, J, R)) rfl ?_
            refine az_E.ret (v := some (.int (I 15 (I 14 2).toNatClampNeg))) (σ' := (97, I, J, R)) rfl ?_
            show az_E az_F ex (d + 2) 69 39 [.ref 14, .int v1, .int v2, .int v3, .retAddr 0] [.int (I 15 (I 14 2).toNatClampNeg), .int v1] (97, I, J, R) _
            cases hx_65 : rs_Ta_joinsAt v1 (I 15 (I 14 2).toNatClampNeg) with
            | none => rw [hx_65] at h; cases h
            | some x_64 =>
              rw [hx_65] at h
              dsimp only at h
              refine az_E.call (d := (d + 1)) (k' := 70) (vs := [.int v1, .int (I 15 (I 14 2).toNatClampNeg)]) (pc' := 42) (S' := []) (Q1 := fun v s => v = some (.int x_64) ∧ s = (97, I, J, R)) rfl (az_E.deep (by omega) (re_Ta_joinsAt (J := J) (R := R)  hx_65 ⟨rfl, rfl⟩)) (fun v s hq => ?_)
              obtain ⟨rfl, rfl⟩ := hq
              show az_E az_F ex (d + 2) 69 42 [.ref 14, .int v1, .int v2, .int v3, .retAddr 0] [.int x_64] (97, I, J, R) _
              refine az_E.br (c := x_64 = 0) (tt := 92) (ff := 45) (L' := [.ref 14, .int v1, .int v2, .int v3, .retAddr 0]) (S' := []) (σ' := (97, I, J, R)) rfl (fun hc_66 => ?_) (fun hc_66 => ?_)
              · rw [if_pos hc_66] at h
                have h := Option.some.inj h
                subst h
                exact az_E.ret (v := none) (σ' := (97, I, J, R)) rfl hQ
              · rw [if_neg hc_66] at h
                refine az_E.sn 1 (pc' := 46) (L' := [.ref 14, .int v1, .int v2, .int v3, .retAddr 0]) (S' := [.ref 14]) (σ' := (97, I, J, R)) rfl ?_
                refine az_E.call (d := (d + 1)) (k' := 66) (vs := [.ref 14]) (pc' := 49) (S' := []) rfl ?_ (fun _ _ hq => hq)
                show az_E az_F ex (d + 1) 66 0 [.ref 14] [] (97, I, J, R) _
                refine az_E.sn 2 (pc' := 4) (L' := [.ref 14]) (S' := [.int (I 14 2)]) (σ' := (97, I, J, R)) rfl ?_
                refine az_E.br (c := (I 14 2) < 0) (tt := 30) (ff := 7) (L' := [.ref 14]) (S' := []) (σ' := (97, I, J, R)) rfl (fun hc_67 => ?_) (fun hc_67 => ?_)
                · rw [if_pos hc_67] at h
                  refine az_E.sn 1 (pc' := 31) (L' := [.ref 14]) (S' := [.int (-1 : Int32)]) (σ' := (97, I, J, R)) rfl ?_
                  refine az_E.ret (v := some (.int (-1 : Int32))) (σ' := (97, I, J, R)) rfl ?_
                  show az_E az_F ex (d + 2) 69 49 [.ref 14, .int v1, .int v2, .int v3, .retAddr 0] [.int (-1 : Int32)] (97, I, J, R) _
                  refine az_E.sn 12 (pc' := 66) (L' := [.ref 14, .int v1, .int v2, .int v3, .int (-1 : Int32)]) (S' := [.int v2, .int (v1 + (1 : Int32)), .ref 14]) (σ' := (97, (az_u I 14 2 ((I 14 2) + (1 : Int32))), J, R)) rfl ?_
                  cases hx_70 : rec 69 (v1 + (1 : Int32)) v2 0 0 (az_u I 14 2 ((I 14 2) + (1 : Int32))) with
                  | none => rw [hx_70] at h; cases h
                  | some o =>
                    rw [hx_70] at h
                    obtain ⟨x_68, I_69⟩ := o
                    dsimp only at h
                    refine az_E.call (d := (d + 1)) (k' := 69) (vs := [.ref 14, .int (v1 + (1 : Int32)), .int v2]) (pc' := 69) (S' := []) (Q1 := fun v s => v = none ∧ s = (97, I_69, J, R)) rfl (az_E.deep (by omega) (hg_69 _ _ _ _ _ _ hx_70 (J := J) (R := R) hR_14_4 ⟨rfl, rfl⟩)) (fun v s hq => ?_)
                    obtain ⟨rfl, rfl⟩ := hq
                    show az_E az_F ex (d + 2) 69 69 [.ref 14, .int v1, .int v2, .int v3, .int (-1 : Int32)] [] (97, I_69, J, R) _
                    refine az_E.sn 1 (pc' := 70) (L' := [.ref 14, .int v1, .int v2, .int v3, .int (-1 : Int32)]) (S' := [.ref 14]) (σ' := (97, I_69, J, R)) rfl ?_
                    refine az_E.ov (pc' := 73) (L' := [.ref 14, .int v1, .int v2, .int v3, .int (-1 : Int32)]) (S' := []) (σ' := (97, I_69, J, R)) (x := .ref 21) rfl (congrArg (fun z => some (va_rf z)) hR_14_4) ?_
                    refine az_E.sn 2 (pc' := 76) (L' := [.ref 14, .int v1, .int v2, .int v3, .int (-1 : Int32)]) (S' := [.int (0 : Int32), .int (-1 : Int32), .ref 21]) (σ' := (97, I_69, J, R)) rfl ?_
                    cases hx_73 : rs_La_add 21 I_69 (-1 : Int32) (0 : Int32) with
                    | none => rw [hx_73] at h; cases h
                    | some o =>
                      rw [hx_73] at h
                      obtain ⟨x_71, I_72⟩ := o
                      dsimp only at h
                      refine az_E.call (d := (d + 1)) (k' := 28) (vs := [.ref 21, .int (-1 : Int32), .int (0 : Int32)]) (pc' := 79) (S' := []) (Q1 := fun v s => v = some (.int x_71) ∧ s = (97, I_72, J, R)) rfl (az_E.deep (by omega) (re_La_add_21 (J := J) (R := R)  hx_73 ⟨rfl, rfl⟩)) (fun v s hq => ?_)
                      obtain ⟨rfl, rfl⟩ := hq
                      show az_E az_F ex (d + 2) 69 79 [.ref 14, .int v1, .int v2, .int v3, .int (-1 : Int32)] [.int x_71] (97, I_72, J, R) _
                      refine az_E.sn 3 (pc' := 82) (L' := [.ref 14, .int v1, .int v2, .int v3, .int (-1 : Int32)]) (S' := [.int (2 : Int32), .int v1]) (σ' := (97, I_72, J, R)) rfl ?_
                      refine az_E.br (c := v1 = (2 : Int32)) (tt := 85) (ff := 86) (L' := [.ref 14, .int v1, .int v2, .int v3, .int (-1 : Int32)]) (S' := []) (σ' := (97, I_72, J, R)) rfl (fun hc_74 => ?_) (fun hc_74 => ?_)
                      · rw [if_pos hc_74] at h
                        have h := Option.some.inj h
                        subst h
                        exact az_E.ret (v := none) (σ' := (97, I_72, J, R)) rfl hQ
                      · rw [if_neg hc_74] at h
                        refine az_E.sn 2 (pc' := 21) (L' := [.ref 14, .int v1, .int v2, .int (v3 + (1 : Int32)), .int (-1 : Int32)]) (S' := []) (σ' := (97, I_72, J, R)) rfl ?_
                        have h := Option.some.inj h
                        subst h
                        exact az_E.forget (L := [.ref 14, .int v1, .int v2, .int (v3 + (1 : Int32)), .retAddr 0]) ⟨rfl, rfl, rfl, rfl, trivial, trivial⟩ hQ
                · rw [if_neg hc_67] at h
                  refine az_E.sn 4 (pc' := 15) (L' := [.ref 14]) (S' := [.int (I 14 1), .int (I 14 2)]) (σ' := (97, I, J, R)) rfl ?_
                  refine az_E.br (c := (I 14 1) ≤ (I 14 2)) (tt := 30) (ff := 18) (L' := [.ref 14]) (S' := []) (σ' := (97, I, J, R)) rfl (fun hc_75 => ?_) (fun hc_75 => ?_)
                  · rw [if_pos hc_75] at h
                    refine az_E.sn 1 (pc' := 31) (L' := [.ref 14]) (S' := [.int (-1 : Int32)]) (σ' := (97, I, J, R)) rfl ?_
                    refine az_E.ret (v := some (.int (-1 : Int32))) (σ' := (97, I, J, R)) rfl ?_
                    show az_E az_F ex (d + 2) 69 49 [.ref 14, .int v1, .int v2, .int v3, .retAddr 0] [.int (-1 : Int32)] (97, I, J, R) _
                    refine az_E.sn 12 (pc' := 66) (L' := [.ref 14, .int v1, .int v2, .int v3, .int (-1 : Int32)]) (S' := [.int v2, .int (v1 + (1 : Int32)), .ref 14]) (σ' := (97, (az_u I 14 2 ((I 14 2) + (1 : Int32))), J, R)) rfl ?_
                    cases hx_78 : rec 69 (v1 + (1 : Int32)) v2 0 0 (az_u I 14 2 ((I 14 2) + (1 : Int32))) with
                    | none => rw [hx_78] at h; cases h
                    | some o =>
                      rw [hx_78] at h
                      obtain ⟨x_76, I_77⟩ := o
                      dsimp only at h
                      refine az_E.call (d := (d + 1)) (k' := 69) (vs := [.ref 14, .int (v1 + (1 : Int32)), .int v2]) (pc' := 69) (S' := []) (Q1 := fun v s => v = none ∧ s = (97, I_77, J, R)) rfl (az_E.deep (by omega) (hg_69 _ _ _ _ _ _ hx_78 (J := J) (R := R) hR_14_4 ⟨rfl, rfl⟩)) (fun v s hq => ?_)
                      obtain ⟨rfl, rfl⟩ := hq
                      show az_E az_F ex (d + 2) 69 69 [.ref 14, .int v1, .int v2, .int v3, .int (-1 : Int32)] [] (97, I_77, J, R) _
                      refine az_E.sn 1 (pc' := 70) (L' := [.ref 14, .int v1, .int v2, .int v3, .int (-1 : Int32)]) (S' := [.ref 14]) (σ' := (97, I_77, J, R)) rfl ?_
                      refine az_E.ov (pc' := 73) (L' := [.ref 14, .int v1, .int v2, .int v3, .int (-1 : Int32)]) (S' := []) (σ' := (97, I_77, J, R)) (x := .ref 21) rfl (congrArg (fun z => some (va_rf z)) hR_14_4) ?_
                      refine az_E.sn 2 (pc' := 76) (L' := [.ref 14, .int v1, .int v2, .int v3, .int (-1 : Int32)]) (S' := [.int (0 : Int32), .int (-1 : Int32), .ref 21]) (σ' := (97, I_77, J, R)) rfl ?_
                      cases hx_81 : rs_La_add 21 I_77 (-1 : Int32) (0 : Int32) with
                      | none => rw [hx_81] at h; cases h
                      | some o =>
                        rw [hx_81] at h
                        obtain ⟨x_79, I_80⟩ := o
                        dsimp only at h
                        refine az_E.call (d := (d + 1)) (k' := 28) (vs := [.ref 21, .int (-1 : Int32), .int (0 : Int32)]) (pc' := 79) (S' := []) (Q1 := fun v s => v = some (.int x_79) ∧ s = (97, I_80, J, R)) rfl (az_E.deep (by omega) (re_La_add_21 (J := J) (R := R)  hx_81 ⟨rfl, rfl⟩)) (fun v s hq => ?_)
                        obtain ⟨rfl, rfl⟩ := hq
                        show az_E az_F ex (d + 2) 69 79 [.ref 14, .int v1, .int v2, .int v3, .int (-1 : Int32)] [.int x_79] (97, I_80, J, R) _
                        refine az_E.sn 3 (pc' := 82) (L' := [.ref 14, .int v1, .int v2, .int v3, .int (-1 : Int32)]) (S' := [.int (2 : Int32), .int v1]) (σ' := (97, I_80, J, R)) rfl ?_
                        refine az_E.br (c := v1 = (2 : Int32)) (tt := 85) (ff := 86) (L' := [.ref 14, .int v1, .int v2, .int v3, .int (-1 : Int32)]) (S' := []) (σ' := (97, I_80, J, R)) rfl (fun hc_82 => ?_) (fun hc_82 => ?_)
                        · rw [if_pos hc_82] at h
                          have h := Option.some.inj h
                          subst h
                          exact az_E.ret (v := none) (σ' := (97, I_80, J, R)) rfl hQ
                        · rw [if_neg hc_82] at h
                          refine az_E.sn 2 (pc' := 21) (L' := [.ref 14, .int v1, .int v2, .int (v3 + (1 : Int32)), .int (-1 : Int32)]) (S' := []) (σ' := (97, I_80, J, R)) rfl ?_
                          have h := Option.some.inj h
                          subst h
                          exact az_E.forget (L := [.ref 14, .int v1, .int v2, .int (v3 + (1 : Int32)), .retAddr 0]) ⟨rfl, rfl, rfl, rfl, trivial, trivial⟩ hQ
                  · rw [if_neg hc_75] at h
                    refine az_E.sn 4 (pc' := 26) (L' := [.ref 14]) (S' := [.int (I 14 2), .ref 15]) (σ' := (97, I, J, R)) rfl ?_
                    by_cases hc_83 : (I 14 2) < 0 ∨ 120 ≤ (I 14 2).toNatClampNeg
                    · rw [if_pos hc_83] at h; cases h
                    · rw [if_neg hc_83] at h
                      refine az_E.oi (o := az_ai az_F ex (97, I, J, R) 15 (I 14 2)) (pc' := 27) (L' := [.ref 14]) (S' := []) (σ' := (97, I, J, R)) (x := (I 15 (I 14 2).toNatClampNeg)) rfl (if_neg hc_83) ?_
                      refine az_E.sn 1 (pc' := 31) (L' := [.ref 14]) (S' := [.int (I 15 (I 14 2).toNatClampNeg)]) (σ' := (97, I, J, R)) rfl ?_
                      refine az_E.ret (v := some (.int (I 15 (I 14 2).toNatClampNeg))) (σ' := (97, I, J, R)) rfl ?_
                      show az_E az_F ex (d + 2) 69 49 [.ref 14, .int v1, .int v2, .int v3, .retAddr 0] [.int (I 15 (I 14 2).toNatClampNeg)] (97, I, J, R) _
                      refine az_E.sn 12 (pc' := 66) (L' := [.ref 14, .int v1, .int v2, .int v3, .int (I 15 (I 14 2).toNatClampNeg)]) (S' := [.int v2, .int (v1 + (1 : Int32)), .ref 14]) (σ' := (97, (az_u I 14 2 ((I 14 2) + (1 : Int32))), J, R)) rfl ?_
                      cases hx_86 : rec 69 (v1 + (1 : Int32)) v2 0 0 (az_u I 14 2 ((I 14 2) + (1 : Int32))) with
                      | none => rw [hx_86] at h; cases h
                      | some o =>
                        rw [hx_86] at h
                        obtain ⟨x_84, I_85⟩ := o
                        dsimp only at h
                        refine az_E.call (d := (d + 1)) (k' := 69) (vs := [.ref 14, .int (v1 + (1 : Int32)), .int v2]) (pc' := 69) (S' := []) (Q1 := fun v s => v = none ∧ s = (97, I_85, J, R)) rfl (az_E.deep (by omega) (hg_69 _ _ _ _ _ _ hx_86 (J := J) (R := R) hR_14_4 ⟨rfl, rfl⟩)) (fun v s hq => ?_)
                        obtain ⟨rfl, rfl⟩ := hq
                        show az_E az_F ex (d + 2) 69 69 [.ref 14, .int v1, .int v2, .int v3, .int (I 15 (I 14 2).toNatClampNeg)] [] (97, I_85, J, R) _
                        refine az_E.sn 1 (pc' := 70) (L' := [.ref 14, .int v1, .int v2, .int v3, .int (I 15 (I 14 2).toNatClampNeg)]) (S' := [.ref 14]) (σ' := (97, I_85, J, R)) rfl ?_
                        refine az_E.ov (pc' := 73) (L' := [.ref 14, .int v1, .int v2, .int v3, .int (I 15 (I 14 2).toNatClampNeg)]) (S' := []) (σ' := (97, I_85, J, R)) (x := .ref 21) rfl (congrArg (fun z => some (va_rf z)) hR_14_4) ?_
                        refine az_E.sn 2 (pc' := 76) (L' := [.ref 14, .int v1, .int v2, .int v3, .int (I 15 (I 14 2).toNatClampNeg)]) (S' := [.int (0 : Int32), .int (I 15 (I 14 2).toNatClampNeg), .ref 21]) (σ' := (97, I_85, J, R)) rfl ?_
                        cases hx_89 : rs_La_add 21 I_85 (I 15 (I 14 2).toNatClampNeg) (0 : Int32) with
                        | none => rw [hx_89] at h; cases h
                        | some o =>
                          rw [hx_89] at h
                          obtain ⟨x_87, I_88⟩ := o
                          dsimp only at h
                          refine az_E.call (d := (d + 1)) (k' := 28) (vs := [.ref 21, .int (I 15 (I 14 2).toNatClampNeg), .int (0 : Int32)]) (pc' := 79) (S' := []) (Q1 := fun v s => v = some (.int x_87) ∧ s = (97, I_88, J, R)) rfl (az_E.deep (by omega) (re_La_add_21 (J := J) (R := R)  hx_89 ⟨rfl, rfl⟩)) (fun v s hq => ?_)
                          obtain ⟨rfl, rfl⟩ := hq
                          show az_E az_F ex (d + 2) 69 79 [.ref 14, .int v1, .int v2, .int v3, .int (I 15 (I 14 2).toNatClampNeg)] [.int x_87] (97, I_88, J, R) _
                          refine az_E.sn 3 (pc' := 82) (L' := [.ref 14, .int v1, .int v2, .int v3, .int (I 15 (I 14 2).toNatClampNeg)]) (S' := [.int (2 : Int32), .int v1]) (σ' := (97, I_88, J, R)) rfl ?_
                          refine az_E.br (c := v1 = (2 : Int32)) (tt := 85) (ff := 86) (L' := [.ref 14, .int v1, .int v2, .int v3, .int (I 15 (I 14 2).toNatClampNeg)]) (S' := []) (σ' := (97, I_88, J, R)) rfl (fun hc_90 => ?_) (fun hc_90 => ?_)
                          · rw [if_pos hc_90] at h
                            have h := Option.some.inj h
                            subst h
                            exact az_E.ret (v := none) (σ' := (97, I_88, J, R)) rfl hQ
                          · rw [if_neg hc_90] at h
                            refine az_E.sn 2 (pc' := 21) (L' := [.ref 14, .int v1, .int v2, .int (v3 + (1 : Int32)), .int (I 15 (I 14 2).toNatClampNeg)]) (S' := []) (σ' := (97, I_88, J, R)) rfl ?_
                            have h := Option.some.inj h
                            subst h
                            exact az_E.forget (L := [.ref 14, .int v1, .int v2, .int (v3 + (1 : Int32)), .retAddr 0]) ⟨rfl, rfl, rfl, rfl, trivial, trivial⟩ hQ
set_option maxRecDepth 100000 in
set_option maxHeartbeats 4000000 in
theorem re_Ta_readLevel_21_21 {rec : az_GT} {d : Nat} {ex : az_X} {I : Nat → Nat → Int32} {J : Nat → Nat → Int64} {R : Nat → Nat → Option Nat} {v1 : Int32} {v2 : Int32} {v3 : Int32} (hg_69 : ∀ (b1 b2 b3 b4 : Int32) (I : Nat → Nat → Int32) (o : Int32 × (Nat → Nat → Int32)), rec 69 b1 b2 b3 b4 I = some o → ∀ {J : Nat → Nat → Int64} {R : Nat → Nat → Option Nat} {Q : Option Value → az_S → Prop}, R 14 4 = some 21 → Q none (97, o.2, J, R) → az_E az_F ex d 69 0 [.ref 14, .int b1, .int b2, .retAddr 0, .retAddr 0] [] (97, I, J, R) Q) (hg_71 : ∀ (b1 b2 b3 b4 : Int32) (I : Nat → Nat → Int32) (o : Int32 × (Nat → Nat → Int32)), rec 71 b1 b2 b3 b4 I = some o → ∀ {J : Nat → Nat → Int64} {R : Nat → Nat → Option Nat} {Q : Option Value → az_S → Prop}, R 14 4 = some 21 → Q none (97, o.2, J, R) → az_E az_F ex d 71 0 [.ref 14, .int b1, .retAddr 0] [] (97, I, J, R) Q) (hR_14_4 : R 14 4 = some 21) {x : (Nat → Nat → Int32)} (h : rs_Ta_readLevel_21 rec 21 I v1 v2 v3 = some x) {Q : Option Value → az_S → Prop} (hQ : Q none (97, x, J, R)) : az_E az_F ex (d + 2) 69 21 [.ref 14, .int v1, .int v2, .int v3, .retAddr 0] [] (97, I, J, R) Q := by
  unfold rs_Ta_readLevel_21 at h
  refine az_lp_E (G := fun s => az_E az_F ex (d + 2) 69 21 [.ref 14, .int v1, .int v2, .int s.1, .retAddr 0] [] (97, s.2, J, R) Q) (H := fun x => Q none (97, x, J, R)) (fun s o hb ho => ?_) _ _ _ h hQ
  exact re_Ta_readLevel_21_b_21 hg_69 hg_71 hR_14_4 hb ho
set_option maxRecDepth 100000 in
set_option maxHeartbeats 4000000 in
theorem re_Ta_readLevel_21 {rec : az_GT} {d : Nat} {ex : az_X} {I : Nat → Nat → Int32} {J : Nat → Nat → Int64} {R : Nat → Nat → Option Nat} {a1 : Int32} {a2 : Int32} (hg_69 : ∀ (b1 b2 b3 b4 : Int32) (I : Nat → Nat → Int32) (o : Int32 × (Nat → Nat → Int32)), rec 69 b1 b2 b3 b4 I = some o → ∀ {J : Nat → Nat → Int64} {R : Nat → Nat → Option Nat} {Q : Option Value → az_S → Prop}, R 14 4 = some 21 → Q none (97, o.2, J, R) → az_E az_F ex d 69 0 [.ref 14, .int b1, .int b2, .retAddr 0, .retAddr 0] [] (97, I, J, R) Q) (hg_71 : ∀ (b1 b2 b3 b4 : Int32) (I : Nat → Nat → Int32) (o : Int32 × (Nat → Nat → Int32)), rec 71 b1 b2 b3 b4 I = some o → ∀ {J : Nat → Nat → Int64} {R : Nat → Nat → Option Nat} {Q : Option Value → az_S → Prop}, R 14 4 = some 21 → Q none (97, o.2, J, R) → az_E az_F ex d 71 0 [.ref 14, .int b1, .retAddr 0] [] (97, I, J, R) Q) (hR_14_4 : R 14 4 = some 21) {o : (Nat → Nat → Int32)} (h : rs_Ta_readLevel rec 21 I a1 a2 = some o) {Q : Option Value → az_S → Prop} (hQ : Q none (97, o, J, R)) : az_E az_F ex (d + 2) 69 0 [.ref 14, .int a1, .int a2, .retAddr 0, .retAddr 0] [] (97, I, J, R) Q := by
  unfold rs_Ta_readLevel at h
  refine az_E.sn 2 (pc' := 2) (L' := [.ref 14, .int a1, .int a2, .retAddr 0, .retAddr 0]) (S' := [.int (5 : Int32), .int a1]) (σ' := (97, I, J, R)) rfl ?_
  refine az_E.br (c := a1 < (5 : Int32)) (tt := 11) (ff := 5) (L' := [.ref 14, .int a1, .int a2, .retAddr 0, .retAddr 0]) (S' := []) (σ' := (97, I, J, R)) rfl (fun hc_1 => ?_) (fun hc_1 => ?_)
  · rw [if_pos hc_1] at h
    refine az_E.sn 5 (pc' := 16) (L' := [.ref 14, .int a1, .int a2, .retAddr 0, .retAddr 0]) (S' := [.int a2, .int (a1 + (1 : Int32)), .ref 14]) (σ' := (97, I, J, R)) rfl ?_
    cases hx_4 : rec 69 (a1 + (1 : Int32)) a2 0 0 I with
    | none => rw [hx_4] at h; cases h
    | some o =>
      rw [hx_4] at h
      obtain ⟨x_2, I_3⟩ := o
      dsimp only at h
      refine az_E.call (d := (d + 1)) (k' := 69) (vs := [.ref 14, .int (a1 + (1 : Int32)), .int a2]) (pc' := 19) (S' := []) (Q1 := fun v s => v = none ∧ s = (97, I_3, J, R)) rfl (az_E.deep (by omega) (hg_69 _ _ _ _ _ _ hx_4 (J := J) (R := R) hR_14_4 ⟨rfl, rfl⟩)) (fun v s hq => ?_)
      obtain ⟨rfl, rfl⟩ := hq
      show az_E az_F ex (d + 2) 69 19 [.ref 14, .int a1, .int a2, .retAddr 0, .retAddr 0] [] (97, I_3, J, R) _
      refine az_E.sn 2 (pc' := 21) (L' := [.ref 14, .int a1, .int a2, .int (0 : Int32), .retAddr 0]) (S' := []) (σ' := (97, I_3, J, R)) rfl ?_
      exact az_E.forget (L := [.ref 14, .int a1, .int a2, .int (0 : Int32), .retAddr 0]) ⟨rfl, rfl, rfl, rfl, trivial, trivial⟩ (re_Ta_readLevel_21_21 (I := I_3) (J := J) (R := R) hg_69 hg_71 hR_14_4 h hQ)
  · rw [if_neg hc_1] at h
    refine az_E.sn 2 (pc' := 7) (L' := [.ref 14, .int a1, .int a2, .retAddr 0, .retAddr 0]) (S' := [.int a2, .ref 14]) (σ' := (97, I, J, R)) rfl ?_
    cases hx_93 : rec 71 a2 0 0 0 I with
    | none => rw [hx_93] at h; cases h
    | some o =>
      rw [hx_93] at h
      obtain ⟨x_91, I_92⟩ := o
      dsimp only at h
      refine az_E.call (d := (d + 1)) (k' := 71) (vs := [.ref 14, .int a2]) (pc' := 10) (S' := []) (Q1 := fun v s => v = none ∧ s = (97, I_92, J, R)) rfl (az_E.deep (by omega) (hg_71 _ _ _ _ _ _ hx_93 (J := J) (R := R) hR_14_4 ⟨rfl, rfl⟩)) (fun v s hq => ?_)
      obtain ⟨rfl, rfl⟩ := hq
      show az_E az_F ex (d + 2) 69 10 [.ref 14, .int a1, .int a2, .retAddr 0, .retAddr 0] [] (97, I_92, J, R) _
      have h := Option.some.inj h
      subst h
      exact az_E.ret (v := none) (σ' := (97, I_92, J, R)) rfl hQ
set_option maxRecDepth 100000 in
set_option maxHeartbeats 4000000 in
theorem re_Ta_nameOf {ex : az_X} {I : Nat → Nat → Int32} {J : Nat → Nat → Int64} {R : Nat → Nat → Option Nat} {a0 : Int32} {o : Int32} (h : rs_Ta_nameOf a0 = some o) {Q : Option Value → az_S → Prop} (hQ : Q (some (.int o)) (97, I, J, R)) : az_E az_F ex 0 75 0 [.int a0] [] (97, I, J, R) Q := by
  unfold rs_Ta_nameOf at h
  refine az_E.sn 1 (pc' := 1) (L' := [.int a0]) (S' := [.int a0]) (σ' := (97, I, J, R)) rfl ?_
  by_cases hc_1 : a0 = (104 : Int32)
  · rw [if_pos hc_1] at h
    refine az_E.sw hc_1 (pc' := 90) (L' := [.int a0]) (S' := []) (σ' := (97, I, J, R)) rfl ?_
    refine az_E.sn 1 (pc' := 91) (L' := [.int a0]) (S' := [.int (5 : Int32)]) (σ' := (97, I, J, R)) rfl ?_
    have h := Option.some.inj h
    subst h
    exact az_E.ret (v := some (.int (5 : Int32))) (σ' := (97, I, J, R)) rfl hQ
  · rw [if_neg hc_1] at h
    by_cases hc_2 : a0 = (105 : Int32)
    · rw [if_pos hc_2] at h
      refine az_E.sw hc_2 (pc' := 92) (L' := [.int a0]) (S' := []) (σ' := (97, I, J, R)) rfl ?_
      refine az_E.sn 1 (pc' := 93) (L' := [.int a0]) (S' := [.int (-1 : Int32)]) (σ' := (97, I, J, R)) rfl ?_
      have h := Option.some.inj h
      subst h
      exact az_E.ret (v := some (.int (-1 : Int32))) (σ' := (97, I, J, R)) rfl hQ
    · rw [if_neg hc_2] at h
      by_cases hc_3 : a0 = (106 : Int32)
      · rw [if_pos hc_3] at h
        refine az_E.sw hc_3 (pc' := 92) (L' := [.int a0]) (S' := []) (σ' := (97, I, J, R)) rfl ?_
        refine az_E.sn 1 (pc' := 93) (L' := [.int a0]) (S' := [.int (-1 : Int32)]) (σ' := (97, I, J, R)) rfl ?_
        have h := Option.some.inj h
        subst h
        exact az_E.ret (v := some (.int (-1 : Int32))) (σ' := (97, I, J, R)) rfl hQ
      · rw [if_neg hc_3] at h
        by_cases hc_4 : a0 = (107 : Int32)
        · rw [if_pos hc_4] at h
          refine az_E.sw hc_4 (pc' := 82) (L' := [.int a0]) (S' := []) (σ' := (97, I, J, R)) rfl ?_
          refine az_E.sn 1 (pc' := 83) (L' := [.int a0]) (S' := [.int (1 : Int32)]) (σ' := (97, I, J, R)) rfl ?_
          have h := Option.some.inj h
          subst h
          exact az_E.ret (v := some (.int (1 : Int32))) (σ' := (97, I, J, R)) rfl hQ
        · rw [if_neg hc_4] at h
          by_cases hc_5 : a0 = (108 : Int32)
          · rw [if_pos hc_5] at h
            refine az_E.sw hc_5 (pc' := 84) (L' := [.int a0]) (S' := []) (σ' := (97, I, J, R)) rfl ?_
            refine az_E.sn 1 (pc' := 85) (L' := [.int a0]) (S' := [.int (2 : Int32)]) (σ' := (97, I, J, R)) rfl ?_
            have h := Option.some.inj h
            subst h
            exact az_E.ret (v := some (.int (2 : Int32))) (σ' := (97, I, J, R)) rfl hQ
          · rw [if_neg hc_5] at h
            by_cases hc_6 : a0 = (109 : Int32)
            · rw [if_pos hc_6] at h
              refine az_E.sw hc_6 (pc' := 92) (L' := [.int a0]) (S' := []) (σ' := (97, I, J, R)) rfl ?_
              refine az_E.sn 1 (pc' := 93) (L' := [.int a0]) (S' := [.int (-1 : Int32)]) (σ' := (97, I, J, R)) rfl ?_
              have h := Option.some.inj h
              subst h
              exact az_E.ret (v := some (.int (-1 : Int32))) (σ' := (97, I, J, R)) rfl hQ
            · rw [if_neg hc_6] at h
              by_cases hc_7 : a0 = (110 : Int32)
              · rw [if_pos hc_7] at h
                refine az_E.sw hc_7 (pc' := 92) (L' := [.int a0]) (S' := []) (σ' := (97, I, J, R)) rfl ?_
                refine az_E.sn 1 (pc' := 93) (L' := [.int a0]) (S' := [.int (-1 : Int32)]) (σ' := (97, I, J, R)) rfl ?_
                have h := Option.some.inj h
                subst h
                exact az_E.ret (v := some (.int (-1 : Int32))) (σ' := (97, I, J, R)) rfl hQ
              · rw [if_neg hc_7] at h
                by_cases hc_8 : a0 = (111 : Int32)
                · rw [if_pos hc_8] at h
                  refine az_E.sw hc_8 (pc' := 92) (L' := [.int a0]) (S' := []) (σ' := (97, I, J, R)) rfl ?_
                  refine az_E.sn 1 (pc' := 93) (L' := [.int a0]) (S' := [.int (-1 : Int32)]) (σ' := (97, I, J, R)) rfl ?_
                  have h := Option.some.inj h
                  subst h
                  exact az_E.ret (v := some (.int (-1 : Int32))) (σ' := (97, I, J, R)) rfl hQ
                · rw [if_neg hc_8] at h
                  by_cases hc_9 : a0 = (112 : Int32)
                  · rw [if_pos hc_9] at h
                    refine az_E.sw hc_9 (pc' := 92) (L' := [.int a0]) (S' := []) (σ' := (97, I, J, R)) rfl ?_
                    refine az_E.sn 1 (pc' := 93) (L' := [.int a0]) (S' := [.int (-1 : Int32)]) (σ' := (97, I, J, R)) rfl ?_
                    have h := Option.some.inj h
                    subst h
                    exact az_E.ret (v := some (.int (-1 : Int32))) (σ' := (97, I, J, R)) rfl hQ
                  · rw [if_neg hc_9] at h
                    by_cases hc_10 : a0 = (113 : Int32)
                    · rw [if_pos hc_10] at h
                      refine az_E.sw hc_10 (pc' := 92) (L' := [.int a0]) (S' := []) (σ' := (97, I, J, R)) rfl ?_
                      refine az_E.sn 1 (pc' := 93) (L' := [.int a0]) (S' := [.int (-1 : Int32)]) (σ' := (97, I, J, R)) rfl ?_
                      have h := Option.some.inj h
                      subst h
                      exact az_E.ret (v := some (.int (-1 : Int32))) (σ' := (97, I, J, R)) rfl hQ
                    · rw [if_neg hc_10] at h
                      by_cases hc_11 : a0 = (114 : Int32)
                      · rw [if_pos hc_11] at h
                        refine az_E.sw hc_11 (pc' := 92) (L' := [.int a0]) (S' := []) (σ' := (97, I, J, R)) rfl ?_
                        refine az_E.sn 1 (pc' := 93) (L' := [.int a0]) (S' := [.int (-1 : Int32)]) (σ' := (97, I, J, R)) rfl ?_
                        have h := Option.some.inj h
                        subst h
                        exact az_E.ret (v := some (.int (-1 : Int32))) (σ' := (97, I, J, R)) rfl hQ
                      · rw [if_neg hc_11] at h
                        by_cases hc_12 : a0 = (115 : Int32)
                        · rw [if_pos hc_12] at h
                          refine az_E.sw hc_12 (pc' := 86) (L' := [.int a0]) (S' := []) (σ' := (97, I, J, R)) rfl ?_
                          refine az_E.sn 1 (pc' := 87) (L' := [.int a0]) (S' := [.int (3 : Int32)]) (σ' := (97, I, J, R)) rfl ?_
                          have h := Option.some.inj h
                          subst h
                          exact az_E.ret (v := some (.int (3 : Int32))) (σ' := (97, I, J, R)) rfl hQ
                        · rw [if_neg hc_12] at h
                          by_cases hc_13 : a0 = (116 : Int32)
                          · rw [if_pos hc_13] at h
                            refine az_E.sw hc_13 (pc' := 92) (L' := [.int a0]) (S' := []) (σ' := (97, I, J, R)) rfl ?_
                            refine az_E.sn 1 (pc' := 93) (L' := [.int a0]) (S' := [.int (-1 : Int32)]) (σ' := (97, I, J, R)) rfl ?_
                            have h := Option.some.inj h
                            subst h
                            exact az_E.ret (v := some (.int (-1 : Int32))) (σ' := (97, I, J, R)) rfl hQ
                          · rw [if_neg hc_13] at h
                            by_cases hc_14 : a0 = (117 : Int32)
                            · rw [if_pos hc_14] at h
                              refine az_E.sw hc_14 (pc' := 80) (L' := [.int a0]) (S' := []) (σ' := (97, I, J, R)) rfl ?_
                              refine az_E.sn 1 (pc' := 81) (L' := [.int a0]) (S' := [.int (0 : Int32)]) (σ' := (97, I, J, R)) rfl ?_
                              have h := Option.some.inj h
                              subst h
                              exact az_E.ret (v := some (.int (0 : Int32))) (σ' := (97, I, J, R)) rfl hQ
                            · rw [if_neg hc_14] at h
                              by_cases hc_15 : a0 = (118 : Int32)
                              · rw [if_pos hc_15] at h
                                refine az_E.sw hc_15 (pc' := 92) (L' := [.int a0]) (S' := []) (σ' := (97, I, J, R)) rfl ?_
                                refine az_E.sn 1 (pc' := 93) (L' := [.int a0]) (S' := [.int (-1 : Int32)]) (σ' := (97, I, J, R)) rfl ?_
                                have h := Option.some.inj h
                                subst h
                                exact az_E.ret (v := some (.int (-1 : Int32))) (σ' := (97, I, J, R)) rfl hQ
                              · rw [if_neg hc_15] at h
                                by_cases hc_16 : a0 = (119 : Int32)
                                · rw [if_pos hc_16] at h
                                  refine az_E.sw hc_16 (pc' := 88) (L' := [.int a0]) (S' := []) (σ' := (97, I, J, R)) rfl ?_
                                  refine az_E.sn 1 (pc' := 89) (L' := [.int a0]) (S' := [.int (4 : Int32)]) (σ' := (97, I, J, R)) rfl ?_
                                  have h := Option.some.inj h
                                  subst h
                                  exact az_E.ret (v := some (.int (4 : Int32))) (σ' := (97, I, J, R)) rfl hQ
                                · rw [if_neg hc_16] at h
                                  have ehc_1 := az_nei hc_1 (z := 104) (by decide)
                                  have ehc_2 := az_nei hc_2 (z := 105) (by decide)
                                  have ehc_3 := az_nei hc_3 (z := 106) (by decide)
                                  have ehc_4 := az_nei hc_4 (z := 107) (by decide)
                                  have ehc_5 := az_nei hc_5 (z := 108) (by decide)
                                  have ehc_6 := az_nei hc_6 (z := 109) (by decide)
                                  have ehc_7 := az_nei hc_7 (z := 110) (by decide)
                                  have ehc_8 := az_nei hc_8 (z := 111) (by decide)
                                  have ehc_9 := az_nei hc_9 (z := 112) (by decide)
                                  have ehc_10 := az_nei hc_10 (z := 113) (by decide)
                                  have ehc_11 := az_nei hc_11 (z := 114) (by decide)
                                  have ehc_12 := az_nei hc_12 (z := 115) (by decide)
                                  have ehc_13 := az_nei hc_13 (z := 116) (by decide)
                                  have ehc_14 := az_nei hc_14 (z := 117) (by decide)
                                  have ehc_15 := az_nei hc_15 (z := 118) (by decide)
                                  have ehc_16 := az_nei hc_16 (z := 119) (by decide)
                                  refine az_E.swd (a := 92) (lo := 104) (hi := 119) (offs := #[89, 91, 91, 81, 83, 91, 91, 91, 91, 91, 91, 85, 91, 79, 91, 87]) rfl (by omega) ?_
                                  refine az_E.sn 1 (pc' := 93) (L' := [.int a0]) (S' := [.int (-1 : Int32)]) (σ' := (97, I, J, R)) rfl ?_
                                  have h := Option.some.inj h
                                  subst h
                                  exact az_E.ret (v := some (.int (-1 : Int32))) (σ' := (97, I, J, R)) rfl hQ
set_option maxRecDepth 100000 in
set_option maxHeartbeats 4000000 in
theorem re_Ta_fail {ex : az_X} {I : Nat → Nat → Int32} {J : Nat → Nat → Int64} {R : Nat → Nat → Option Nat} {o : (Nat → Nat → Int32)} (h : rs_Ta_fail I = some o) {Q : Option Value → az_S → Prop} (hQ : Q none (97, o, J, R)) : az_E az_F ex 0 67 0 [.ref 14] [] (97, I, J, R) Q := by
  unfold rs_Ta_fail at h
  refine az_E.sn 2 (pc' := 4) (L' := [.ref 14]) (S' := [.int (I 14 3)]) (σ' := (97, I, J, R)) rfl ?_
  refine az_E.br (c := 0 ≤ (I 14 3)) (tt := 15) (ff := 7) (L' := [.ref 14]) (S' := []) (σ' := (97, I, J, R)) rfl (fun hc_1 => ?_) (fun hc_1 => ?_)
  · rw [if_pos hc_1] at h
    have h := Option.some.inj h
    subst h
    exact az_E.ret (v := none) (σ' := (97, I, J, R)) rfl hQ
  · rw [if_neg hc_1] at h
    refine az_E.sn 4 (pc' := 15) (L' := [.ref 14]) (S' := []) (σ' := (97, (az_u I 14 3 (I 14 2)), J, R)) rfl ?_
    have h := Option.some.inj h
    subst h
    exact az_E.ret (v := none) (σ' := (97, (az_u I 14 3 (I 14 2)), J, R)) rfl hQ
set_option maxRecDepth 100000 in
set_option maxHeartbeats 4000000 in
theorem re_Ta_closeBracket {ex : az_X} {I : Nat → Nat → Int32} {J : Nat → Nat → Int64} {R : Nat → Nat → Option Nat} {o : (Nat → Nat → Int32)} (h : rs_Ta_closeBracket I = some o) {Q : Option Value → az_S → Prop} (hQ : Q none (97, o, J, R)) : az_E az_F ex 1 72 0 [.ref 14] [] (97, I, J, R) Q := by
  unfold rs_Ta_closeBracket at h
  refine az_E.sn 1 (pc' := 1) (L' := [.ref 14]) (S' := [.ref 14]) (σ' := (97, I, J, R)) rfl ?_
  refine az_E.call (d := 0) (k' := 66) (vs := [.ref 14]) (pc' := 4) (S' := []) rfl ?_ (fun _ _ hq => hq)
  show az_E az_F ex 0 66 0 [.ref 14] [] (97, I, J, R) _
  refine az_E.sn 2 (pc' := 4) (L' := [.ref 14]) (S' := [.int (I 14 2)]) (σ' := (97, I, J, R)) rfl ?_
  refine az_E.br (c := (I 14 2) < 0) (tt := 30) (ff := 7) (L' := [.ref 14]) (S' := []) (σ' := (97, I, J, R)) rfl (fun hc_1 => ?_) (fun hc_1 => ?_)
  · rw [if_pos hc_1] at h
    refine az_E.sn 1 (pc' := 31) (L' := [.ref 14]) (S' := [.int (-1 : Int32)]) (σ' := (97, I, J, R)) rfl ?_
    refine az_E.ret (v := some (.int (-1 : Int32))) (σ' := (97, I, J, R)) rfl ?_
    show az_E az_F ex 1 72 4 [.ref 14] [.int (-1 : Int32)] (97, I, J, R) _
    refine az_E.sn 1 (pc' := 6) (L' := [.ref 14]) (S' := [.int (41 : Int32), .int (-1 : Int32)]) (σ' := (97, I, J, R)) rfl ?_
    refine az_E.br (c := (-1 : Int32) = (41 : Int32)) (tt := 9) (ff := 33) (L' := [.ref 14]) (S' := []) (σ' := (97, I, J, R)) rfl (fun hn => absurd hn (by decide)) (fun _ => ?_)
    refine az_E.sn 1 (pc' := 34) (L' := [.ref 14]) (S' := [.ref 14]) (σ' := (97, I, J, R)) rfl ?_
    cases hx_3 : rs_Ta_fail I with
    | none => rw [hx_3] at h; cases h
    | some I_2 =>
      rw [hx_3] at h
      dsimp only at h
      refine az_E.call (d := 0) (k' := 67) (vs := [.ref 14]) (pc' := 37) (S' := []) (Q1 := fun v s => v = none ∧ s = (97, I_2, J, R)) rfl (az_E.deep (by omega) (re_Ta_fail (J := J) (R := R)  hx_3 ⟨rfl, rfl⟩)) (fun v s hq => ?_)
      obtain ⟨rfl, rfl⟩ := hq
      show az_E az_F ex 1 72 37 [.ref 14] [] (97, I_2, J, R) _
      have h := Option.some.inj h
      subst h
      exact az_E.ret (v := none) (σ' := (97, I_2, J, R)) rfl hQ
  · rw [if_neg hc_1] at h
    refine az_E.sn 4 (pc' := 15) (L' := [.ref 14]) (S' := [.int (I 14 1), .int (I 14 2)]) (σ' := (97, I, J, R)) rfl ?_
    refine az_E.br (c := (I 14 1) ≤ (I 14 2)) (tt := 30) (ff := 18) (L' := [.ref 14]) (S' := []) (σ' := (97, I, J, R)) rfl (fun hc_4 => ?_) (fun hc_4 => ?_)
    · rw [if_pos hc_4] at h
      refine az_E.sn 1 (pc' := 31) (L' := [.ref 14]) (S' := [.int (-1 : Int32)]) (σ' := (97, I, J, R)) rfl ?_
      refine az_E.ret (v := some (.int (-1 : Int32))) (σ' := (97, I, J, R)) rfl ?_
      show az_E az_F ex 1 72 4 [.ref 14] [.int (-1 : Int32)] (97, I, J, R) _
      refine az_E.sn 1 (pc' := 6) (L' := [.ref 14]) (S' := [.int (41 : Int32), .int (-1 : Int32)]) (σ' := (97, I, J, R)) rfl ?_
      refine az_E.br (c := (-1 : Int32) = (41 : Int32)) (tt := 9) (ff := 33) (L' := [.ref 14]) (S' := []) (σ' := (97, I, J, R)) rfl (fun hn => absurd hn (by decide)) (fun _ => ?_)
      refine az_E.sn 1 (pc' := 34) (L' := [.ref 14]) (S' := [.ref 14]) (σ' := (97, I, J, R)) rfl ?_
      cases hx_6 : rs_Ta_fail I with
      | none => rw [hx_6] at h; cases h
      | some I_5 =>
        rw [hx_6] at h
        dsimp only at h
        refine az_E.call (d := 0) (k' := 67) (vs := [.ref 14]) (pc' := 37) (S' := []) (Q1 := fun v s => v = none ∧ s = (97, I_5, J, R)) rfl (az_E.deep (by omega) (re_Ta_fail (J := J) (R := R)  hx_6 ⟨rfl, rfl⟩)) (fun v s hq => ?_)
        obtain ⟨rfl, rfl⟩ := hq
        show az_E az_F ex 1 72 37 [.ref 14] [] (97, I_5, J, R) _
        have h := Option.some.inj h
        subst h
        exact az_E.ret (v := none) (σ' := (97, I_5, J, R)) rfl hQ
    · rw [if_neg hc_4] at h
      refine az_E.sn 4 (pc' := 26) (L' := [.ref 14]) (S' := [.int (I 14 2), .ref 15]) (σ' := (97, I, J, R)) rfl ?_
      by_cases hc_7 : (I 14 2) < 0 ∨ 120 ≤ (I 14 2).toNatClampNeg
      · rw [if_pos hc_7] at h; cases h
      · rw [if_neg hc_7] at h
        refine az_E.oi (o := az_ai az_F ex (97, I, J, R) 15 (I 14 2)) (pc' := 27) (L' := [.ref 14]) (S' := []) (σ' := (97, I, J, R)) (x := (I 15 (I 14 2).toNatClampNeg)) rfl (if_neg hc_7) ?_
        refine az_E.sn 1 (pc' := 31) (L' := [.ref 14]) (S' := [.int (I 15 (I 14 2).toNatClampNeg)]) (σ' := (97, I, J, R)) rfl ?_
        refine az_E.ret (v := some (.int (I 15 (I 14 2).toNatClampNeg))) (σ' := (97, I, J, R)) rfl ?_
        show az_E az_F ex 1 72 4 [.ref 14] [.int (I 15 (I 14 2).toNatClampNeg)] (97, I, J, R) _
        refine az_E.sn 1 (pc' := 6) (L' := [.ref 14]) (S' := [.int (41 : Int32), .int (I 15 (I 14 2).toNatClampNeg)]) (σ' := (97, I, J, R)) rfl ?_
        refine az_E.br (c := (I 15 (I 14 2).toNatClampNeg) = (41 : Int32)) (tt := 9) (ff := 33) (L' := [.ref 14]) (S' := []) (σ' := (97, I, J, R)) rfl (fun hc_8 => ?_) (fun hc_8 => ?_)
        · rw [if_pos hc_8] at h
          refine az_E.sn 5 (pc' := 18) (L' := [.ref 14]) (S' := [.int (I 14 3), .int (I 14 2), .ref 14]) (σ' := (97, I, J, R)) rfl ?_
          refine az_E.br (c := 0 ≤ (I 14 3)) (tt := 25) (ff := 21) (L' := [.ref 14]) (S' := [.int (I 14 2), .ref 14]) (σ' := (97, I, J, R)) rfl (fun hc_9 => ?_) (fun hc_9 => ?_)
          · rw [if_pos hc_9] at h
            refine az_E.sn 4 (pc' := 37) (L' := [.ref 14]) (S' := []) (σ' := (97, (az_u I 14 2 ((I 14 2) + (0 : Int32))), J, R)) rfl ?_
            have h := Option.some.inj h
            subst h
            exact az_E.ret (v := none) (σ' := (97, (az_u I 14 2 ((I 14 2) + (0 : Int32))), J, R)) rfl hQ
          · rw [if_neg hc_9] at h
            refine az_E.sn 5 (pc' := 37) (L' := [.ref 14]) (S' := []) (σ' := (97, (az_u I 14 2 ((I 14 2) + (1 : Int32))), J, R)) rfl ?_
            have h := Option.some.inj h
            subst h
            exact az_E.ret (v := none) (σ' := (97, (az_u I 14 2 ((I 14 2) + (1 : Int32))), J, R)) rfl hQ
        · rw [if_neg hc_8] at h
          refine az_E.sn 1 (pc' := 34) (L' := [.ref 14]) (S' := [.ref 14]) (σ' := (97, I, J, R)) rfl ?_
          cases hx_11 : rs_Ta_fail I with
          | none => rw [hx_11] at h; cases h
          | some I_10 =>
            rw [hx_11] at h
            dsimp only at h
            refine az_E.call (d := 0) (k' := 67) (vs := [.ref 14]) (pc' := 37) (S' := []) (Q1 := fun v s => v = none ∧ s = (97, I_10, J, R)) rfl (az_E.deep (by omega) (re_Ta_fail (J := J) (R := R)  hx_11 ⟨rfl, rfl⟩)) (fun v s hq => ?_)
            obtain ⟨rfl, rfl⟩ := hq
            show az_E az_F ex 1 72 37 [.ref 14] [] (97, I_10, J, R) _
            have h := Option.some.inj h
            subst h
            exact az_E.ret (v := none) (σ' := (97, I_10, J, R)) rfl hQ
set_option maxRecDepth 100000 in
set_option maxHeartbeats 4000000 in
theorem re_Ta_readNumber_48_21 {ex : az_X} {I : Nat → Nat → Int32} {J : Nat → Nat → Int64} {R : Nat → Nat → Option Nat} {v1 : Int32} (hR_14_4 : R 14 4 = some 21) {x : (Nat → Nat → Int32)} (h : rs_Ta_readNumber_48 21 I v1 = some x) {Q : Option Value → az_S → Prop} (hQ : Q none (97, x, J, R)) : az_E az_F ex 1 73 48 [.ref 14, .int v1, .retAddr 0] [] (97, I, J, R) Q := by
  unfold rs_Ta_readNumber_48 at h
  refine az_E.sn 1 (pc' := 49) (L' := [.ref 14, .int v1, .retAddr 0]) (S' := [.ref 14]) (σ' := (97, I, J, R)) rfl ?_
  refine az_E.ov (pc' := 52) (L' := [.ref 14, .int v1, .retAddr 0]) (S' := []) (σ' := (97, I, J, R)) (x := .ref 21) rfl (congrArg (fun z => some (va_rf z)) hR_14_4) ?_
  refine az_E.sn 2 (pc' := 55) (L' := [.ref 14, .int v1, .retAddr 0]) (S' := [.int v1, .int (35 : Int32), .ref 21]) (σ' := (97, I, J, R)) rfl ?_
  cases hx_4 : rs_La_add 21 I (35 : Int32) v1 with
  | none => rw [hx_4] at h; cases h
  | some o =>
    rw [hx_4] at h
    obtain ⟨x_2, I_3⟩ := o
    dsimp only at h
    refine az_E.call (d := 0) (k' := 28) (vs := [.ref 21, .int (35 : Int32), .int v1]) (pc' := 58) (S' := []) (Q1 := fun v s => v = some (.int x_2) ∧ s = (97, I_3, J, R)) rfl (az_E.deep (by omega) (re_La_add_21 (J := J) (R := R)  hx_4 ⟨rfl, rfl⟩)) (fun v s hq => ?_)
    obtain ⟨rfl, rfl⟩ := hq
    show az_E az_F ex 1 73 58 [.ref 14, .int v1, .retAddr 0] [.int x_2] (97, I_3, J, R) _
    refine az_E.sn 1 (pc' := 59) (L' := [.ref 14, .int v1, .retAddr 0]) (S' := []) (σ' := (97, I_3, J, R)) rfl ?_
    have h := Option.some.inj h
    subst h
    exact az_E.ret (v := none) (σ' := (97, I_3, J, R)) rfl hQ
set_option maxRecDepth 100000 in
set_option maxHeartbeats 4000000 in
theorem re_Ta_readNumber_4_b_21 {ex : az_X} {I : Nat → Nat → Int32} {J : Nat → Nat → Int64} {R : Nat → Nat → Option Nat} {v1 : Int32} {v2 : Int32} (hR_14_4 : R 14 4 = some 21) {x : ((Int32 × Int32 × (Nat → Nat → Int32)) ⊕ ((Nat → Nat → Int32)))} (h : rs_Ta_readNumber_4_b 21 v1 v2 I = some x) {Q : Option Value → az_S → Prop} (hQ : Sum.elim (fun s => az_E az_F ex 1 73 4 [.ref 14, .int s.1, .int s.2.1] [] (97, s.2.2, J, R) Q) (fun x => Q none (97, x, J, R)) x) : az_E az_F ex 1 73 4 [.ref 14, .int v1, .int v2] [] (97, I, J, R) Q := by
  unfold rs_Ta_readNumber_4_b at h
  refine az_E.sn 2 (pc' := 6) (L' := [.ref 14, .int v1, .int v2]) (S' := [.int (4 : Int32), .int v2]) (σ' := (97, I, J, R)) rfl ?_
  refine az_E.br (c := (4 : Int32) ≤ v2) (tt := 48) (ff := 9) (L' := [.ref 14, .int v1, .int v2]) (S' := []) (σ' := (97, I, J, R)) rfl (fun hc_1 => ?_) (fun hc_1 => ?_)
  · rw [if_pos hc_1] at h
    obtain ⟨x, hx, rfl⟩ := Option.map_eq_some_iff.mp h
    exact az_E.forget (L := [.ref 14, .int v1, .retAddr 0]) ⟨rfl, rfl, trivial, trivial⟩ (re_Ta_readNumber_48_21 (I := I) (J := J) (R := R) hR_14_4 hx hQ)
  · rw [if_neg hc_1] at h
    refine az_E.sn 1 (pc' := 10) (L' := [.ref 14, .int v1, .int v2]) (S' := [.ref 14]) (σ' := (97, I, J, R)) rfl ?_
    refine az_E.call (d := 0) (k' := 66) (vs := [.ref 14]) (pc' := 13) (S' := []) rfl ?_ (fun _ _ hq => hq)
    show az_E az_F ex 0 66 0 [.ref 14] [] (97, I, J, R) _
    refine az_E.sn 2 (pc' := 4) (L' := [.ref 14]) (S' := [.int (I 14 2)]) (σ' := (97, I, J, R)) rfl ?_
    refine az_E.br (c := (I 14 2) < 0) (tt := 30) (ff := 7) (L' := [.ref 14]) (S' := []) (σ' := (97, I, J, R)) rfl (fun hc_5 => ?_) (fun hc_5 => ?_)
    · rw [if_pos hc_5] at h
      refine az_E.sn 1 (pc' := 31) (L' := [.ref 14]) (S' := [.int (-1 : Int32)]) (σ' := (97, I, J, R)) rfl ?_
      refine az_E.ret (v := some (.int (-1 : Int32))) (σ' := (97, I, J, R)) rfl ?_
      show az_E az_F ex 1 73 13 [.ref 14, .int v1, .int v2] [.int (-1 : Int32)] (97, I, J, R) _
      refine az_E.call (d := 0) (k' := 74) (vs := [.int (-1 : Int32)]) (pc' := 16) (S' := []) rfl ?_ (fun _ _ hq => hq)
      show az_E az_F ex 0 74 0 [.int (-1 : Int32)] [] (97, I, J, R) _
      refine az_E.sn 2 (pc' := 3) (L' := [.int (-1 : Int32)]) (S' := [.int (48 : Int32), .int (-1 : Int32)]) (σ' := (97, I, J, R)) rfl ?_
      refine az_E.br (c := (-1 : Int32) < (48 : Int32)) (tt := 16) (ff := 6) (L' := [.int (-1 : Int32)]) (S' := []) (σ' := (97, I, J, R)) rfl (fun _ => ?_) (fun hn => absurd (by decide) hn)
      refine az_E.sn 1 (pc' := 17) (L' := [.int (-1 : Int32)]) (S' := [.int (0 : Int32)]) (σ' := (97, I, J, R)) rfl ?_
      refine az_E.ret (v := some (.int (0 : Int32))) (σ' := (97, I, J, R)) rfl ?_
      show az_E az_F ex 1 73 16 [.ref 14, .int v1, .int v2] [.int (0 : Int32)] (97, I, J, R) _
      refine az_E.br (c := (0 : Int32) = 0) (tt := 48) (ff := 19) (L' := [.ref 14, .int v1, .int v2]) (S' := []) (σ' := (97, I, J, R)) rfl (fun _ => ?_) (fun hn => absurd (by decide) hn)
      obtain ⟨x, hx, rfl⟩ := Option.map_eq_some_iff.mp h
      exact az_E.forget (L := [.ref 14, .int v1, .retAddr 0]) ⟨rfl, rfl, trivial, trivial⟩ (re_Ta_readNumber_48_21 (I := I) (J := J) (R := R) hR_14_4 hx hQ)
    · rw [if_neg hc_5] at h
      refine az_E.sn 4 (pc' := 15) (L' := [.ref 14]) (S' := [.int (I 14 1), .int (I 14 2)]) (σ' := (97, I, J, R)) rfl ?_
      refine az_E.br (c := (I 14 1) ≤ (I 14 2)) (tt := 30) (ff := 18) (L' := [.ref 14]) (S' := []) (σ' := (97, I, J, R)) rfl (fun hc_6 => ?_) (fun hc_6 => ?_)
      · rw [if_pos hc_6] at h
        refine az_E.sn 1 (pc' := 31) (L' := [.ref 14]) (S' := [.int (-1 : Int32)]) (σ' := (97, I, J, R)) rfl ?_
        refine az_E.ret (v := some (.int (-1 : Int32))) (σ' := (97, I, J, R)) rfl ?_
        show az_E az_F ex 1 73 13 [.ref 14, .int v1, .int v2] [.int (-1 : Int32)] (97, I, J, R) _
        refine az_E.call (d := 0) (k' := 74) (vs := [.int (-1 : Int32)]) (pc' := 16) (S' := []) rfl ?_ (fun _ _ hq => hq)
        show az_E az_F ex 0 74 0 [.int (-1 : Int32)] [] (97, I, J, R) _
        refine az_E.sn 2 (pc' := 3) (L' := [.int (-1 : Int32)]) (S' := [.int (48 : Int32), .int (-1 : Int32)]) (σ' := (97, I, J, R)) rfl ?_
        refine az_E.br (c := (-1 : Int32) < (48 : Int32)) (tt := 16) (ff := 6) (L' := [.int (-1 : Int32)]) (S' := []) (σ' := (97, I, J, R)) rfl (fun _ => ?_) (fun hn => absurd (by decide) hn)
        refine az_E.sn 1 (pc' := 17) (L' := [.int (-1 : Int32)]) (S' := [.int (0 : Int32)]) (σ' := (97, I, J, R)) rfl ?_
        refine az_E.ret (v := some (.int (0 : Int32))) (σ' := (97, I, J, R)) rfl ?_
        show az_E az_F ex 1 73 16 [.ref 14, .int v1, .int v2] [.int (0 : Int32)] (97, I, J, R) _
        refine az_E.br (c := (0 : Int32) = 0) (tt := 48) (ff := 19) (L' := [.ref 14, .int v1, .int v2]) (S' := []) (σ' := (97, I, J, R)) rfl (fun _ => ?_) (fun hn => absurd (by decide) hn)
        obtain ⟨x, hx, rfl⟩ := Option.map_eq_some_iff.mp h
        exact az_E.forget (L := [.ref 14, .int v1, .retAddr 0]) ⟨rfl, rfl, trivial, trivial⟩ (re_Ta_readNumber_48_21 (I := I) (J := J) (R := R) hR_14_4 hx hQ)
      · rw [if_neg hc_6] at h
        refine az_E.sn 4 (pc' := 26) (L' := [.ref 14]) (S' := [.int (I 14 2), .ref 15]) (σ' := (97, I, J, R)) rfl ?_
        by_cases hc_7 : (I 14 2) < 0 ∨ 120 ≤ (I 14 2).toNatClampNeg
        · rw [if_pos hc_7] at h; cases h
        · rw [if_neg hc_7] at h
          refine az_E.oi (o := az_ai az_F ex (97, I, J, R) 15 (I 14 2)) (pc' := 27) (L' := [.ref 14]) (S' := []) (σ' := (97, I, J, R)) (x := (I 15 (I 14 2).toNatClampNeg)) rfl (if_neg hc_7) ?_
          refine az_E.sn 1 (pc' := 31) (L' := [.ref 14]) (S' := [.int (I 15 (I 14 2).toNatClampNeg)]) (σ' := (97, I, J, R)) rfl ?_
          refine az_E.ret (v := some (.int (I 15 (I 14 2).toNatClampNeg))) (σ' := (97, I, J, R)) rfl ?_
          show az_E az_F ex 1 73 13 [.ref 14, .int v1, .int v2] [.int (I 15 (I 14 2).toNatClampNeg)] (97, I, J, R) _
          refine az_E.call (d := 0) (k' := 74) (vs := [.int (I 15 (I 14 2).toNatClampNeg)]) (pc' := 16) (S' := []) rfl ?_ (fun _ _ hq => hq)
          show az_E az_F ex 0 74 0 [.int (I 15 (I 14 2).toNatClampNeg)] [] (97, I, J, R) _
          refine az_E.sn 2 (pc' := 3) (L' := [.int (I 15 (I 14 2).toNatClampNeg)]) (S' := [.int (48 : Int32), .int (I 15 (I 14 2).toNatClampNeg)]) (σ' := (97, I, J, R)) rfl ?_
          refine az_E.br (c := (I 15 (I 14 2).toNatClampNeg) < (48 : Int32)) (tt := 16) (ff := 6) (L' := [.int (I 15 (I 14 2).toNatClampNeg)]) (S' := []) (σ' := (97, I, J, R)) rfl (fun hc_8 => ?_) (fun hc_8 => ?_)
          · rw [if_pos hc_8] at h
            refine az_E.sn 1 (pc' := 17) (L' := [.int (I 15 (I 14 2).toNatClampNeg)]) (S' := [.int (0 : Int32)]) (σ' := (97, I, J, R)) rfl ?_
            refine az_E.ret (v := some (.int (0 : Int32))) (σ' := (97, I, J, R)) rfl ?_
            show az_E az_F ex 1 73 16 [.ref 14, .int v1, .int v2] [.int (0 : Int32)] (97, I, J, R) _
            refine az_E.br (c := (0 : Int32) = 0) (tt := 48) (ff := 19) (L' := [.ref 14, .int v1, .int v2]) (S' := []) (σ' := (97, I, J, R)) rfl (fun _ => ?_) (fun hn => absurd (by decide) hn)
            obtain ⟨x, hx, rfl⟩ := Option.map_eq_some_iff.mp h
            exact az_E.forget (L := [.ref 14, .int v1, .retAddr 0]) ⟨rfl, rfl, trivial, trivial⟩ (re_Ta_readNumber_48_21 (I := I) (J := J) (R := R) hR_14_4 hx hQ)
          · rw [if_neg hc_8] at h
            refine az_E.sn 2 (pc' := 9) (L' := [.int (I 15 (I 14 2).toNatClampNeg)]) (S' := [.int (57 : Int32), .int (I 15 (I 14 2).toNatClampNeg)]) (σ' := (97, I, J, R)) rfl ?_
            refine az_E.br (c := (57 : Int32) < (I 15 (I 14 2).toNatClampNeg)) (tt := 16) (ff := 12) (L' := [.int (I 15 (I 14 2).toNatClampNeg)]) (S' := []) (σ' := (97, I, J, R)) rfl (fun hc_9 => ?_) (fun hc_9 => ?_)
            · rw [if_pos hc_9] at h
              refine az_E.sn 1 (pc' := 17) (L' := [.int (I 15 (I 14 2).toNatClampNeg)]) (S' := [.int (0 : Int32)]) (σ' := (97, I, J, R)) rfl ?_
              refine az_E.ret (v := some (.int (0 : Int32))) (σ' := (97, I, J, R)) rfl ?_
              show az_E az_F ex 1 73 16 [.ref 14, .int v1, .int v2] [.int (0 : Int32)] (97, I, J, R) _
              refine az_E.br (c := (0 : Int32) = 0) (tt := 48) (ff := 19) (L' := [.ref 14, .int v1, .int v2]) (S' := []) (σ' := (97, I, J, R)) rfl (fun _ => ?_) (fun hn => absurd (by decide) hn)
              obtain ⟨x, hx, rfl⟩ := Option.map_eq_some_iff.mp h
              exact az_E.forget (L := [.ref 14, .int v1, .retAddr 0]) ⟨rfl, rfl, trivial, trivial⟩ (re_Ta_readNumber_48_21 (I := I) (J := J) (R := R) hR_14_4 hx hQ)
            · rw [if_neg hc_9] at h
              refine az_E.sn 2 (pc' := 17) (L' := [.int (I 15 (I 14 2).toNatClampNeg)]) (S' := [.int (1 : Int32)]) (σ' := (97, I, J, R)) rfl ?_
              refine az_E.ret (v := some (.int (1 : Int32))) (σ' := (97, I, J, R)) rfl ?_
              show az_E az_F ex 1 73 16 [.ref 14, .int v1, .int v2] [.int (1 : Int32)] (97, I, J, R) _
              refine az_E.br (c := (1 : Int32) = 0) (tt := 48) (ff := 19) (L' := [.ref 14, .int v1, .int v2]) (S' := []) (σ' := (97, I, J, R)) rfl (fun hn => absurd hn (by decide)) (fun _ => ?_)
              refine az_E.sn 4 (pc' := 24) (L' := [.ref 14, .int v1, .int v2]) (S' := [.ref 14, .int (v1 * (10 : Int32))]) (σ' := (97, I, J, R)) rfl ?_
              refine az_E.call (d := 0) (k' := 66) (vs := [.ref 14]) (pc' := 27) (S' := [.int (v1 * (10 : Int32))]) rfl ?_ (fun _ _ hq => hq)
              show az_E az_F ex 0 66 0 [.ref 14] [] (97, I, J, R) _
              refine az_E.sn 2 (pc' := 4) (L' := [.ref 14]) (S' := [.int (I 14 2)]) (σ' := (97, I, J, R)) rfl ?_
              refine az_E.br (c := (I 14 2) < 0) (tt := 30) (ff := 7) (L' := [.ref 14]) (S' := []) (σ' := (97, I, J, R)) rfl (fun hc_10 => ?_) (fun hc_10 => ?_)
              · rw [if_pos hc_10] at h
                refine az_E.sn 1 (pc' := 31) (L' := [.ref 14]) (S' := [.int (-1 : Int32)]) (σ' := (97, I, J, R)) rfl ?_
                refine az_E.ret (v := some (.int (-1 : Int32))) (σ' := (97, I, J, R)) rfl ?_
                show az_E az_F ex 1 73 27 [.ref 14, .int v1, .int v2] [.int (-1 : Int32), .int (v1 * (10 : Int32))] (97, I, J, R) _
                refine az_E.sn 12 (pc' := 4) (L' := [.ref 14, .int (((v1 * (10 : Int32)) + (-1 : Int32)) - (48 : Int32)), .int (v2 + (1 : Int32))]) (S' := []) (σ' := (97, (az_u I 14 2 ((I 14 2) + (1 : Int32))), J, R)) rfl ?_
                have h := Option.some.inj h
                subst h
                exact az_E.forget (L := [.ref 14, .int (((v1 * (10 : Int32)) + (-1 : Int32)) - (48 : Int32)), .int (v2 + (1 : Int32))]) ⟨rfl, rfl, rfl, trivial⟩ hQ
              · rw [if_neg hc_10] at h
                refine az_E.sn 4 (pc' := 15) (L' := [.ref 14]) (S' := [.int (I 14 1), .int (I 14 2)]) (σ' := (97, I, J, R)) rfl ?_
                refine az_E.br (c := (I 14 1) ≤ (I 14 2)) (tt := 30) (ff := 18) (L' := [.ref 14]) (S' := []) (σ' := (97, I, J, R)) rfl (fun hc_11 => ?_) (fun hc_11 => ?_)
                · rw [if_pos hc_11] at h
                  refine az_E.sn 1 (pc' := 31) (L' := [.ref 14]) (S' := [.int (-1 : Int32)]) (σ' := (97, I, J, R)) rfl ?_
                  refine az_E.ret (v := some (.int (-1 : Int32))) (σ' := (97, I, J, R)) rfl ?_
                  show az_E az_F ex 1 73 27 [.ref 14, .int v1, .int v2] [.int (-1 : Int32), .int (v1 * (10 : Int32))] (97, I, J, R) _
                  refine az_E.sn 12 (pc' := 4) (L' := [.ref 14, .int (((v1 * (10 : Int32)) + (-1 : Int32)) - (48 : Int32)), .int (v2 + (1 : Int32))]) (S' := []) (σ' := (97, (az_u I 14 2 ((I 14 2) + (1 : Int32))), J, R)) rfl ?_
                  have h := Option.some.inj h
                  subst h
                  exact az_E.forget (L := [.ref 14, .int (((v1 * (10 : Int32)) + (-1 : Int32)) - (48 : Int32)), .int (v2 + (1 : Int32))]) ⟨rfl, rfl, rfl, trivial⟩ hQ
                · rw [if_neg hc_11] at h
                  refine az_E.sn 4 (pc' := 26) (L' := [.ref 14]) (S' := [.int (I 14 2), .ref 15]) (σ' := (97, I, J, R)) rfl ?_
                  by_cases hc_12 : (I 14 2) < 0 ∨ 120 ≤ (I 14 2).toNatClampNeg
                  · rw [if_pos hc_12] at h; cases h
                  · rw [if_neg hc_12] at h
                    refine az_E.oi (o := az_ai az_F ex (97, I, J, R) 15 (I 14 2)) (pc' := 27) (L' := [.ref 14]) (S' := []) (σ' := (97, I, J, R)) (x := (I 15 (I 14 2).toNatClampNeg)) rfl (if_neg hc_12) ?_
                    refine az_E.sn 1 (pc' := 31) (L' := [.ref 14]) (S' := [.int (I 15 (I 14 2).toNatClampNeg)]) (σ' := (97, I, J, R)) rfl ?_
                    refine az_E.ret (v := some (.int (I 15 (I 14 2).toNatClampNeg))) (σ' := (97, I, J, R)) rfl ?_
                    show az_E az_F ex 1 73 27 [.ref 14, .int v1, .int v2] [.int (I 15 (I 14 2).toNatClampNeg), .int (v1 * (10 : Int32))] (97, I, J, R) _
                    refine az_E.sn 12 (pc' := 4) (L' := [.ref 14, .int (((v1 * (10 : Int32)) + (I 15 (I 14 2).toNatClampNeg)) - (48 : Int32)), .int (v2 + (1 : Int32))]) (S' := []) (σ' := (97, (az_u I 14 2 ((I 14 2) + (1 : Int32))), J, R)) rfl ?_
                    have h := Option.some.inj h
                    subst h
                    exact az_E.forget (L := [.ref 14, .int (((v1 * (10 : Int32)) + (I 15 (I 14 2).toNatClampNeg)) - (48 : Int32)), .int (v2 + (1 : Int32))]) ⟨rfl, rfl, rfl, trivial⟩ hQ
set_option maxRecDepth 100000 in
set_option maxHeartbeats 4000000 in
theorem re_Ta_readNumber_4_21 {ex : az_X} {I : Nat → Nat → Int32} {J : Nat → Nat → Int64} {R : Nat → Nat → Option Nat} {v1 : Int32} {v2 : Int32} (hR_14_4 : R 14 4 = some 21) {x : (Nat → Nat → Int32)} (h : rs_Ta_readNumber_4 21 I v1 v2 = some x) {Q : Option Value → az_S → Prop} (hQ : Q none (97, x, J, R)) : az_E az_F ex 1 73 4 [.ref 14, .int v1, .int v2] [] (97, I, J, R) Q := by
  unfold rs_Ta_readNumber_4 at h
  refine az_lp_E (G := fun s => az_E az_F ex 1 73 4 [.ref 14, .int s.1, .int s.2.1] [] (97, s.2.2, J, R) Q) (H := fun x => Q none (97, x, J, R)) (fun s o hb ho => ?_) _ _ _ h hQ
  exact re_Ta_readNumber_4_b_21 hR_14_4 hb ho
set_option maxRecDepth 100000 in
set_option maxHeartbeats 4000000 in
theorem re_Ta_readNumber_21 {ex : az_X} {I : Nat → Nat → Int32} {J : Nat → Nat → Int64} {R : Nat → Nat → Option Nat} (hR_14_4 : R 14 4 = some 21) {o : (Nat → Nat → Int32)} (h : rs_Ta_readNumber 21 I = some o) {Q : Option Value → az_S → Prop} (hQ : Q none (97, o, J, R)) : az_E az_F ex 1 73 0 [.ref 14, .retAddr 0, .retAddr 0] [] (97, I, J, R) Q := by
  unfold rs_Ta_readNumber at h
  refine az_E.sn 4 (pc' := 4) (L' := [.ref 14, .int (0 : Int32), .int (0 : Int32)]) (S' := []) (σ' := (97, I, J, R)) rfl ?_
  exact az_E.forget (L := [.ref 14, .int (0 : Int32), .int (0 : Int32)]) ⟨rfl, rfl, rfl, trivial⟩ (re_Ta_readNumber_4_21 (I := I) (J := J) (R := R) hR_14_4 h hQ)
set_option maxRecDepth 100000 in
set_option maxHeartbeats 4000000 in
theorem re_Ta_readOperand_112_21 {rec : az_GT} {d : Nat} {ex : az_X} {I : Nat → Nat → Int32} {J : Nat → Nat → Int64} {R : Nat → Nat → Option Nat} {s0 : Int32} (hg_69 : ∀ (b1 b2 b3 b4 : Int32) (I : Nat → Nat → Int32) (o : Int32 × (Nat → Nat → Int32)), rec 69 b1 b2 b3 b4 I = some o → ∀ {J : Nat → Nat → Int64} {R : Nat → Nat → Option Nat} {Q : Option Value → az_S → Prop}, R 14 4 = some 21 → Q none (97, o.2, J, R) → az_E az_F ex d 69 0 [.ref 14, .int b1, .int b2, .retAddr 0, .retAddr 0] [] (97, I, J, R) Q) (hg_71 : ∀ (b1 b2 b3 b4 : Int32) (I : Nat → Nat → Int32) (o : Int32 × (Nat → Nat → Int32)), rec 71 b1 b2 b3 b4 I = some o → ∀ {J : Nat → Nat → Int64} {R : Nat → Nat → Option Nat} {Q : Option Value → az_S → Prop}, R 14 4 = some 21 → Q none (97, o.2, J, R) → az_E az_F ex d 71 0 [.ref 14, .int b1, .retAddr 0] [] (97, I, J, R) Q) (hR_14_4 : R 14 4 = some 21) {x : (Nat → Nat → Int32)} (h : rs_Ta_readOperand_112 rec 21 I s0 = some x) {Q : Option Value → az_S → Prop} (hQ : Q none (97, x, J, R)) : az_E az_F ex (d + 2) 71 112 [.retAddr 0, .retAddr 0, .retAddr 0] [.int s0, .ref 21] (97, I, J, R) Q := by
  unfold rs_Ta_readOperand_112 at h
  refine az_E.sn 1 (pc' := 113) (L' := [.retAddr 0, .retAddr 0, .retAddr 0]) (S' := [.int (0 : Int32), .int s0, .ref 21]) (σ' := (97, I, J, R)) rfl ?_
  cases hx_38 : rs_La_add 21 I s0 (0 : Int32) with
  | none => rw [hx_38] at h; cases h
  | some o =>
    rw [hx_38] at h
    obtain ⟨x_36, I_37⟩ := o
    dsimp only at h
    refine az_E.call (d := (d + 1)) (k' := 28) (vs := [.ref 21, .int s0, .int (0 : Int32)]) (pc' := 116) (S' := []) (Q1 := fun v s => v = some (.int x_36) ∧ s = (97, I_37, J, R)) rfl (az_E.deep (by omega) (re_La_add_21 (J := J) (R := R)  hx_38 ⟨rfl, rfl⟩)) (fun v s hq => ?_)
    obtain ⟨rfl, rfl⟩ := hq
    show az_E az_F ex (d + 2) 71 116 [.retAddr 0, .retAddr 0, .retAddr 0] [.int x_36] (97, I_37, J, R) _
    refine az_E.sn 2 (pc' := 155) (L' := [.retAddr 0, .retAddr 0, .retAddr 0]) (S' := []) (σ' := (97, I_37, J, R)) rfl ?_
    have h := Option.some.inj h
    subst h
    exact az_E.ret (v := none) (σ' := (97, I_37, J, R)) rfl hQ
set_option maxRecDepth 100000 in
set_option maxHeartbeats 4000000 in
theorem re_Ta_readOperand_78_21 {rec : az_GT} {d : Nat} {ex : az_X} {I : Nat → Nat → Int32} {J : Nat → Nat → Int64} {R : Nat → Nat → Option Nat} {v1 : Int32} {v2 : Int32} (hg_69 : ∀ (b1 b2 b3 b4 : Int32) (I : Nat → Nat → Int32) (o : Int32 × (Nat → Nat → Int32)), rec 69 b1 b2 b3 b4 I = some o → ∀ {J : Nat → Nat → Int64} {R : Nat → Nat → Option Nat} {Q : Option Value → az_S → Prop}, R 14 4 = some 21 → Q none (97, o.2, J, R) → az_E az_F ex d 69 0 [.ref 14, .int b1, .int b2, .retAddr 0, .retAddr 0] [] (97, I, J, R) Q) (hg_71 : ∀ (b1 b2 b3 b4 : Int32) (I : Nat → Nat → Int32) (o : Int32 × (Nat → Nat → Int32)), rec 71 b1 b2 b3 b4 I = some o → ∀ {J : Nat → Nat → Int64} {R : Nat → Nat → Option Nat} {Q : Option Value → az_S → Prop}, R 14 4 = some 21 → Q none (97, o.2, J, R) → az_E az_F ex d 71 0 [.ref 14, .int b1, .retAddr 0] [] (97, I, J, R) Q) (hR_14_4 : R 14 4 = some 21) {x : (Nat → Nat → Int32)} (h : rs_Ta_readOperand_78 rec 21 I v1 v2 = some x) {Q : Option Value → az_S → Prop} (hQ : Q none (97, x, J, R)) : az_E az_F ex (d + 2) 71 78 [.ref 14, .int v1, .int v2] [] (97, I, J, R) Q := by
  unfold rs_Ta_readOperand_78 at h
  refine az_E.sn 10 (pc' := 92) (L' := [.ref 14, .int v1, .int v2]) (S' := [.int (v1 + (1 : Int32)), .ref 14]) (σ' := (97, (az_u I 14 2 ((I 14 2) + (1 : Int32))), J, R)) rfl ?_
  cases hx_34 : rec 71 (v1 + (1 : Int32)) 0 0 0 (az_u I 14 2 ((I 14 2) + (1 : Int32))) with
  | none => rw [hx_34] at h; cases h
  | some o =>
    rw [hx_34] at h
    obtain ⟨x_32, I_33⟩ := o
    dsimp only at h
    refine az_E.call (d := (d + 1)) (k' := 71) (vs := [.ref 14, .int (v1 + (1 : Int32))]) (pc' := 95) (S' := []) (Q1 := fun v s => v = none ∧ s = (97, I_33, J, R)) rfl (az_E.deep (by omega) (hg_71 _ _ _ _ _ _ hx_34 (J := J) (R := R) hR_14_4 ⟨rfl, rfl⟩)) (fun v s hq => ?_)
    obtain ⟨rfl, rfl⟩ := hq
    show az_E az_F ex (d + 2) 71 95 [.ref 14, .int v1, .int v2] [] (97, I_33, J, R) _
    refine az_E.sn 1 (pc' := 96) (L' := [.ref 14, .int v1, .int v2]) (S' := [.ref 14]) (σ' := (97, I_33, J, R)) rfl ?_
    refine az_E.ov (pc' := 99) (L' := [.ref 14, .int v1, .int v2]) (S' := []) (σ' := (97, I_33, J, R)) (x := .ref 21) rfl (congrArg (fun z => some (va_rf z)) hR_14_4) ?_
    refine az_E.sn 2 (pc' := 102) (L' := [.ref 14, .int v1, .int v2]) (S' := [.int (33 : Int32), .int v2, .ref 21]) (σ' := (97, I_33, J, R)) rfl ?_
    refine az_E.br (c := v2 = (33 : Int32)) (tt := 105) (ff := 110) (L' := [.ref 14, .int v1, .int v2]) (S' := [.ref 21]) (σ' := (97, I_33, J, R)) rfl (fun hc_35 => ?_) (fun hc_35 => ?_)
    · rw [if_pos hc_35] at h
      refine az_E.sn 2 (pc' := 112) (L' := [.ref 14, .int v1, .int v2]) (S' := [.int (33 : Int32), .ref 21]) (σ' := (97, I_33, J, R)) rfl ?_
      exact az_E.forget (L := [.retAddr 0, .retAddr 0, .retAddr 0]) ⟨trivial, trivial, trivial, trivial⟩ (re_Ta_readOperand_112_21 (I := I_33) (J := J) (R := R) hg_69 hg_71 hR_14_4 h hQ)
    · rw [if_neg hc_35] at h
      refine az_E.sn 1 (pc' := 112) (L' := [.ref 14, .int v1, .int v2]) (S' := [.int (126 : Int32), .ref 21]) (σ' := (97, I_33, J, R)) rfl ?_
      exact az_E.forget (L := [.retAddr 0, .retAddr 0, .retAddr 0]) ⟨trivial, trivial, trivial, trivial⟩ (re_Ta_readOperand_112_21 (I := I_33) (J := J) (R := R) hg_69 hg_71 hR_14_4 h hQ)
set_option maxRecDepth 100000 in
set_option maxHeartbeats 4000000 in
theorem re_Ta_readOperand_21 {rec : az_GT} {d : Nat} {ex : az_X} {I : Nat → Nat → Int32} {J : Nat → Nat → Int64} {R : Nat → Nat → Option Nat} {a1 : Int32} (hg_69 : ∀ (b1 b2 b3 b4 : Int32) (I : Nat → Nat → Int32) (o : Int32 × (Nat → Nat → Int32)), rec 69 b1 b2 b3 b4 I = some o → ∀ {J : Nat → Nat → Int64} {R : Nat → Nat → Option Nat} {Q : Option Value → az_S → Prop}, R 14 4 = some 21 → Q none (97, o.2, J, R) → az_E az_F ex d 69 0 [.ref 14, .int b1, .int b2, .retAddr 0, .retAddr 0] [] (97, I, J, R) Q) (hg_71 : ∀ (b1 b2 b3 b4 : Int32) (I : Nat → Nat → Int32) (o : Int32 × (Nat → Nat → Int32)), rec 71 b1 b2 b3 b4 I = some o → ∀ {J : Nat → Nat → Int64} {R : Nat → Nat → Option Nat} {Q : Option Value → az_S → Prop}, R 14 4 = some 21 → Q none (97, o.2, J, R) → az_E az_F ex d 71 0 [.ref 14, .int b1, .retAddr 0] [] (97, I, J, R) Q) (hR_14_4 : R 14 4 = some 21) {o : (Nat → Nat → Int32)} (h : rs_Ta_readOperand rec 21 I a1 = some o) {Q : Option Value → az_S → Prop} (hQ : Q none (97, o, J, R)) : az_E az_F ex (d + 2) 71 0 [.ref 14, .int a1, .retAddr 0] [] (97, I, J, R) Q := by
  unfold rs_Ta_readOperand at h
  refine az_E.sn 1 (pc' := 1) (L' := [.ref 14, .int a1, .retAddr 0]) (S' := [.ref 14]) (σ' := (97, I, J, R)) rfl ?_
  refine az_E.call (d := (d + 1)) (k' := 66) (vs := [.ref 14]) (pc' := 4) (S' := []) rfl ?_ (fun _ _ hq => hq)
  show az_E az_F ex (d + 1) 66 0 [.ref 14] [] (97, I, J, R) _
  refine az_E.sn 2 (pc' := 4) (L' := [.ref 14]) (S' := [.int (I 14 2)]) (σ' := (97, I, J, R)) rfl ?_
  refine az_E.br (c := (I 14 2) < 0) (tt := 30) (ff := 7) (L' := [.ref 14]) (S' := []) (σ' := (97, I, J, R)) rfl (fun hc_1 => ?_) (fun hc_1 => ?_)
  · rw [if_pos hc_1] at h
    refine az_E.sn 1 (pc' := 31) (L' := [.ref 14]) (S' := [.int (-1 : Int32)]) (σ' := (97, I, J, R)) rfl ?_
    refine az_E.ret (v := some (.int (-1 : Int32))) (σ' := (97, I, J, R)) rfl ?_
    show az_E az_F ex (d + 2) 71 4 [.ref 14, .int a1, .retAddr 0] [.int (-1 : Int32)] (97, I, J, R) _
    refine az_E.sn 2 (pc' := 6) (L' := [.ref 14, .int a1, .int (-1 : Int32)]) (S' := [.int (-1 : Int32)]) (σ' := (97, I, J, R)) rfl ?_
    refine az_E.call (d := (d + 1)) (k' := 74) (vs := [.int (-1 : Int32)]) (pc' := 9) (S' := []) rfl ?_ (fun _ _ hq => hq)
    show az_E az_F ex (d + 1) 74 0 [.int (-1 : Int32)] [] (97, I, J, R) _
    refine az_E.sn 2 (pc' := 3) (L' := [.int (-1 : Int32)]) (S' := [.int (48 : Int32), .int (-1 : Int32)]) (σ' := (97, I, J, R)) rfl ?_
    refine az_E.br (c := (-1 : Int32) < (48 : Int32)) (tt := 16) (ff := 6) (L' := [.int (-1 : Int32)]) (S' := []) (σ' := (97, I, J, R)) rfl (fun _ => ?_) (fun hn => absurd (by decide) hn)
    refine az_E.sn 1 (pc' := 17) (L' := [.int (-1 : Int32)]) (S' := [.int (0 : Int32)]) (σ' := (97, I, J, R)) rfl ?_
    refine az_E.ret (v := some (.int (0 : Int32))) (σ' := (97, I, J, R)) rfl ?_
    show az_E az_F ex (d + 2) 71 9 [.ref 14, .int a1, .int (-1 : Int32)] [.int (0 : Int32)] (97, I, J, R) _
    refine az_E.br (c := (0 : Int32) = 0) (tt := 19) (ff := 12) (L' := [.ref 14, .int a1, .int (-1 : Int32)]) (S' := []) (σ' := (97, I, J, R)) rfl (fun _ => ?_) (fun hn => absurd (by decide) hn)
    refine az_E.sn 1 (pc' := 20) (L' := [.ref 14, .int a1, .int (-1 : Int32)]) (S' := [.int (-1 : Int32)]) (σ' := (97, I, J, R)) rfl ?_
    cases hx_3 : rs_Ta_nameOf (-1 : Int32) with
    | none => rw [hx_3] at h; cases h
    | some x_2 =>
      rw [hx_3] at h
      dsimp only at h
      refine az_E.call (d := (d + 1)) (k' := 75) (vs := [.int (-1 : Int32)]) (pc' := 23) (S' := []) (Q1 := fun v s => v = some (.int x_2) ∧ s = (97, I, J, R)) rfl (az_E.deep (by omega) (re_Ta_nameOf (J := J) (R := R)  hx_3 ⟨rfl, rfl⟩)) (fun v s hq => ?_)
      obtain ⟨rfl, rfl⟩ := hq
      show az_E az_F ex (d + 2) 71 23 [.ref 14, .int a1, .int (-1 : Int32)] [.int x_2] (97, I, J, R) _
      refine az_E.br (c := x_2 < 0) (tt := 53) (ff := 26) (L' := [.ref 14, .int a1, .int (-1 : Int32)]) (S' := []) (σ' := (97, I, J, R)) rfl (fun hc_4 => ?_) (fun hc_4 => ?_)
      · rw [if_pos hc_4] at h
        refine az_E.sn 2 (pc' := 56) (L' := [.ref 14, .int a1, .int (-1 : Int32)]) (S' := [.int (6 : Int32), .int a1]) (σ' := (97, I, J, R)) rfl ?_
        refine az_E.br (c := a1 < (6 : Int32)) (tt := 66) (ff := 59) (L' := [.ref 14, .int a1, .int (-1 : Int32)]) (S' := []) (σ' := (97, I, J, R)) rfl (fun hc_5 => ?_) (fun hc_5 => ?_)
        · rw [if_pos hc_5] at h
          refine az_E.sn 2 (pc' := 69) (L' := [.ref 14, .int a1, .int (-1 : Int32)]) (S' := [.int (33 : Int32), .int (-1 : Int32)]) (σ' := (97, I, J, R)) rfl ?_
          refine az_E.br (c := (-1 : Int32) = (33 : Int32)) (tt := 78) (ff := 72) (L' := [.ref 14, .int a1, .int (-1 : Int32)]) (S' := []) (σ' := (97, I, J, R)) rfl (fun hn => absurd hn (by decide)) (fun _ => ?_)
          refine az_E.sn 2 (pc' := 75) (L' := [.ref 14, .int a1, .int (-1 : Int32)]) (S' := [.int (45 : Int32), .int (-1 : Int32)]) (σ' := (97, I, J, R)) rfl ?_
          refine az_E.br (c := (-1 : Int32) = (45 : Int32)) (tt := 78) (ff := 120) (L' := [.ref 14, .int a1, .int (-1 : Int32)]) (S' := []) (σ' := (97, I, J, R)) rfl (fun hn => absurd hn (by decide)) (fun _ => ?_)
          refine az_E.sn 2 (pc' := 123) (L' := [.ref 14, .int a1, .int (-1 : Int32)]) (S' := [.int (40 : Int32), .int (-1 : Int32)]) (σ' := (97, I, J, R)) rfl ?_
          refine az_E.br (c := (-1 : Int32) = (40 : Int32)) (tt := 126) (ff := 151) (L' := [.ref 14, .int a1, .int (-1 : Int32)]) (S' := []) (σ' := (97, I, J, R)) rfl (fun hn => absurd hn (by decide)) (fun _ => ?_)
          refine az_E.sn 1 (pc' := 152) (L' := [.ref 14, .int a1, .int (-1 : Int32)]) (S' := [.ref 14]) (σ' := (97, I, J, R)) rfl ?_
          cases hx_7 : rs_Ta_fail I with
          | none => rw [hx_7] at h; cases h
          | some I_6 =>
            rw [hx_7] at h
            dsimp only at h
            refine az_E.call (d := (d + 1)) (k' := 67) (vs := [.ref 14]) (pc' := 155) (S' := []) (Q1 := fun v s => v = none ∧ s = (97, I_6, J, R)) rfl (az_E.deep (by omega) (re_Ta_fail (J := J) (R := R)  hx_7 ⟨rfl, rfl⟩)) (fun v s hq => ?_)
            obtain ⟨rfl, rfl⟩ := hq
            show az_E az_F ex (d + 2) 71 155 [.ref 14, .int a1, .int (-1 : Int32)] [] (97, I_6, J, R) _
            have h := Option.some.inj h
            subst h
            exact az_E.ret (v := none) (σ' := (97, I_6, J, R)) rfl hQ
        · rw [if_neg hc_5] at h
          refine az_E.sn 1 (pc' := 60) (L' := [.ref 14, .int a1, .int (-1 : Int32)]) (S' := [.ref 14]) (σ' := (97, I, J, R)) rfl ?_
          cases hx_9 : rs_Ta_fail I with
          | none => rw [hx_9] at h; cases h
          | some I_8 =>
            rw [hx_9] at h
            dsimp only at h
            refine az_E.call (d := (d + 1)) (k' := 67) (vs := [.ref 14]) (pc' := 63) (S' := []) (Q1 := fun v s => v = none ∧ s = (97, I_8, J, R)) rfl (az_E.deep (by omega) (re_Ta_fail (J := J) (R := R)  hx_9 ⟨rfl, rfl⟩)) (fun v s hq => ?_)
            obtain ⟨rfl, rfl⟩ := hq
            show az_E az_F ex (d + 2) 71 63 [.ref 14, .int a1, .int (-1 : Int32)] [] (97, I_8, J, R) _
            refine az_E.sn 1 (pc' := 155) (L' := [.ref 14, .int a1, .int (-1 : Int32)]) (S' := []) (σ' := (97, I_8, J, R)) rfl ?_
            have h := Option.some.inj h
            subst h
            exact az_E.ret (v := none) (σ' := (97, I_8, J, R)) rfl hQ
      · rw [if_neg hc_4] at h
        refine az_E.sn 7 (pc' := 37) (L' := [.ref 14, .int a1, .int (-1 : Int32)]) (S' := [.ref 14]) (σ' := (97, (az_u I 14 2 ((I 14 2) + (1 : Int32))), J, R)) rfl ?_
        refine az_E.ov (pc' := 40) (L' := [.ref 14, .int a1, .int (-1 : Int32)]) (S' := []) (σ' := (97, (az_u I 14 2 ((I 14 2) + (1 : Int32))), J, R)) (x := .ref 21) rfl (congrArg (fun z => some (va_rf z)) hR_14_4) ?_
        refine az_E.sn 2 (pc' := 43) (L' := [.ref 14, .int a1, .int (-1 : Int32)]) (S' := [.int (-1 : Int32), .int (110 : Int32), .ref 21]) (σ' := (97, (az_u I 14 2 ((I 14 2) + (1 : Int32))), J, R)) rfl ?_
        refine az_E.call (d := (d + 1)) (k' := 75) (vs := [.int (-1 : Int32)]) (pc' := 46) (S' := [.int (110 : Int32), .ref 21]) (Q1 := fun v s => v = some (.int x_2) ∧ s = (97, (az_u I 14 2 ((I 14 2) + (1 : Int32))), J, R)) rfl (az_E.deep (by omega) (re_Ta_nameOf (J := J) (R := R)  hx_3 ⟨rfl, rfl⟩)) (fun v s hq => ?_)
        obtain ⟨rfl, rfl⟩ := hq
        show az_E az_F ex (d + 2) 71 46 [.ref 14, .int a1, .int (-1 : Int32)] [.int x_2, .int (110 : Int32), .ref 21] (97, (az_u I 14 2 ((I 14 2) + (1 : Int32))), J, R) _
        cases hx_12 : rs_La_add 21 (az_u I 14 2 ((I 14 2) + (1 : Int32))) (110 : Int32) x_2 with
        | none => rw [hx_12] at h; cases h
        | some o =>
          rw [hx_12] at h
          obtain ⟨x_10, I_11⟩ := o
          dsimp only at h
          refine az_E.call (d := (d + 1)) (k' := 28) (vs := [.ref 21, .int (110 : Int32), .int x_2]) (pc' := 49) (S' := []) (Q1 := fun v s => v = some (.int x_10) ∧ s = (97, I_11, J, R)) rfl (az_E.deep (by omega) (re_La_add_21 (J := J) (R := R)  hx_12 ⟨rfl, rfl⟩)) (fun v s hq => ?_)
          obtain ⟨rfl, rfl⟩ := hq
          show az_E az_F ex (d + 2) 71 49 [.ref 14, .int a1, .int (-1 : Int32)] [.int x_10] (97, I_11, J, R) _
          refine az_E.sn 2 (pc' := 155) (L' := [.ref 14, .int a1, .int (-1 : Int32)]) (S' := []) (σ' := (97, I_11, J, R)) rfl ?_
          have h := Option.some.inj h
          subst h
          exact az_E.ret (v := none) (σ' := (97, I_11, J, R)) rfl hQ
  · rw [if_neg hc_1] at h
    refine az_E.sn 4 (pc' := 15) (L' := [.ref 14]) (S' := [.int (I 14 1), .int (I 14 2)]) (σ' := (97, I, J, R)) rfl ?_
    refine az_E.br (c := (I 14 1) ≤ (I 14 2)) (tt := 30) (ff := 18) (L' := [.ref 14]) (S' := []) (σ' := (97, I, J, R)) rfl (fun hc_13 => ?_) (fun hc_13 => ?_)
    · rw [if_pos hc_13] at h
      refine az_E.sn 1 (pc' := 31) (L' := [.ref 14]) (S' := [.int (-1 : Int32)]) (σ' := (97, I, J, R)) rfl ?_
      refine az_E.ret (v := some (.int (-1 : Int32))) (σ' := (97, I, J, R)) rfl ?_
      show az_E az_F ex (d + 2) 71 4 [.ref 14, .int a1, .retAddr 0] [.int (-1 : Int32)] (97, I, J, R) _
      refine az_E.sn 2 (pc' := 6) (L' := [.ref 14, .int a1, .int (-1 : Int32)]) (S' := [.int (-1 : Int32)]) (σ' := (97, I, J, R)) rfl ?_
      refine az_E.call (d := (d + 1)) (k' := 74) (vs := [.int (-1 : Int32)]) (pc' := 9) (S' := []) rfl ?_ (fun _ _ hq => hq)
      show az_E az_F ex (d + 1) 74 0 [.int (-1 : Int32)] [] (97, I, J, R) _
      refine az_E.sn 2 (pc' := 3) (L' := [.int (-1 : Int32)]) (S' := [.int (48 : Int32), .int (-1 : Int32)]) (σ' := (97, I, J, R)) rfl ?_
      refine az_E.br (c := (-1 : Int32) < (48 : Int32)) (tt := 16) (ff := 6) (L' := [.int (-1 : Int32)]) (S' := []) (σ' := (97, I, J, R)) rfl (fun _ => ?_) (fun hn => absurd (by decide) hn)
      refine az_E.sn 1 (pc' := 17) (L' := [.int (-1 : Int32)]) (S' := [.int (0 : Int32)]) (σ' := (97, I, J, R)) rfl ?_
      refine az_E.ret (v := some (.int (0 : Int32))) (σ' := (97, I, J, R)) rfl ?_
      show az_E az_F ex (d + 2) 71 9 [.ref 14, .int a1, .int (-1 : Int32)] [.int (0 : Int32)] (97, I, J, R) _
      refine az_E.br (c := (0 : Int32) = 0) (tt := 19) (ff := 12) (L' := [.ref 14, .int a1, .int (-1 : Int32)]) (S' := []) (σ' := (97, I, J, R)) rfl (fun _ => ?_) (fun hn => absurd (by decide) hn)
      refine az_E.sn 1 (pc' := 20) (L' := [.ref 14, .int a1, .int (-1 : Int32)]) (S' := [.int (-1 : Int32)]) (σ' := (97, I, J, R)) rfl ?_
      cases hx_15 : rs_Ta_nameOf (-1 : Int32) with
      | none => rw [hx_15] at h; cases h
      | some x_14 =>
        rw [hx_15] at h
        dsimp only at h
        refine az_E.call (d := (d + 1)) (k' := 75) (vs := [.int (-1 : Int32)]) (pc' := 23) (S' := []) (Q1 := fun v s => v = some (.int x_14) ∧ s = (97, I, J, R)) rfl (az_E.deep (by omega) (re_Ta_nameOf (J := J) (R := R)  hx_15 ⟨rfl, rfl⟩)) (fun v s hq => ?_)
        obtain ⟨rfl, rfl⟩ := hq
        show az_E az_F ex (d + 2) 71 23 [.ref 14, .int a1, .int (-1 : Int32)] [.int x_14] (97, I, J, R) _
        refine az_E.br (c := x_14 < 0) (tt := 53) (ff := 26) (L' := [.ref 14, .int a1, .int (-1 : Int32)]) (S' := []) (σ' := (97, I, J, R)) rfl (fun hc_16 => ?_) (fun hc_16 => ?_)
        · rw [if_pos hc_16] at h
          refine az_E.sn 2 (pc' := 56) (L' := [.ref 14, .int a1, .int (-1 : Int32)]) (S' := [.int (6 : Int32), .int a1]) (σ' := (97, I, J, R)) rfl ?_
          refine az_E.br (c := a1 < (6 : Int32)) (tt := 66) (ff := 59) (L' := [.ref 14, .int a1, .int (-1 : Int32)]) (S' := []) (σ' := (97, I, J, R)) rfl (fun hc_17 => ?_) (fun hc_17 => ?_)
          · rw [if_pos hc_17] at h
            refine az_E.sn 2 (pc' := 69) (L' := [.ref 14, .int a1, .int (-1 : Int32)]) (S' := [.int (33 : Int32), .int (-1 : Int32)]) (σ' := (97, I, J, R)) rfl ?_
            refine az_E.br (c := (-1 : Int32) = (33 : Int32)) (tt := 78) (ff := 72) (L' := [.ref 14, .int a1, .int (-1 : Int32)]) (S' := []) (σ' := (97, I, J, R)) rfl (fun hn => absurd hn (by decide)) (fun _ => ?_)
            refine az_E.sn 2 (pc' := 75) (L' := [.ref 14, .int a1, .int (-1 : Int32)]) (S' := [.int (45 : Int32), .int (-1 : Int32)]) (σ' := (97, I, J, R)) rfl ?_
            refine az_E.br (c := (-1 : Int32) = (45 : Int32)) (tt := 78) (ff := 120) (L' := [.ref 14, .int a1, .int (-1 : Int32)]) (S' := []) (σ' := (97, I, J, R)) rfl (fun hn => absurd hn (by decide)) (fun _ => ?_)
            refine az_E.sn 2 (pc' := 123) (L' := [.ref 14, .int a1, .int (-1 : Int32)]) (S' := [.int (40 : Int32), .int (-1 : Int32)]) (σ' := (97, I, J, R)) rfl ?_
            refine az_E.br (c := (-1 : Int32) = (40 : Int32)) (tt := 126) (ff := 151) (L' := [.ref 14, .int a1, .int (-1 : Int32)]) (S' := []) (σ' := (97, I, J, R)) rfl (fun hn => absurd hn (by decide)) (fun _ => ?_)
            refine az_E.sn 1 (pc' := 152) (L' := [.ref 14, .int a1, .int (-1 : Int32)]) (S' := [.ref 14]) (σ' := (97, I, J, R)) rfl ?_
            cases hx_19 : rs_Ta_fail I with
            | none => rw [hx_19] at h; cases h
            | some I_18 =>
              rw [hx_19] at h
              dsimp only at h
              refine az_E.call (d := (d + 1)) (k' := 67) (vs := [.ref 14]) (pc' := 155) (S' := []) (Q1 := fun v s => v = none ∧ s = (97, I_18, J, R)) rfl (az_E.deep (by omega) (re_Ta_fail (J := J) (R := R)  hx_19 ⟨rfl, rfl⟩)) (fun v s hq => ?_)
              obtain ⟨rfl, rfl⟩ := hq
              show az_E az_F ex (d + 2) 71 155 [.ref 14, .int a1, .int (-1 : Int32)] [] (97, I_18, J, R) _
              have h := Option.some.inj h
              subst h
              exact az_E.ret (v := none) (σ' := (97, I_18, J, R)) rfl hQ
          · rw [if_neg hc_17] at h
            refine az_E.sn 1 (pc' := 60) (L' := [.ref 14, .int a1, .int (-1 : Int32)]) (S' := [.ref 14]) (σ' := (97, I, J, R)) rfl ?_
            cases hx_21 : rs_Ta_fail I with
            | none => rw [hx_21] at h; cases h
            | some I_20 =>
              rw [hx_21] at h
              dsimp only at h
              refine az_E.call (d := (d + 1)) (k' := 67) (vs := [.ref 14]) (pc' := 63) (S' := []) (Q1 := fun v s => v = none ∧ s = (97, I_20, J, R)) rfl (az_E.deep (by omega) (re_Ta_fail (J := J) (R := R)  hx_21 ⟨rfl, rfl⟩)) (fun v s hq => ?_)
              obtain ⟨rfl, rfl⟩ := hq
              show az_E az_F ex (d + 2) 71 63 [.ref 14, .int a1, .int (-1 : Int32)] [] (97, I_20, J, R) _
              refine az_E.sn 1 (pc' := 155) (L' := [.ref 14, .int a1, .int (-1 : Int32)]) (S' := []) (σ' := (97, I_20, J, R)) rfl ?_
              have h := Option.some.inj h
              subst h
              exact az_E.ret (v := none) (σ' := (97, I_20, J, R)) rfl hQ
        · rw [if_neg hc_16] at h
          refine az_E.sn 7 (pc' := 37) (L' := [.ref 14, .int a1, .int (-1 : Int32)]) (S' := [.ref 14]) (σ' := (97, (az_u I 14 2 ((I 14 2) + (1 : Int32))), J, R)) rfl ?_
          refine az_E.ov (pc' := 40) (L' := [.ref 14, .int a1, .int (-1 : Int32)]) (S' := []) (σ' := (97, (az_u I 14 2 ((I 14 2) + (1 : Int32))), J, R)) (x := .ref 21) rfl (congrArg (fun z => some (va_rf z)) hR_14_4) ?_
          refine az_E.sn 2 (pc' := 43) (L' := [.ref 14, .int a1, .int (-1 : Int32)]) (S' := [.int (-1 : Int32), .int (110 : Int32), .ref 21]) (σ' := (97, (az_u I 14 2 ((I 14 2) + (1 : Int32))), J, R)) rfl ?_
          refine az_E.call (d := (d + 1)) (k' := 75) (vs := [.int (-1 : Int32)]) (pc' := 46) (S' := [.int (110 : Int32), .ref 21]) (Q1 := fun v s => v = some (.int x_14) ∧ s = (97, (az_u I 14 2 ((I 14 2) + (1 : Int32))), J, R)) rfl (az_E.deep (by omega) (re_Ta_nameOf (J := J) (R := R)  hx_15 ⟨rfl, rfl⟩)) (fun v s hq => ?_)
          obtain ⟨rfl, rfl⟩ := hq
          show az_E az_F ex (d + 2) 71 46 [.ref 14, .int a1, .int (-1 : Int32)] [.int x_14, .int (110 : Int32), .ref 21] (97, (az_u I 14 2 ((I 14 2) + (1 : Int32))), J, R) _
          cases hx_24 : rs_La_add 21 (az_u I 14 2 ((I 14 2) + (1 : Int32))) (110 : Int32) x_14 with
          | none => rw [hx_24] at h; cases h
          | some o =>
            rw [hx_24] at h
            obtain ⟨x_22, I_23⟩ := o
            dsimp only at h
            refine az_E.call (d := (d + 1)) (k' := 28) (vs := [.ref 21, .int (110 : Int32), .int x_14]) (pc' := 49) (S' := []) (Q1 := fun v s => v = some (.int x_22) ∧ s = (97, I_23, J, R)) rfl (az_E.deep (by omega) (re_La_add_21 (J := J) (R := R)  hx_24 ⟨rfl, rfl⟩)) (fun v s hq => ?_)
            obtain ⟨rfl, rfl⟩ := hq
            show az_E az_F ex (d + 2) 71 49 [.ref 14, .int a1, .int (-1 : Int32)] [.int x_22] (97, I_23, J, R) _
            refine az_E.sn 2 (pc' := 155) (L' := [.ref 14, .int a1, .int (-1 : Int32)]) (S' := []) (σ' := (97, I_23, J, R)) rfl ?_
            have h := Option.some.inj h
            subst h
            exact az_E.ret (v := none) (σ' := (97, I_23, J, R)) rfl hQ
    · rw [if_neg hc_13] at h
      refine az_E.sn 4 (pc' := 26) (L' := [.ref 14]) (S' := [.int (I 14 2), .ref 15]) (σ' := (97, I, J, R)) rfl ?_
      by_cases hc_25 : (I 14 2) < 0 ∨ 120 ≤ (I 14 2).toNatClampNeg
      · rw [if_pos hc_25] at h; cases h
      · rw [if_neg hc_25] at h
        refine az_E.oi (o := az_ai az_F ex (97, I, J, R) 15 (I 14 2)) (pc' := 27) (L' := [.ref 14]) (S' := []) (σ' := (97, I, J, R)) (x := (I 15 (I 14 2).toNatClampNeg)) rfl (if_neg hc_25) ?_
        refine az_E.sn 1 (pc' := 31) (L' := [.ref 14]) (S' := [.int (I 15 (I 14 2).toNatClampNeg)]) (σ' := (97, I, J, R)) rfl ?_
        refine az_E.ret (v := some (.int (I 15 (I 14 2).toNatClampNeg))) (σ' := (97, I, J, R)) rfl ?_
        show az_E az_F ex (d + 2) 71 4 [.ref 14, .int a1, .retAddr 0] [.int (I 15 (I 14 2).toNatClampNeg)] (97, I, J, R) _
        refine az_E.sn 2 (pc' := 6) (L' := [.ref 14, .int a1, .int (I 15 (I 14 2).toNatClampNeg)]) (S' := [.int (I 15 (I 14 2).toNatClampNeg)]) (σ' := (97, I, J, R)) rfl ?_
        refine az_E.call (d := (d + 1)) (k' := 74) (vs := [.int (I 15 (I 14 2).toNatClampNeg)]) (pc' := 9) (S' := []) rfl ?_ (fun _ _ hq => hq)
        show az_E az_F ex (d + 1) 74 0 [.int (I 15 (I 14 2).toNatClampNeg)] [] (97, I, J, R) _
        refine az_E.sn 2 (pc' := 3) (L' := [.int (I 15 (I 14 2).toNatClampNeg)]) (S' := [.int (48 : Int32), .int (I 15 (I 14 2).toNatClampNeg)]) (σ' := (97, I, J, R)) rfl ?_
        refine az_E.br (c := (I 15 (I 14 2).toNatClampNeg) < (48 : Int32)) (tt := 16) (ff := 6) (L' := [.int (I 15 (I 14 2).toNatClampNeg)]) (S' := []) (σ' := (97, I, J, R)) rfl (fun hc_26 => ?_) (fun hc_26 => ?_)
        · rw [if_pos hc_26] at h
          refine az_E.sn 1 (pc' := 17) (L' := [.int (I 15 (I 14 2).toNatClampNeg)]) (S' := [.int (0 : Int32)]) (σ' := (97, I, J, R)) rfl ?_
          refine az_E.ret (v := some (.int (0 : Int32))) (σ' := (97, I, J, R)) rfl ?_
          show az_E az_F ex (d + 2) 71 9 [.ref 14, .int a1, .int (I 15 (I 14 2).toNatClampNeg)] [.int (0 : Int32)] (97, I, J, R) _
          refine az_E.br (c := (0 : Int32) = 0) (tt := 19) (ff := 12) (L' := [.ref 14, .int a1, .int (I 15 (I 14 2).toNatClampNeg)]) (S' := []) (σ' := (97, I, J, R)) rfl (fun _ => ?_) (fun hn => absurd (by decide) hn)
          refine az_E.sn 1 (pc' := 20) (L' := [.ref 14, .int a1, .int (I 15 (I 14 2).toNatClampNeg)]) (S' := [.int (I 15 (I 14 2).toNatClampNeg)]) (σ' := (97, I, J, R)) rfl ?_
          cases hx_28 : rs_Ta_nameOf (I 15 (I 14 2).toNatClampNeg) with
          | none => rw [hx_28] at h; cases h
          | some x_27 =>
            rw [hx_28] at h
            dsimp only at h
            refine az_E.call (d := (d + 1)) (k' := 75) (vs := [.int (I 15 (I 14 2).toNatClampNeg)]) (pc' := 23) (S' := []) (Q1 := fun v s => v = some (.int x_27) ∧ s = (97, I, J, R)) rfl (az_E.deep (by omega) (re_Ta_nameOf (J := J) (R := R)  hx_28 ⟨rfl, rfl⟩)) (fun v s hq => ?_)
            obtain ⟨rfl, rfl⟩ := hq
            show az_E az_F ex (d + 2) 71 23 [.ref 14, .int a1, .int (I 15 (I 14 2).toNatClampNeg)] [.int x_27] (97, I, J, R) _
            refine az_E.br (c := x_27 < 0) (tt := 53) (ff := 26) (L' := [.ref 14, .int a1, .int (I 15 (I 14 2).toNatClampNeg)]) (S' := []) (σ' := (97, I, J, R)) rfl (fun hc_29 => ?_) (fun hc_29 => ?_)
            · rw [if_pos hc_29] at h
              refine az_E.sn 2 (pc' := 56) (L' := [.ref 14, .int a1, .int (I 15 (I 14 2).toNatClampNeg)]) (S' := [.int (6 : Int32), .int a1]) (σ' := (97, I, J, R)) rfl ?_
              refine az_E.br (c := a1 < (6 : Int32)) (tt := 66) (ff := 59) (L' := [.ref 14, .int a1, .int (I 15 (I 14 2).toNatClampNeg)]) (S' := []) (σ' := (97, I, J, R)) rfl (fun hc_30 => ?_) (fun hc_30 => ?_)
              · rw [if_pos hc_30] at h
                refine az_E.sn 2 (pc' := 69) (L' := [.ref 14, .int a1, .int (I 15 (I 14 2).toNatClampNeg)]) (S' := [.int (33 : Int32), .int (I 15 (I 14 2).toNatClampNeg)]) (σ' := (97, I, J, R)) rfl ?_
                refine az_E.br (c := (I 15 (I 14 2).toNatClampNeg) = (33 : Int32)) (tt := 78) (ff := 72) (L' := [.ref 14, .int a1, .int (I 15 (I 14 2).toNatClampNeg)]) (S' := []) (σ' := (97, I, J, R)) rfl (fun hc_31 => ?_) (fun hc_31 => ?_)
                · rw [if_pos hc_31] at h
                  exact az_E.forget (L := [.ref 14, .int a1, .int (I 15 (I 14 2).toNatClampNeg)]) ⟨rfl, rfl, rfl, trivial⟩ (re_Ta_readOperand_78_21 (I := I) (J := J) (R := R) hg_69 hg_71 hR_14_4 h hQ)
                · rw [if_neg hc_31] at h
                  refine az_E.sn 2 (pc' := 75) (L' := [.ref 14, .int a1, .int (I 15 (I 14 2).toNatClampNeg)]) (S' := [.int (45 : Int32), .int (I 15 (I 14 2).toNatClampNeg)]) (σ' := (97, I, J, R)) rfl ?_
                  refine az_E.br (c := (I 15 (I 14 2).toNatClampNeg) = (45 : Int32)) (tt := 78) (ff := 120) (L' := [.ref 14, .int a1, .int (I 15 (I 14 2).toNatClampNeg)]) (S' := []) (σ' := (97, I, J, R)) rfl (fun hc_39 => ?_) (fun hc_39 => ?_)
                  · rw [if_pos hc_39] at h
                    exact az_E.forget (L := [.ref 14, .int a1, .int (I 15 (I 14 2).toNatClampNeg)]) ⟨rfl, rfl, rfl, trivial⟩ (re_Ta_readOperand_78_21 (I := I) (J := J) (R := R) hg_69 hg_71 hR_14_4 h hQ)
                  · rw [if_neg hc_39] at h
                    refine az_E.sn 2 (pc' := 123) (L' := [.ref 14, .int a1, .int (I 15 (I 14 2).toNatClampNeg)]) (S' := [.int (40 : Int32), .int (I 15 (I 14 2).toNatClampNeg)]) (σ' := (97, I, J, R)) rfl ?_
                    refine az_E.br (c := (I 15 (I 14 2).toNatClampNeg) = (40 : Int32)) (tt := 126) (ff := 151) (L' := [.ref 14, .int a1, .int (I 15 (I 14 2).toNatClampNeg)]) (S' := []) (σ' := (97, I, J, R)) rfl (fun hc_40 => ?_) (fun hc_40 => ?_)
                    · rw [if_pos hc_40] at h
                      refine az_E.sn 11 (pc' := 141) (L' := [.ref 14, .int a1, .int (I 15 (I 14 2).toNatClampNeg)]) (S' := [.int (a1 + (1 : Int32)), .int (0 : Int32), .ref 14]) (σ' := (97, (az_u I 14 2 ((I 14 2) + (1 : Int32))), J, R)) rfl ?_
                      cases hx_43 : rec 69 (0 : Int32) (a1 + (1 : Int32)) 0 0 (az_u I 14 2 ((I 14 2) + (1 : Int32))) with
                      | none => rw [hx_43] at h; cases h
                      | some o =>
                        rw [hx_43] at h
                        obtain ⟨x_41, I_42⟩ := o
                        dsimp only at h
                        refine az_E.call (d := (d + 1)) (k' := 69) (vs := [.ref 14, .int (0 : Int32), .int (a1 + (1 : Int32))]) (pc' := 144) (S' := []) (Q1 := fun v s => v = none ∧ s = (97, I_42, J, R)) rfl (az_E.deep (by omega) (hg_69 _ _ _ _ _ _ hx_43 (J := J) (R := R) hR_14_4 ⟨rfl, rfl⟩)) (fun v s hq => ?_)
                        obtain ⟨rfl, rfl⟩ := hq
                        show az_E az_F ex (d + 2) 71 144 [.ref 14, .int a1, .int (I 15 (I 14 2).toNatClampNeg)] [] (97, I_42, J, R) _
                        refine az_E.sn 1 (pc' := 145) (L' := [.ref 14, .int a1, .int (I 15 (I 14 2).toNatClampNeg)]) (S' := [.ref 14]) (σ' := (97, I_42, J, R)) rfl ?_
                        cases hx_45 : rs_Ta_closeBracket I_42 with
                        | none => rw [hx_45] at h; cases h
                        | some I_44 =>
                          rw [hx_45] at h
                          dsimp only at h
                          refine az_E.call (d := (d + 1)) (k' := 72) (vs := [.ref 14]) (pc' := 148) (S' := []) (Q1 := fun v s => v = none ∧ s = (97, I_44, J, R)) rfl (az_E.deep (by omega) (re_Ta_closeBracket (J := J) (R := R)  hx_45 ⟨rfl, rfl⟩)) (fun v s hq => ?_)
                          obtain ⟨rfl, rfl⟩ := hq
                          show az_E az_F ex (d + 2) 71 148 [.ref 14, .int a1, .int (I 15 (I 14 2).toNatClampNeg)] [] (97, I_44, J, R) _
                          refine az_E.sn 1 (pc' := 155) (L' := [.ref 14, .int a1, .int (I 15 (I 14 2).toNatClampNeg)]) (S' := []) (σ' := (97, I_44, J, R)) rfl ?_
                          have h := Option.some.inj h
                          subst h
                          exact az_E.ret (v := none) (σ' := (97, I_44, J, R)) rfl hQ
                    · rw [if_neg hc_40] at h
                      refine az_E.sn 1 (pc' := 152) (L' := [.ref 14, .int a1, .int (I 15 (I 14 2).toNatClampNeg)]) (S' := [.ref 14]) (σ' := (97, I, J, R)) rfl ?_
                      cases hx_47 : rs_Ta_fail I with
                      | none => rw [hx_47] at h; cases h
                      | some I_46 =>
                        rw [hx_47] at h
                        dsimp only at h
                        refine az_E.call (d := (d + 1)) (k' := 67) (vs := [.ref 14]) (pc' := 155) (S' := []) (Q1 := fun v s => v = none ∧ s = (97, I_46, J, R)) rfl (az_E.deep (by omega) (re_Ta_fail (J := J) (R := R)  hx_47 ⟨rfl, rfl⟩)) (fun v s hq => ?_)
                        obtain ⟨rfl, rfl⟩ := hq
                        show az_E az_F ex (d + 2) 71 155 [.ref 14, .int a1, .int (I 15 (I 14 2).toNatClampNeg)] [] (97, I_46, J, R) _
                        have h := Option.some.inj h
                        subst h
                        exact az_E.ret (v := none) (σ' := (97, I_46, J, R)) rfl hQ
              · rw [if_neg hc_30] at h
                refine az_E.sn 1 (pc' := 60) (L' := [.ref 14, .int a1, .int (I 15 (I 14 2).toNatClampNeg)]) (S' := [.ref 14]) (σ' := (97, I, J, R)) rfl ?_
                cases hx_49 : rs_Ta_fail I with
                | none => rw [hx_49] at h; cases h
                | some I_48 =>
                  rw [hx_49] at h
                  dsimp only at h
                  refine az_E.call (d := (d + 1)) (k' := 67) (vs := [.ref 14]) (pc' := 63) (S' := []) (Q1 := fun v s => v = none ∧ s = (97, I_48, J, R)) rfl (az_E.deep (by omega) (re_Ta_fail (J := J) (R := R)  hx_49 ⟨rfl, rfl⟩)) (fun v s hq => ?_)
                  obtain ⟨rfl, rfl⟩ := hq
                  show az_E az_F ex (d + 2) 71 63 [.ref 14, .int a1, .int (I 15 (I 14 2).toNatClampNeg)] [] (97, I_48, J, R) _
                  refine az_E.sn 1 (pc' := 155) (L' := [.ref 14, .int a1, .int (I 15 (I 14 2).toNatClampNeg)]) (S' := []) (σ' := (97, I_48, J, R)) rfl ?_
                  have h := Option.some.inj h
                  subst h
                  exact az_E.ret (v := none) (σ' := (97, I_48, J, R)) rfl hQ
            · rw [if_neg hc_29] at h
              refine az_E.sn 7 (pc' := 37) (L' := [.ref 14, .int a1, .int (I 15 (I 14 2).toNatClampNeg)]) (S' := [.ref 14]) (σ' := (97, (az_u I 14 2 ((I 14 2) + (1 : Int32))), J, R)) rfl ?_
              refine az_E.ov (pc' := 40) (L' := [.ref 14, .int a1, .int (I 15 (I 14 2).toNatClampNeg)]) (S' := []) (σ' := (97, (az_u I 14 2 ((I 14 2) + (1 : Int32))), J, R)) (x := .ref 21) rfl (congrArg (fun z => some (va_rf z)) hR_14_4) ?_
              refine az_E.sn 2 (pc' := 43) (L' := [.ref 14, .int a1, .int (I 15 (I 14 2).toNatClampNeg)]) (S' := [.int (I 15 (I 14 2).toNatClampNeg), .int (110 : Int32), .ref 21]) (σ' := (97, (az_u I 14 2 ((I 14 2) + (1 : Int32))), J, R)) rfl ?_
              refine az_E.call (d := (d + 1)) (k' := 75) (vs := [.int (I 15 (I 14 2).toNatClampNeg)]) (pc' := 46) (S' := [.int (110 : Int32), .ref 21]) (Q1 := fun v s => v = some (.int x_27) ∧ s = (97, (az_u I 14 2 ((I 14 2) + (1 : Int32))), J, R)) rfl (az_E.deep (by omega) (re_Ta_nameOf (J := J) (R := R)  hx_28 ⟨rfl, rfl⟩)) (fun v s hq => ?_)
              obtain ⟨rfl, rfl⟩ := hq
              show az_E az_F ex (d + 2) 71 46 [.ref 14, .int a1, .int (I 15 (I 14 2).toNatClampNeg)] [.int x_27, .int (110 : Int32), .ref 21] (97, (az_u I 14 2 ((I 14 2) + (1 : Int32))), J, R) _
              cases hx_52 : rs_La_add 21 (az_u I 14 2 ((I 14 2) + (1 : Int32))) (110 : Int32) x_27 with
              | none => rw [hx_52] at h; cases h
              | some o =>
                rw [hx_52] at h
                obtain ⟨x_50, I_51⟩ := o
                dsimp only at h
                refine az_E.call (d := (d + 1)) (k' := 28) (vs := [.ref 21, .int (110 : Int32), .int x_27]) (pc' := 49) (S' := []) (Q1 := fun v s => v = some (.int x_50) ∧ s = (97, I_51, J, R)) rfl (az_E.deep (by omega) (re_La_add_21 (J := J) (R := R)  hx_52 ⟨rfl, rfl⟩)) (fun v s hq => ?_)
                obtain ⟨rfl, rfl⟩ := hq
                show az_E az_F ex (d + 2) 71 49 [.ref 14, .int a1, .int (I 15 (I 14 2).toNatClampNeg)] [.int x_50] (97, I_51, J, R) _
                refine az_E.sn 2 (pc' := 155) (L' := [.ref 14, .int a1, .int (I 15 (I 14 2).toNatClampNeg)]) (S' := []) (σ' := (97, I_51, J, R)) rfl ?_
                have h := Option.some.inj h
                subst h
                exact az_E.ret (v := none) (σ' := (97, I_51, J, R)) rfl hQ
        · rw [if_neg hc_26] at h
          refine az_E.sn 2 (pc' := 9) (L' := [.int (I 15 (I 14 2).toNatClampNeg)]) (S' := [.int (57 : Int32), .int (I 15 (I 14 2).toNatClampNeg)]) (σ' := (97, I, J, R)) rfl ?_
          refine az_E.br (c := (57 : Int32) < (I 15 (I 14 2).toNatClampNeg)) (tt := 16) (ff := 12) (L' := [.int (I 15 (I 14 2).toNatClampNeg)]) (S' := []) (σ' := (97, I, J, R)) rfl (fun hc_53 => ?_) (fun hc_53 => ?_)
          · rw [if_pos hc_53] at h
            refine az_E.sn 1 (pc' := 17) (L' := [.int (I 15 (I 14 2).toNatClampNeg)]) (S' := [.int (0 : Int32)]) (σ' := (97, I, J, R)) rfl ?_
            refine az_E.ret (v := some (.int (0 : Int32))) (σ' := (97, I, J, R)) rfl ?_
            show az_E az_F ex (d + 2) 71 9 [.ref 14, .int a1, .int (I 15 (I 14 2).toNatClampNeg)] [.int (0 : Int32)] (97, I, J, R) _
            refine az_E.br (c := (0 : Int32) = 0) (tt := 19) (ff := 12) (L' := [.ref 14, .int a1, .int (I 15 (I 14 2).toNatClampNeg)]) (S' := []) (σ' := (97, I, J, R)) rfl (fun _ => ?_) (fun hn => absurd (by decide) hn)
            refine az_E.sn 1 (pc' := 20) (L' := [.ref 14, .int a1, .int (I 15 (I 14 2).toNatClampNeg)]) (S' := [.int (I 15 (I 14 2).toNatClampNeg)]) (σ' := (97, I, J, R)) rfl ?_
            cases hx_55 : rs_Ta_nameOf (I 15 (I 14 2).toNatClampNeg) with
            | none => rw [hx_55] at h; cases h
            | some x_54 =>
              rw [hx_55] at h
              dsimp only at h
              refine az_E.call (d := (d + 1)) (k' := 75) (vs := [.int (I 15 (I 14 2).toNatClampNeg)]) (pc' := 23) (S' := []) (Q1 := fun v s => v = some (.int x_54) ∧ s = (97, I, J, R)) rfl (az_E.deep (by omega) (re_Ta_nameOf (J := J) (R := R)  hx_55 ⟨rfl, rfl⟩)) (fun v s hq => ?_)
              obtain ⟨rfl, rfl⟩ := hq
              show az_E az_F ex (d + 2) 71 23 [.ref 14, .int a1, .int (I 15 (I 14 2).toNatClampNeg)] [.int x_54] (97, I, J, R) _
              refine az_E.br (c := x_54 < 0) (tt := 53) (ff := 26) (L' := [.ref 14, .int a1, .int (I 15 (I 14 2).toNatClampNeg)]) (S' := []) (σ' := (97, I, J, R)) rfl (fun hc_56 => ?_) (fun hc_56 => ?_)
              · rw [if_pos hc_56] at h
                refine az_E.sn 2 (pc' := 56) (L' := [.ref 14, .int a1, .int (I 15 (I 14 2).toNatClampNeg)]) (S' := [.int (6 : Int32), .int a1]) (σ' := (97, I, J, R)) rfl ?_
                refine az_E.br (c := a1 < (6 : Int32)) (tt := 66) (ff := 59) (L' := [.ref 14, .int a1, .int (I 15 (I 14 2).toNatClampNeg)]) (S' := []) (σ' := (97, I, J, R)) rfl (fun hc_57 => ?_) (fun hc_57 => ?_)
                · rw [if_pos hc_57] at h
                  refine az_E.sn 2 (pc' := 69) (L' := [.ref 14, .int a1, .int (I 15 (I 14 2).toNatClampNeg)]) (S' := [.int (33 : Int32), .int (I 15 (I 14 2).toNatClampNeg)]) (σ' := (97, I, J, R)) rfl ?_
                  refine az_E.br (c := (I 15 (I 14 2).toNatClampNeg) = (33 : Int32)) (tt := 78) (ff := 72) (L' := [.ref 14, .int a1, .int (I 15 (I 14 2).toNatClampNeg)]) (S' := []) (σ' := (97, I, J, R)) rfl (fun hc_58 => ?_) (fun hc_58 => ?_)
                  · rw [if_pos hc_58] at h
                    exact az_E.forget (L := [.ref 14, .int a1, .int (I 15 (I 14 2).toNatClampNeg)]) ⟨rfl, rfl, rfl, trivial⟩ (re_Ta_readOperand_78_21 (I := I) (J := J) (R := R) hg_69 hg_71 hR_14_4 h hQ)
                  · rw [if_neg hc_58] at h
                    refine az_E.sn 2 (pc' := 75) (L' := [.ref 14, .int a1, .int (I 15 (I 14 2).toNatClampNeg)]) (S' := [.int (45 : Int32), .int (I 15 (I 14 2).toNatClampNeg)]) (σ' := (97, I, J, R)) rfl ?_
                    refine az_E.br (c := (I 15 (I 14 2).toNatClampNeg) = (45 : Int32)) (tt := 78) (ff := 120) (L' := [.ref 14, .int a1, .int (I 15 (I 14 2).toNatClampNeg)]) (S' := []) (σ' := (97, I, J, R)) rfl (fun hc_59 => ?_) (fun hc_59 => ?_)
                    · rw [if_pos hc_59] at h
                      exact az_E.forget (L := [.ref 14, .int a1, .int (I 15 (I 14 2).toNatClampNeg)]) ⟨rfl, rfl, rfl, trivial⟩ (re_Ta_readOperand_78_21 (I := I) (J := J) (R := R) hg_69 hg_71 hR_14_4 h hQ)
                    · rw [if_neg hc_59] at h
                      refine az_E.sn 2 (pc' := 123) (L' := [.ref 14, .int a1, .int (I 15 (I 14 2).toNatClampNeg)]) (S' := [.int (40 : Int32), .int (I 15 (I 14 2).toNatClampNeg)]) (σ' := (97, I, J, R)) rfl ?_
                      refine az_E.br (c := (I 15 (I 14 2).toNatClampNeg) = (40 : Int32)) (tt := 126) (ff := 151) (L' := [.ref 14, .int a1, .int (I 15 (I 14 2).toNatClampNeg)]) (S' := []) (σ' := (97, I, J, R)) rfl (fun hc_60 => ?_) (fun hc_60 => ?_)
                      · rw [if_pos hc_60] at h
                        refine az_E.sn 11 (pc' := 141) (L' := [.ref 14, .int a1, .int (I 15 (I 14 2).toNatClampNeg)]) (S' := [.int (a1 + (1 : Int32)), .int (0 : Int32), .ref 14]) (σ' := (97, (az_u I 14 2 ((I 14 2) + (1 : Int32))), J, R)) rfl ?_
                        cases hx_63 : rec 69 (0 : Int32) (a1 + (1 : Int32)) 0 0 (az_u I 14 2 ((I 14 2) + (1 : Int32))) with
                        | none => rw [hx_63] at h; cases h
                        | some o =>
                          rw [hx_63] at h
                          obtain ⟨x_61, I_62⟩ := o
                          dsimp only at h
                          refine az_E.call (d := (d + 1)) (k' := 69) (vs := [.ref 14, .int (0 : Int32), .int (a1 + (1 : Int32))]) (pc' := 144) (S' := []) (Q1 := fun v s => v = none ∧ s = (97, I_62, J, R)) rfl (az_E.deep (by omega) (hg_69 _ _ _ _ _ _ hx_63 (J := J) (R := R) hR_14_4 ⟨rfl, rfl⟩)) (fun v s hq => ?_)
                          obtain ⟨rfl, rfl⟩ := hq
                          show az_E az_F ex (d + 2) 71 144 [.ref 14, .int a1, .int (I 15 (I 14 2).toNatClampNeg)] [] (97, I_62, J, R) _
                          refine az_E.sn 1 (pc' := 145) (L' := [.ref 14, .int a1, .int (I 15 (I 14 2).toNatClampNeg)]) (S' := [.ref 14]) (σ' := (97, I_62, J, R)) rfl ?_
                          cases hx_65 : rs_Ta_closeBracket I_62 with
                          | none => rw [hx_65] at h; cases h
                          | some I_64 =>
                            rw [hx_65] at h
                            dsimp only at h
                            refine az_E.call (d := (d + 1)) (k' := 72) (vs := [.ref 14]) (pc' := 148) (S' := []) (Q1 := fun v s => v = none ∧ s = (97, I_64, J, R)) rfl (az_E.deep (by omega) (re_Ta_closeBracket (J := J) (R := R)  hx_65 ⟨rfl, rfl⟩)) (fun v s hq => ?_)
                            obtain ⟨rfl, rfl⟩ := hq
                            show az_E az_F ex (d + 2) 71 148 [.ref 14, .int a1, .int (I 15 (I 14 2).toNatClampNeg)] [] (97, I_64, J, R) _
                            refine az_E.sn 1 (pc' := 155) (L' := [.ref 14, .int a1, .int (I 15 (I 14 2).toNatClampNeg)]) (S' := []) (σ' := (97, I_64, J, R)) rfl ?_
                            have h := Option.some.inj h
                            subst h
                            exact az_E.ret (v := none) (σ' := (97, I_64, J, R)) rfl hQ
                      · rw [if_neg hc_60] at h
                        refine az_E.sn 1 (pc' := 152) (L' := [.ref 14, .int a1, .int (I 15 (I 14 2).toNatClampNeg)]) (S' := [.ref 14]) (σ' := (97, I, J, R)) rfl ?_
                        cases hx_67 : rs_Ta_fail I with
                        | none => rw [hx_67] at h; cases h
                        | some I_66 =>
                          rw [hx_67] at h
                          dsimp only at h
                          refine az_E.call (d := (d + 1)) (k' := 67) (vs := [.ref 14]) (pc' := 155) (S' := []) (Q1 := fun v s => v = none ∧ s = (97, I_66, J, R)) rfl (az_E.deep (by omega) (re_Ta_fail (J := J) (R := R)  hx_67 ⟨rfl, rfl⟩)) (fun v s hq => ?_)
                          obtain ⟨rfl, rfl⟩ := hq
                          show az_E az_F ex (d + 2) 71 155 [.ref 14, .int a1, .int (I 15 (I 14 2).toNatClampNeg)] [] (97, I_66, J, R) _
                          have h := Option.some.inj h
                          subst h
                          exact az_E.ret (v := none) (σ' := (97, I_66, J, R)) rfl hQ
                · rw [if_neg hc_57] at h
                  refine az_E.sn 1 (pc' := 60) (L' := [.ref 14, .int a1, .int (I 15 (I 14 2).toNatClampNeg)]) (S' := [.ref 14]) (σ' := (97, I, J, R)) rfl ?_
                  cases hx_69 : rs_Ta_fail I with
                  | none => rw [hx_69] at h; cases h
                  | some I_68 =>
                    rw [hx_69] at h
                    dsimp only at h
                    refine az_E.call (d := (d + 1)) (k' := 67) (vs := [.ref 14]) (pc' := 63) (S' := []) (Q1 := fun v s => v = none ∧ s = (97, I_68, J, R)) rfl (az_E.deep (by omega) (re_Ta_fail (J := J) (R := R)  hx_69 ⟨rfl, rfl⟩)) (fun v s hq => ?_)
                    obtain ⟨rfl, rfl⟩ := hq
                    show az_E az_F ex (d + 2) 71 63 [.ref 14, .int a1, .int (I 15 (I 14 2).toNatClampNeg)] [] (97, I_68, J, R) _
                    refine az_E.sn 1 (pc' := 155) (L' := [.ref 14, .int a1, .int (I 15 (I 14 2).toNatClampNeg)]) (S' := []) (σ' := (97, I_68, J, R)) rfl ?_
                    have h := Option.some.inj h
                    subst h
                    exact az_E.ret (v := none) (σ' := (97, I_68, J, R)) rfl hQ
              · rw [if_neg hc_56] at h
                refine az_E.sn 7 (pc' := 37) (L' := [.ref 14, .int a1, .int (I 15 (I 14 2).toNatClampNeg)]) (S' := [.ref 14]) (σ' := (97, (az_u I 14 2 ((I 14 2) + (1 : Int32))), J, R)) rfl ?_
                refine az_E.ov (pc' := 40) (L' := [.ref 14, .int a1, .int (I 15 (I 14 2).toNatClampNeg)]) (S' := []) (σ' := (97, (az_u I 14 2 ((I 14 2) + (1 : Int32))), J, R)) (x := .ref 21) rfl (congrArg (fun z => some (va_rf z)) hR_14_4) ?_
                refine az_E.sn 2 (pc' := 43) (L' := [.ref 14, .int a1, .int (I 15 (I 14 2).toNatClampNeg)]) (S' := [.int (I 15 (I 14 2).toNatClampNeg), .int (110 : Int32), .ref 21]) (σ' := (97, (az_u I 14 2 ((I 14 2) + (1 : Int32))), J, R)) rfl ?_
                refine az_E.call (d := (d + 1)) (k' := 75) (vs := [.int (I 15 (I 14 2).toNatClampNeg)]) (pc' := 46) (S' := [.int (110 : Int32), .ref 21]) (Q1 := fun v s => v = some (.int x_54) ∧ s = (97, (az_u I 14 2 ((I 14 2) + (1 : Int32))), J, R)) rfl (az_E.deep (by omega) (re_Ta_nameOf (J := J) (R := R)  hx_55 ⟨rfl, rfl⟩)) (fun v s hq => ?_)
                obtain ⟨rfl, rfl⟩ := hq
                show az_E az_F ex (d + 2) 71 46 [.ref 14, .int a1, .int (I 15 (I 14 2).toNatClampNeg)] [.int x_54, .int (110 : Int32), .ref 21] (97, (az_u I 14 2 ((I 14 2) + (1 : Int32))), J, R) _
                cases hx_72 : rs_La_add 21 (az_u I 14 2 ((I 14 2) + (1 : Int32))) (110 : Int32) x_54 with
                | none => rw [hx_72] at h; cases h
                | some o =>
                  rw [hx_72] at h
                  obtain ⟨x_70, I_71⟩ := o
                  dsimp only at h
                  refine az_E.call (d := (d + 1)) (k' := 28) (vs := [.ref 21, .int (110 : Int32), .int x_54]) (pc' := 49) (S' := []) (Q1 := fun v s => v = some (.int x_70) ∧ s = (97, I_71, J, R)) rfl (az_E.deep (by omega) (re_La_add_21 (J := J) (R := R)  hx_72 ⟨rfl, rfl⟩)) (fun v s hq => ?_)
                  obtain ⟨rfl, rfl⟩ := hq
                  show az_E az_F ex (d + 2) 71 49 [.ref 14, .int a1, .int (I 15 (I 14 2).toNatClampNeg)] [.int x_70] (97, I_71, J, R) _
                  refine az_E.sn 2 (pc' := 155) (L' := [.ref 14, .int a1, .int (I 15 (I 14 2).toNatClampNeg)]) (S' := []) (σ' := (97, I_71, J, R)) rfl ?_
                  have h := Option.some.inj h
                  subst h
                  exact az_E.ret (v := none) (σ' := (97, I_71, J, R)) rfl hQ
          · rw [if_neg hc_53] at h
            refine az_E.sn 2 (pc' := 17) (L' := [.int (I 15 (I 14 2).toNatClampNeg)]) (S' := [.int (1 : Int32)]) (σ' := (97, I, J, R)) rfl ?_
            refine az_E.ret (v := some (.int (1 : Int32))) (σ' := (97, I, J, R)) rfl ?_
            show az_E az_F ex (d + 2) 71 9 [.ref 14, .int a1, .int (I 15 (I 14 2).toNatClampNeg)] [.int (1 : Int32)] (97, I, J, R) _
            refine az_E.br (c := (1 : Int32) = 0) (tt := 19) (ff := 12) (L' := [.ref 14, .int a1, .int (I 15 (I 14 2).toNatClampNeg)]) (S' := []) (σ' := (97, I, J, R)) rfl (fun hn => absurd hn (by decide)) (fun _ => ?_)
            refine az_E.sn 1 (pc' := 13) (L' := [.ref 14, .int a1, .int (I 15 (I 14 2).toNatClampNeg)]) (S' := [.ref 14]) (σ' := (97, I, J, R)) rfl ?_
            cases hx_74 : rs_Ta_readNumber 21 I with
            | none => rw [hx_74] at h; cases h
            | some I_73 =>
              rw [hx_74] at h
              dsimp only at h
              refine az_E.call (d := (d + 1)) (k' := 73) (vs := [.ref 14]) (pc' := 16) (S' := []) (Q1 := fun v s => v = none ∧ s = (97, I_73, J, R)) rfl (az_E.deep (by omega) (re_Ta_readNumber_21 (J := J) (R := R) hR_14_4 hx_74 ⟨rfl, rfl⟩)) (fun v s hq => ?_)
              obtain ⟨rfl, rfl⟩ := hq
              show az_E az_F ex (d + 2) 71 16 [.ref 14, .int a1, .int (I 15 (I 14 2).toNatClampNeg)] [] (97, I_73, J, R) _
              refine az_E.sn 1 (pc' := 155) (L' := [.ref 14, .int a1, .int (I 15 (I 14 2).toNatClampNeg)]) (S' := []) (σ' := (97, I_73, J, R)) rfl ?_
              have h := Option.some.inj h
              subst h
              exact az_E.ret (v := none) (σ' := (97, I_73, J, R)) rfl hQ

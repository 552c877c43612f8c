set_option maxRecDepth 100000 in
set_option maxHeartbeats 4000000 in
theorem re_M_reach_116 {ex : az_X} {I : Nat → Nat → Int32} {J : Nat → Nat → Int64} {R : Nat → Nat → Option Nat} {v4 : Int32} {v5 : Int32} {v6 : Int32} {x : Int32 × (Nat → Nat → Int32)} (h : rs_M_reach_116 I v4 v5 v6 = some x) {Q : Option Value → az_S → Prop} (hQ : Q (some (.int x.1)) (97, x.2, J, R)) : az_E az_F ex 125 201 116 [.retAddr 0, .retAddr 0, .retAddr 0, .retAddr 0, .int v4, .int v5, .int v6, .retAddr 0] [] (97, I, J, R) Q := by
  unfold rs_M_reach_116 at h
  refine az_E.sn 1 (pc' := 118) (L' := [.retAddr 0, .retAddr 0, .retAddr 0, .retAddr 0, .int v4, .int v5, .int v6, .retAddr 0]) (S' := [.int v4]) (σ' := (97, I, J, R)) rfl ?_
  refine az_E.br (c := v4 = 0) (tt := 121) (ff := 126) (L' := [.retAddr 0, .retAddr 0, .retAddr 0, .retAddr 0, .int v4, .int v5, .int v6, .retAddr 0]) (S' := []) (σ' := (97, I, J, R)) rfl (fun hc_14 => ?_) (fun hc_14 => ?_)
  · rw [if_pos hc_14] at h
    refine az_E.sn 2 (pc' := 128) (L' := [.retAddr 0, .retAddr 0, .retAddr 0, .retAddr 0, .int v4, .int v5, .int v6, .retAddr 0]) (S' := [.int v5]) (σ' := (97, I, J, R)) rfl ?_
    have h := Option.some.inj h
    subst h
    exact az_E.ret (v := some (.int v5)) (σ' := (97, I, J, R)) rfl hQ
  · rw [if_neg hc_14] at h
    refine az_E.sn 1 (pc' := 128) (L' := [.retAddr 0, .retAddr 0, .retAddr 0, .retAddr 0, .int v4, .int v5, .int v6, .retAddr 0]) (S' := [.int v6]) (σ' := (97, I, J, R)) rfl ?_
    have h := Option.some.inj h
    subst h
    exact az_E.ret (v := some (.int v6)) (σ' := (97, I, J, R)) rfl hQ
set_option maxRecDepth 100000 in
set_option maxHeartbeats 4000000 in
theorem re_M_reach_62_b {ex : az_X} {I : Nat → Nat → Int32} {J : Nat → Nat → Int64} {R : Nat → Nat → Option Nat} {v3 : Int32} {v4 : Int32} {v5 : Int32} {v6 : Int32} {v7 : Int32} {x : ((Int32 × Int32 × Int32) ⊕ (Int32 × (Nat → Nat → Int32)))} (h : rs_M_reach_62_b I v3 v4 v5 v6 v7 = some x) {Q : Option Value → az_S → Prop} (hQ : Sum.elim (fun s => az_E az_F ex 125 201 62 [.ref 73, .retAddr 0, .retAddr 0, .int v3, .int v4, .int s.1, .int s.2.1, .int s.2.2] [] (97, I, J, R) Q) (fun x => Q (some (.int x.1)) (97, x.2, J, R)) x) : az_E az_F ex 125 201 62 [.ref 73, .retAddr 0, .retAddr 0, .int v3, .int v4, .int v5, .int v6, .int v7] [] (97, I, J, R) Q := by
  unfold rs_M_reach_62_b at h
  refine az_E.sn 2 (pc' := 67) (L' := [.ref 73, .retAddr 0, .retAddr 0, .int v3, .int v4, .int v5, .int v6, .int v7]) (S' := [.int (144 : Int32), .int v7]) (σ' := (97, I, J, R)) rfl ?_
  refine az_E.br (c := (144 : Int32) ≤ v7) (tt := 116) (ff := 70) (L' := [.ref 73, .retAddr 0, .retAddr 0, .int v3, .int v4, .int v5, .int v6, .int v7]) (S' := []) (σ' := (97, I, J, R)) rfl (fun hc_13 => ?_) (fun hc_13 => ?_)
  · rw [if_pos hc_13] at h
    obtain ⟨x, hx, rfl⟩ := Option.map_eq_some_iff.mp h
    exact az_E.forget (L := [.retAddr 0, .retAddr 0, .retAddr 0, .retAddr 0, .int v4, .int v5, .int v6, .retAddr 0]) ⟨trivial, trivial, trivial, trivial, rfl, rfl, rfl, trivial, trivial⟩ (re_M_reach_116 (I := I) (J := J) (R := R)  hx hQ)
  · rw [if_neg hc_13] at h
    refine az_E.sn 3 (pc' := 76) (L' := [.ref 73, .retAddr 0, .retAddr 0, .int v3, .int v4, .int v5, .int v6, .int v7]) (S' := [.int v7, .ref 84]) (σ' := (97, I, J, R)) rfl ?_
    by_cases hc_15 : v7 < 0 ∨ 144 ≤ v7.toNatClampNeg
    · rw [if_pos hc_15] at h; cases h
    · rw [if_neg hc_15] at h
      refine az_E.oi (o := az_ai az_F ex (97, I, J, R) 84 v7) (pc' := 77) (L' := [.ref 73, .retAddr 0, .retAddr 0, .int v3, .int v4, .int v5, .int v6, .int v7]) (S' := []) (σ' := (97, I, J, R)) (x := (I 84 v7.toNatClampNeg)) rfl (if_neg hc_15) ?_
      refine az_E.sn 1 (pc' := 78) (L' := [.ref 73, .retAddr 0, .retAddr 0, .int v3, .int v4, .int v5, .int v6, .int v7]) (S' := [.int v3, .int (I 84 v7.toNatClampNeg)]) (σ' := (97, I, J, R)) rfl ?_
      refine az_E.br (c := v3 < (I 84 v7.toNatClampNeg)) (tt := 110) (ff := 81) (L' := [.ref 73, .retAddr 0, .retAddr 0, .int v3, .int v4, .int v5, .int v6, .int v7]) (S' := []) (σ' := (97, I, J, R)) rfl (fun hc_16 => ?_) (fun hc_16 => ?_)
      · rw [if_pos hc_16] at h
        refine az_E.sn 2 (pc' := 62) (L' := [.ref 73, .retAddr 0, .retAddr 0, .int v3, .int v4, .int v5, .int v6, .int (v7 + (1 : Int32))]) (S' := []) (σ' := (97, I, J, R)) rfl ?_
        have h := Option.some.inj h
        subst h
        exact az_E.forget (L := [.ref 73, .retAddr 0, .retAddr 0, .int v3, .int v4, .int v5, .int v6, .int (v7 + (1 : Int32))]) ⟨rfl, trivial, trivial, rfl, rfl, rfl, rfl, rfl, trivial⟩ hQ
      · rw [if_neg hc_16] at h
        refine az_E.sn 4 (pc' := 90) (L' := [.ref 73, .retAddr 0, .retAddr 0, .int v3, .int v4, .int (v5 + (1 : Int32)), .int v6, .int v7]) (S' := [.int v7, .ref 84]) (σ' := (97, I, J, R)) rfl ?_
        by_cases hc_17 : v7 < 0 ∨ 144 ≤ v7.toNatClampNeg
        · rw [if_pos hc_17] at h; cases h
        · rw [if_neg hc_17] at h
          refine az_E.oi (o := az_ai az_F ex (97, I, J, R) 84 v7) (pc' := 91) (L' := [.ref 73, .retAddr 0, .retAddr 0, .int v3, .int v4, .int (v5 + (1 : Int32)), .int v6, .int v7]) (S' := []) (σ' := (97, I, J, R)) (x := (I 84 v7.toNatClampNeg)) rfl (if_neg hc_17) ?_
          refine az_E.sn 3 (pc' := 97) (L' := [.ref 73, .retAddr 0, .retAddr 0, .int v3, .int v4, .int (v5 + (1 : Int32)), .int v6, .int v7]) (S' := [.int v6, .ref 84, .int (I 84 v7.toNatClampNeg)]) (σ' := (97, I, J, R)) rfl ?_
          by_cases hc_18 : v6 < 0 ∨ 144 ≤ v6.toNatClampNeg
          · rw [if_pos hc_18] at h; cases h
          · rw [if_neg hc_18] at h
            refine az_E.oi (o := az_ai az_F ex (97, I, J, R) 84 v6) (pc' := 98) (L' := [.ref 73, .retAddr 0, .retAddr 0, .int v3, .int v4, .int (v5 + (1 : Int32)), .int v6, .int v7]) (S' := [.int (I 84 v7.toNatClampNeg)]) (σ' := (97, I, J, R)) (x := (I 84 v6.toNatClampNeg)) rfl (if_neg hc_18) ?_
            refine az_E.br (c := (I 84 v7.toNatClampNeg) ≤ (I 84 v6.toNatClampNeg)) (tt := 106) (ff := 101) (L' := [.ref 73, .retAddr 0, .retAddr 0, .int v3, .int v4, .int (v5 + (1 : Int32)), .int v6, .int v7]) (S' := []) (σ' := (97, I, J, R)) rfl (fun hc_19 => ?_) (fun hc_19 => ?_)
            · rw [if_pos hc_19] at h
              refine az_E.sn 4 (pc' := 62) (L' := [.ref 73, .retAddr 0, .retAddr 0, .int v3, .int v4, .int (v5 + (1 : Int32)), .int v6, .int (v7 + (1 : Int32))]) (S' := []) (σ' := (97, I, J, R)) rfl ?_
              have h := Option.some.inj h
              subst h
              exact az_E.forget (L := [.ref 73, .retAddr 0, .retAddr 0, .int v3, .int v4, .int (v5 + (1 : Int32)), .int v6, .int (v7 + (1 : Int32))]) ⟨rfl, trivial, trivial, rfl, rfl, rfl, rfl, rfl, trivial⟩ hQ
            · rw [if_neg hc_19] at h
              refine az_E.sn 5 (pc' := 62) (L' := [.ref 73, .retAddr 0, .retAddr 0, .int v3, .int v4, .int (v5 + (1 : Int32)), .int v7, .int (v7 + (1 : Int32))]) (S' := []) (σ' := (97, I, J, R)) rfl ?_
              have h := Option.some.inj h
              subst h
              exact az_E.forget (L := [.ref 73, .retAddr 0, .retAddr 0, .int v3, .int v4, .int (v5 + (1 : Int32)), .int v7, .int (v7 + (1 : Int32))]) ⟨rfl, trivial, trivial, rfl, rfl, rfl, rfl, rfl, trivial⟩ hQ
set_option maxRecDepth 100000 in
set_option maxHeartbeats 4000000 in
theorem re_M_reach_62 {ex : az_X} {I : Nat → Nat → Int32} {J : Nat → Nat → Int64} {R : Nat → Nat → Option Nat} {v3 : Int32} {v4 : Int32} {v5 : Int32} {v6 : Int32} {v7 : Int32} {x : Int32 × (Nat → Nat → Int32)} (h : rs_M_reach_62 I v3 v4 v5 v6 v7 = some x) {Q : Option Value → az_S → Prop} (hQ : Q (some (.int x.1)) (97, x.2, J, R)) : az_E az_F ex 125 201 62 [.ref 73, .retAddr 0, .retAddr 0, .int v3, .int v4, .int v5, .int v6, .int v7] [] (97, I, J, R) Q := by
  unfold rs_M_reach_62 at h
  refine az_lp_E (G := fun s => az_E az_F ex 125 201 62 [.ref 73, .retAddr 0, .retAddr 0, .int v3, .int v4, .int s.1, .int s.2.1, .int s.2.2] [] (97, I, J, R) Q) (H := fun x => Q (some (.int x.1)) (97, x.2, J, R)) (fun s o hb ho => ?_) _ _ _ h hQ
  exact re_M_reach_62_b  hb ho
set_option maxRecDepth 100000 in
set_option maxHeartbeats 4000000 in
theorem re_M_reach {ex : az_X} {I : Nat → Nat → Int32} {J : Nat → Nat → Int64} {R : Nat → Nat → Option Nat} {a1 : Int32} {a2 : Int32} {a3 : Int32} {a4 : Int32} {o : Int32 × (Nat → Nat → Int32)} (h : rs_M_reach I a1 a2 a3 a4 = some o) {Q : Option Value → az_S → Prop} (hQ : Q (some (.int o.1)) (97, o.2, J, R)) : az_E az_F ex 125 201 0 [.ref 73, .int a1, .int a2, .int a3, .int a4, .retAddr 0, .retAddr 0, .retAddr 0] [] (97, I, J, R) Q := by
  unfold rs_M_reach at h
  refine az_E.sn 2 (pc' := 2) (L' := [.ref 73, .int a1, .int a2, .int a3, .int a4, .retAddr 0, .retAddr 0, .retAddr 0]) (S' := [.long a1.toInt64]) (σ' := (97, I, J, R)) rfl ?_
  refine az_E.call (d := 124) (k' := 160) (vs := [.long a1.toInt64]) (pc' := 5) (S' := []) rfl ?_ (fun _ _ hq => hq)
  show az_E az_F ex 124 160 0 [.long a1.toInt64, .retAddr 0] [] (97, I, J, R) _
  refine az_E.sn 3 (pc' := 5) (L' := [.long a1.toInt64, .retAddr 0]) (S' := [.long (143 : Int64), .long (0 : Int64), .long a1.toInt64]) (σ' := (97, I, J, R)) rfl ?_
  refine az_E.call (d := 123) (k' := 154) (vs := [.long a1.toInt64, .long (0 : Int64), .long (143 : Int64)]) (pc' := 8) (S' := []) rfl ?_ (fun _ _ hq => hq)
  show az_E az_F ex 123 154 0 [.long a1.toInt64, .retAddr 0, .long (0 : Int64), .retAddr 0, .long (143 : Int64), .retAddr 0] [] (97, I, J, R) _
  refine az_E.sn 3 (pc' := 3) (L' := [.long a1.toInt64, .retAddr 0, .long (0 : Int64), .retAddr 0, .long (143 : Int64), .retAddr 0]) (S' := [.int (lg_cmp a1.toInt64 (0 : Int64))]) (σ' := (97, I, J, R)) rfl ?_
  refine az_E.br (c := (lg_cmp a1.toInt64 (0 : Int64)) < 0) (tt := 17) (ff := 6) (L' := [.long a1.toInt64, .retAddr 0, .long (0 : Int64), .retAddr 0, .long (143 : Int64), .retAddr 0]) (S' := []) (σ' := (97, I, J, R)) rfl (fun hc_1 => ?_) (fun hc_1 => ?_)
  · rw [if_pos hc_1] at h
    refine az_E.sn 1 (pc' := 18) (L' := [.long a1.toInt64, .retAddr 0, .long (0 : Int64), .retAddr 0, .long (143 : Int64), .retAddr 0]) (S' := [.int (0 : Int32)]) (σ' := (97, I, J, R)) rfl ?_
    refine az_E.ret (v := some (.int (0 : Int32))) (σ' := (97, I, J, R)) rfl ?_
    show az_E az_F ex 124 160 8 [.long a1.toInt64, .retAddr 0] [.int (0 : Int32)] (97, I, J, R) _
    refine az_E.ret (v := some (.int (0 : Int32))) (σ' := (97, I, J, R)) rfl ?_
    show az_E az_F ex 125 201 5 [.ref 73, .int a1, .int a2, .int a3, .int a4, .retAddr 0, .retAddr 0, .retAddr 0] [.int (0 : Int32)] (97, I, J, R) _
    refine az_E.br (c := (0 : Int32) = 0) (tt := 40) (ff := 8) (L' := [.ref 73, .int a1, .int a2, .int a3, .int a4, .retAddr 0, .retAddr 0, .retAddr 0]) (S' := []) (σ' := (97, I, J, R)) rfl (fun _ => ?_) (fun hn => absurd (by decide) hn)
    refine az_E.sn 1 (pc' := 41) (L' := [.ref 73, .int a1, .int a2, .int a3, .int a4, .retAddr 0, .retAddr 0, .retAddr 0]) (S' := [.int (-1 : Int32)]) (σ' := (97, I, J, R)) rfl ?_
    have h := Option.some.inj h
    subst h
    exact az_E.ret (v := some (.int (-1 : Int32))) (σ' := (97, I, J, R)) rfl hQ
  · rw [if_neg hc_1] at h
    refine az_E.sn 3 (pc' := 10) (L' := [.long a1.toInt64, .retAddr 0, .long (0 : Int64), .retAddr 0, .long (143 : Int64), .retAddr 0]) (S' := [.int (lg_cmp a1.toInt64 (143 : Int64))]) (σ' := (97, I, J, R)) rfl ?_
    refine az_E.br (c := 0 < (lg_cmp a1.toInt64 (143 : Int64))) (tt := 17) (ff := 13) (L' := [.long a1.toInt64, .retAddr 0, .long (0 : Int64), .retAddr 0, .long (143 : Int64), .retAddr 0]) (S' := []) (σ' := (97, I, J, R)) rfl (fun hc_2 => ?_) (fun hc_2 => ?_)
    · rw [if_pos hc_2] at h
      refine az_E.sn 1 (pc' := 18) (L' := [.long a1.toInt64, .retAddr 0, .long (0 : Int64), .retAddr 0, .long (143 : Int64), .retAddr 0]) (S' := [.int (0 : Int32)]) (σ' := (97, I, J, R)) rfl ?_
      refine az_E.ret (v := some (.int (0 : Int32))) (σ' := (97, I, J, R)) rfl ?_
      show az_E az_F ex 124 160 8 [.long a1.toInt64, .retAddr 0] [.int (0 : Int32)] (97, I, J, R) _
      refine az_E.ret (v := some (.int (0 : Int32))) (σ' := (97, I, J, R)) rfl ?_
      show az_E az_F ex 125 201 5 [.ref 73, .int a1, .int a2, .int a3, .int a4, .retAddr 0, .retAddr 0, .retAddr 0] [.int (0 : Int32)] (97, I, J, R) _
      refine az_E.br (c := (0 : Int32) = 0) (tt := 40) (ff := 8) (L' := [.ref 73, .int a1, .int a2, .int a3, .int a4, .retAddr 0, .retAddr 0, .retAddr 0]) (S' := []) (σ' := (97, I, J, R)) rfl (fun _ => ?_) (fun hn => absurd (by decide) hn)
      refine az_E.sn 1 (pc' := 41) (L' := [.ref 73, .int a1, .int a2, .int a3, .int a4, .retAddr 0, .retAddr 0, .retAddr 0]) (S' := [.int (-1 : Int32)]) (σ' := (97, I, J, R)) rfl ?_
      have h := Option.some.inj h
      subst h
      exact az_E.ret (v := some (.int (-1 : Int32))) (σ' := (97, I, J, R)) rfl hQ
    · rw [if_neg hc_2] at h
      refine az_E.sn 2 (pc' := 18) (L' := [.long a1.toInt64, .retAddr 0, .long (0 : Int64), .retAddr 0, .long (143 : Int64), .retAddr 0]) (S' := [.int (1 : Int32)]) (σ' := (97, I, J, R)) rfl ?_
      refine az_E.ret (v := some (.int (1 : Int32))) (σ' := (97, I, J, R)) rfl ?_
      show az_E az_F ex 124 160 8 [.long a1.toInt64, .retAddr 0] [.int (1 : Int32)] (97, I, J, R) _
      refine az_E.ret (v := some (.int (1 : Int32))) (σ' := (97, I, J, R)) rfl ?_
      show az_E az_F ex 125 201 5 [.ref 73, .int a1, .int a2, .int a3, .int a4, .retAddr 0, .retAddr 0, .retAddr 0] [.int (1 : Int32)] (97, I, J, R) _
      refine az_E.br (c := (1 : Int32) = 0) (tt := 40) (ff := 8) (L' := [.ref 73, .int a1, .int a2, .int a3, .int a4, .retAddr 0, .retAddr 0, .retAddr 0]) (S' := []) (σ' := (97, I, J, R)) rfl (fun hn => absurd hn (by decide)) (fun _ => ?_)
      refine az_E.sn 3 (pc' := 11) (L' := [.ref 73, .int a1, .int a2, .int a3, .int a4, .retAddr 0, .retAddr 0, .retAddr 0]) (S' := [.long a2.toInt64, .ref 73]) (σ' := (97, I, J, R)) rfl ?_
      refine az_E.call (d := 124) (k' := 162) (vs := [.ref 73, .long a2.toInt64]) (pc' := 14) (S' := []) rfl ?_ (fun _ _ hq => hq)
      show az_E az_F ex 124 162 0 [.ref 73, .long a2.toInt64, .retAddr 0] [] (97, I, J, R) _
      refine az_E.sn 7 (pc' := 9) (L' := [.ref 73, .long a2.toInt64, .retAddr 0]) (S' := [.long ((I 73 7) - (1 : Int32)).toInt64, .long (0 : Int64), .long a2.toInt64]) (σ' := (97, I, J, R)) rfl ?_
      refine az_E.call (d := 123) (k' := 154) (vs := [.long a2.toInt64, .long (0 : Int64), .long ((I 73 7) - (1 : Int32)).toInt64]) (pc' := 12) (S' := []) rfl ?_ (fun _ _ hq => hq)
      show az_E az_F ex 123 154 0 [.long a2.toInt64, .retAddr 0, .long (0 : Int64), .retAddr 0, .long ((I 73 7) - (1 : Int32)).toInt64, .retAddr 0] [] (97, I, J, R) _
      refine az_E.sn 3 (pc' := 3) (L' := [.long a2.toInt64, .retAddr 0, .long (0 : Int64), .retAddr 0, .long ((I 73 7) - (1 : Int32)).toInt64, .retAddr 0]) (S' := [.int (lg_cmp a2.toInt64 (0 : Int64))]) (σ' := (97, I, J, R)) rfl ?_
      refine az_E.br (c := (lg_cmp a2.toInt64 (0 : Int64)) < 0) (tt := 17) (ff := 6) (L' := [.long a2.toInt64, .retAddr 0, .long (0 : Int64), .retAddr 0, .long ((I 73 7) - (1 : Int32)).toInt64, .retAddr 0]) (S' := []) (σ' := (97, I, J, R)) rfl (fun hc_3 => ?_) (fun hc_3 => ?_)
      · rw [if_pos hc_3] at h
        refine az_E.sn 1 (pc' := 18) (L' := [.long a2.toInt64, .retAddr 0, .long (0 : Int64), .retAddr 0, .long ((I 73 7) - (1 : Int32)).toInt64, .retAddr 0]) (S' := [.int (0 : Int32)]) (σ' := (97, I, J, R)) rfl ?_
        refine az_E.ret (v := some (.int (0 : Int32))) (σ' := (97, I, J, R)) rfl ?_
        show az_E az_F ex 124 162 12 [.ref 73, .long a2.toInt64, .retAddr 0] [.int (0 : Int32)] (97, I, J, R) _
        refine az_E.ret (v := some (.int (0 : Int32))) (σ' := (97, I, J, R)) rfl ?_
        show az_E az_F ex 125 201 14 [.ref 73, .int a1, .int a2, .int a3, .int a4, .retAddr 0, .retAddr 0, .retAddr 0] [.int (0 : Int32)] (97, I, J, R) _
        refine az_E.br (c := (0 : Int32) = 0) (tt := 40) (ff := 17) (L' := [.ref 73, .int a1, .int a2, .int a3, .int a4, .retAddr 0, .retAddr 0, .retAddr 0]) (S' := []) (σ' := (97, I, J, R)) rfl (fun _ => ?_) (fun hn => absurd (by decide) hn)
        refine az_E.sn 1 (pc' := 41) (L' := [.ref 73, .int a1, .int a2, .int a3, .int a4, .retAddr 0, .retAddr 0, .retAddr 0]) (S' := [.int (-1 : Int32)]) (σ' := (97, I, J, R)) rfl ?_
        have h := Option.some.inj h
        subst h
        exact az_E.ret (v := some (.int (-1 : Int32))) (σ' := (97, I, J, R)) rfl hQ
      · rw [if_neg hc_3] at h
        refine az_E.sn 3 (pc' := 10) (L' := [.long a2.toInt64, .retAddr 0, .long (0 : Int64), .retAddr 0, .long ((I 73 7) - (1 : Int32)).toInt64, .retAddr 0]) (S' := [.int (lg_cmp a2.toInt64 ((I 73 7) - (1 : Int32)).toInt64)]) (σ' := (97, I, J, R)) rfl ?_
        refine az_E.br (c := 0 < (lg_cmp a2.toInt64 ((I 73 7) - (1 : Int32)).toInt64)) (tt := 17) (ff := 13) (L' := [.long a2.toInt64, .retAddr 0, .long (0 : Int64), .retAddr 0, .long ((I 73 7) - (1 : Int32)).toInt64, .retAddr 0]) (S' := []) (σ' := (97, I, J, R)) rfl (fun hc_4 => ?_) (fun hc_4 => ?_)
        · rw [if_pos hc_4] at h
          refine az_E.sn 1 (pc' := 18) (L' := [.long a2.toInt64, .retAddr 0, .long (0 : Int64), .retAddr 0, .long ((I 73 7) - (1 : Int32)).toInt64, .retAddr 0]) (S' := [.int (0 : Int32)]) (σ' := (97, I, J, R)) rfl ?_
          refine az_E.ret (v := some (.int (0 : Int32))) (σ' := (97, I, J, R)) rfl ?_
          show az_E az_F ex 124 162 12 [.ref 73, .long a2.toInt64, .retAddr 0] [.int (0 : Int32)] (97, I, J, R) _
          refine az_E.ret (v := some (.int (0 : Int32))) (σ' := (97, I, J, R)) rfl ?_
          show az_E az_F ex 125 201 14 [.ref 73, .int a1, .int a2, .int a3, .int a4, .retAddr 0, .retAddr 0, .retAddr 0] [.int (0 : Int32)] (97, I, J, R) _
          refine az_E.br (c := (0 : Int32) = 0) (tt := 40) (ff := 17) (L' := [.ref 73, .int a1, .int a2, .int a3, .int a4, .retAddr 0, .retAddr 0, .retAddr 0]) (S' := []) (σ' := (97, I, J, R)) rfl (fun _ => ?_) (fun hn => absurd (by decide) hn)
          refine az_E.sn 1 (pc' := 41) (L' := [.ref 73, .int a1, .int a2, .int a3, .int a4, .retAddr 0, .retAddr 0, .retAddr 0]) (S' := [.int (-1 : Int32)]) (σ' := (97, I, J, R)) rfl ?_
          have h := Option.some.inj h
          subst h
          exact az_E.ret (v := some (.int (-1 : Int32))) (σ' := (97, I, J, R)) rfl hQ
        · rw [if_neg hc_4] at h
          refine az_E.sn 2 (pc' := 18) (L' := [.long a2.toInt64, .retAddr 0, .long (0 : Int64), .retAddr 0, .long ((I 73 7) - (1 : Int32)).toInt64, .retAddr 0]) (S' := [.int (1 : Int32)]) (σ' := (97, I, J, R)) rfl ?_
          refine az_E.ret (v := some (.int (1 : Int32))) (σ' := (97, I, J, R)) rfl ?_
          show az_E az_F ex 124 162 12 [.ref 73, .long a2.toInt64, .retAddr 0] [.int (1 : Int32)] (97, I, J, R) _
          refine az_E.ret (v := some (.int (1 : Int32))) (σ' := (97, I, J, R)) rfl ?_
          show az_E az_F ex 125 201 14 [.ref 73, .int a1, .int a2, .int a3, .int a4, .retAddr 0, .retAddr 0, .retAddr 0] [.int (1 : Int32)] (97, I, J, R) _
          refine az_E.br (c := (1 : Int32) = 0) (tt := 40) (ff := 17) (L' := [.ref 73, .int a1, .int a2, .int a3, .int a4, .retAddr 0, .retAddr 0, .retAddr 0]) (S' := []) (σ' := (97, I, J, R)) rfl (fun hn => absurd hn (by decide)) (fun _ => ?_)
          refine az_E.sn 4 (pc' := 23) (L' := [.ref 73, .int a1, .int a2, .int a3, .int a4, .retAddr 0, .retAddr 0, .retAddr 0]) (S' := [.long (999 : Int64), .long (0 : Int64), .long a3.toInt64]) (σ' := (97, I, J, R)) rfl ?_
          refine az_E.call (d := 124) (k' := 154) (vs := [.long a3.toInt64, .long (0 : Int64), .long (999 : Int64)]) (pc' := 26) (S' := []) rfl ?_ (fun _ _ hq => hq)
          show az_E az_F ex 124 154 0 [.long a3.toInt64, .retAddr 0, .long (0 : Int64), .retAddr 0, .long (999 : Int64), .retAddr 0] [] (97, I, J, R) _
          refine az_E.sn 3 (pc' := 3) (L' := [.long a3.toInt64, .retAddr 0, .long (0 : Int64), .retAddr 0, .long (999 : Int64), .retAddr 0]) (S' := [.int (lg_cmp a3.toInt64 (0 : Int64))]) (σ' := (97, I, J, R)) rfl ?_
          refine az_E.br (c := (lg_cmp a3.toInt64 (0 : Int64)) < 0) (tt := 17) (ff := 6) (L' := [.long a3.toInt64, .retAddr 0, .long (0 : Int64), .retAddr 0, .long (999 : Int64), .retAddr 0]) (S' := []) (σ' := (97, I, J, R)) rfl (fun hc_5 => ?_) (fun hc_5 => ?_)
          · rw [if_pos hc_5] at h
            refine az_E.sn 1 (pc' := 18) (L' := [.long a3.toInt64, .retAddr 0, .long (0 : Int64), .retAddr 0, .long (999 : Int64), .retAddr 0]) (S' := [.int (0 : Int32)]) (σ' := (97, I, J, R)) rfl ?_
            refine az_E.ret (v := some (.int (0 : Int32))) (σ' := (97, I, J, R)) rfl ?_
            show az_E az_F ex 125 201 26 [.ref 73, .int a1, .int a2, .int a3, .int a4, .retAddr 0, .retAddr 0, .retAddr 0] [.int (0 : Int32)] (97, I, J, R) _
            refine az_E.br (c := (0 : Int32) = 0) (tt := 40) (ff := 29) (L' := [.ref 73, .int a1, .int a2, .int a3, .int a4, .retAddr 0, .retAddr 0, .retAddr 0]) (S' := []) (σ' := (97, I, J, R)) rfl (fun _ => ?_) (fun hn => absurd (by decide) hn)
            refine az_E.sn 1 (pc' := 41) (L' := [.ref 73, .int a1, .int a2, .int a3, .int a4, .retAddr 0, .retAddr 0, .retAddr 0]) (S' := [.int (-1 : Int32)]) (σ' := (97, I, J, R)) rfl ?_
            have h := Option.some.inj h
            subst h
            exact az_E.ret (v := some (.int (-1 : Int32))) (σ' := (97, I, J, R)) rfl hQ
          · rw [if_neg hc_5] at h
            refine az_E.sn 3 (pc' := 10) (L' := [.long a3.toInt64, .retAddr 0, .long (0 : Int64), .retAddr 0, .long (999 : Int64), .retAddr 0]) (S' := [.int (lg_cmp a3.toInt64 (999 : Int64))]) (σ' := (97, I, J, R)) rfl ?_
            refine az_E.br (c := 0 < (lg_cmp a3.toInt64 (999 : Int64))) (tt := 17) (ff := 13) (L' := [.long a3.toInt64, .retAddr 0, .long (0 : Int64), .retAddr 0, .long (999 : Int64), .retAddr 0]) (S' := []) (σ' := (97, I, J, R)) rfl (fun hc_6 => ?_) (fun hc_6 => ?_)
            · rw [if_pos hc_6] at h
              refine az_E.sn 1 (pc' := 18) (L' := [.long a3.toInt64, .retAddr 0, .long (0 : Int64), .retAddr 0, .long (999 : Int64), .retAddr 0]) (S' := [.int (0 : Int32)]) (σ' := (97, I, J, R)) rfl ?_
              refine az_E.ret (v := some (.int (0 : Int32))) (σ' := (97, I, J, R)) rfl ?_
              show az_E az_F ex 125 201 26 [.ref 73, .int a1, .int a2, .int a3, .int a4, .retAddr 0, .retAddr 0, .retAddr 0] [.int (0 : Int32)] (97, I, J, R) _
              refine az_E.br (c := (0 : Int32) = 0) (tt := 40) (ff := 29) (L' := [.ref 73, .int a1, .int a2, .int a3, .int a4, .retAddr 0, .retAddr 0, .retAddr 0]) (S' := []) (σ' := (97, I, J, R)) rfl (fun _ => ?_) (fun hn => absurd (by decide) hn)
              refine az_E.sn 1 (pc' := 41) (L' := [.ref 73, .int a1, .int a2, .int a3, .int a4, .retAddr 0, .retAddr 0, .retAddr 0]) (S' := [.int (-1 : Int32)]) (σ' := (97, I, J, R)) rfl ?_
              have h := Option.some.inj h
              subst h
              exact az_E.ret (v := some (.int (-1 : Int32))) (σ' := (97, I, J, R)) rfl hQ
            · rw [if_neg hc_6] at h
              refine az_E.sn 2 (pc' := 18) (L' := [.long a3.toInt64, .retAddr 0, .long (0 : Int64), .retAddr 0, .long (999 : Int64), .retAddr 0]) (S' := [.int (1 : Int32)]) (σ' := (97, I, J, R)) rfl ?_
              refine az_E.ret (v := some (.int (1 : Int32))) (σ' := (97, I, J, R)) rfl ?_
              show az_E az_F ex 125 201 26 [.ref 73, .int a1, .int a2, .int a3, .int a4, .retAddr 0, .retAddr 0, .retAddr 0] [.int (1 : Int32)] (97, I, J, R) _
              refine az_E.br (c := (1 : Int32) = 0) (tt := 40) (ff := 29) (L' := [.ref 73, .int a1, .int a2, .int a3, .int a4, .retAddr 0, .retAddr 0, .retAddr 0]) (S' := []) (σ' := (97, I, J, R)) rfl (fun hn => absurd hn (by decide)) (fun _ => ?_)
              refine az_E.sn 4 (pc' := 34) (L' := [.ref 73, .int a1, .int a2, .int a3, .int a4, .retAddr 0, .retAddr 0, .retAddr 0]) (S' := [.long (1 : Int64), .long (0 : Int64), .long a4.toInt64]) (σ' := (97, I, J, R)) rfl ?_
              refine az_E.call (d := 124) (k' := 154) (vs := [.long a4.toInt64, .long (0 : Int64), .long (1 : Int64)]) (pc' := 37) (S' := []) rfl ?_ (fun _ _ hq => hq)
              show az_E az_F ex 124 154 0 [.long a4.toInt64, .retAddr 0, .long (0 : Int64), .retAddr 0, .long (1 : Int64), .retAddr 0] [] (97, I, J, R) _
              refine az_E.sn 3 (pc' := 3) (L' := [.long a4.toInt64, .retAddr 0, .long (0 : Int64), .retAddr 0, .long (1 : Int64), .retAddr 0]) (S' := [.int (lg_cmp a4.toInt64 (0 : Int64))]) (σ' := (97, I, J, R)) rfl ?_
              refine az_E.br (c := (lg_cmp a4.toInt64 (0 : Int64)) < 0) (tt := 17) (ff := 6) (L' := [.long a4.toInt64, .retAddr 0, .long (0 : Int64), .retAddr 0, .long (1 : Int64), .retAddr 0]) (S' := []) (σ' := (97, I, J, R)) rfl (fun hc_7 => ?_) (fun hc_7 => ?_)
              · rw [if_pos hc_7] at h
                refine az_E.sn 1 (pc' := 18) (L' := [.long a4.toInt64, .retAddr 0, .long (0 : Int64), .retAddr 0, .long (1 : Int64), .retAddr 0]) (S' := [.int (0 : Int32)]) (σ' := (97, I, J, R)) rfl ?_
                refine az_E.ret (v := some (.int (0 : Int32))) (σ' := (97, I, J, R)) rfl ?_
                show az_E az_F ex 125 201 37 [.ref 73, .int a1, .int a2, .int a3, .int a4, .retAddr 0, .retAddr 0, .retAddr 0] [.int (0 : Int32)] (97, I, J, R) _
                refine az_E.br (c := (0 : Int32) = 0) (tt := 40) (ff := 42) (L' := [.ref 73, .int a1, .int a2, .int a3, .int a4, .retAddr 0, .retAddr 0, .retAddr 0]) (S' := []) (σ' := (97, I, J, R)) rfl (fun _ => ?_) (fun hn => absurd (by decide) hn)
                refine az_E.sn 1 (pc' := 41) (L' := [.ref 73, .int a1, .int a2, .int a3, .int a4, .retAddr 0, .retAddr 0, .retAddr 0]) (S' := [.int (-1 : Int32)]) (σ' := (97, I, J, R)) rfl ?_
                have h := Option.some.inj h
                subst h
                exact az_E.ret (v := some (.int (-1 : Int32))) (σ' := (97, I, J, R)) rfl hQ
              · rw [if_neg hc_7] at h
                refine az_E.sn 3 (pc' := 10) (L' := [.long a4.toInt64, .retAddr 0, .long (0 : Int64), .retAddr 0, .long (1 : Int64), .retAddr 0]) (S' := [.int (lg_cmp a4.toInt64 (1 : Int64))]) (σ' := (97, I, J, R)) rfl ?_
                refine az_E.br (c := 0 < (lg_cmp a4.toInt64 (1 : Int64))) (tt := 17) (ff := 13) (L' := [.long a4.toInt64, .retAddr 0, .long (0 : Int64), .retAddr 0, .long (1 : Int64), .retAddr 0]) (S' := []) (σ' := (97, I, J, R)) rfl (fun hc_8 => ?_) (fun hc_8 => ?_)
                · rw [if_pos hc_8] at h
                  refine az_E.sn 1 (pc' := 18) (L' := [.long a4.toInt64, .retAddr 0, .long (0 : Int64), .retAddr 0, .long (1 : Int64), .retAddr 0]) (S' := [.int (0 : Int32)]) (σ' := (97, I, J, R)) rfl ?_
                  refine az_E.ret (v := some (.int (0 : Int32))) (σ' := (97, I, J, R)) rfl ?_
                  show az_E az_F ex 125 201 37 [.ref 73, .int a1, .int a2, .int a3, .int a4, .retAddr 0, .retAddr 0, .retAddr 0] [.int (0 : Int32)] (97, I, J, R) _
                  refine az_E.br (c := (0 : Int32) = 0) (tt := 40) (ff := 42) (L' := [.ref 73, .int a1, .int a2, .int a3, .int a4, .retAddr 0, .retAddr 0, .retAddr 0]) (S' := []) (σ' := (97, I, J, R)) rfl (fun _ => ?_) (fun hn => absurd (by decide) hn)
                  refine az_E.sn 1 (pc' := 41) (L' := [.ref 73, .int a1, .int a2, .int a3, .int a4, .retAddr 0, .retAddr 0, .retAddr 0]) (S' := [.int (-1 : Int32)]) (σ' := (97, I, J, R)) rfl ?_
                  have h := Option.some.inj h
                  subst h
                  exact az_E.ret (v := some (.int (-1 : Int32))) (σ' := (97, I, J, R)) rfl hQ
                · rw [if_neg hc_8] at h
                  refine az_E.sn 2 (pc' := 18) (L' := [.long a4.toInt64, .retAddr 0, .long (0 : Int64), .retAddr 0, .long (1 : Int64), .retAddr 0]) (S' := [.int (1 : Int32)]) (σ' := (97, I, J, R)) rfl ?_
                  refine az_E.ret (v := some (.int (1 : Int32))) (σ' := (97, I, J, R)) rfl ?_
                  show az_E az_F ex 125 201 37 [.ref 73, .int a1, .int a2, .int a3, .int a4, .retAddr 0, .retAddr 0, .retAddr 0] [.int (1 : Int32)] (97, I, J, R) _
                  refine az_E.br (c := (1 : Int32) = 0) (tt := 40) (ff := 42) (L' := [.ref 73, .int a1, .int a2, .int a3, .int a4, .retAddr 0, .retAddr 0, .retAddr 0]) (S' := []) (σ' := (97, I, J, R)) rfl (fun hn => absurd hn (by decide)) (fun _ => ?_)
                  refine az_E.sn 2 (pc' := 44) (L' := [.ref 73, .int a1, .int a2, .int a3, .int a4, .retAddr 0, .retAddr 0, .retAddr 0]) (S' := [.int a2, .ref 73]) (σ' := (97, I, J, R)) rfl ?_
                  cases hx_10 : rs_M_asksFor I a2 with
                  | none => rw [hx_10] at h; cases h
                  | some I_9 =>
                    rw [hx_10] at h
                    dsimp only at h
                    refine az_E.call (d := 124) (k' := 190) (vs := [.ref 73, .int a2]) (pc' := 47) (S' := []) (Q1 := fun v s => v = none ∧ s = (97, I_9, J, R)) rfl (az_E.deep (by omega) (re_M_asksFor (J := J) (R := R)  hx_10 ⟨rfl, rfl⟩)) (fun v s hq => ?_)
                    obtain ⟨rfl, rfl⟩ := hq
                    show az_E az_F ex 125 201 47 [.ref 73, .int a1, .int a2, .int a3, .int a4, .retAddr 0, .retAddr 0, .retAddr 0] [] (97, I_9, J, R) _
                    refine az_E.sn 3 (pc' := 50) (L' := [.ref 73, .int a1, .int a2, .int a3, .int a4, .retAddr 0, .retAddr 0, .retAddr 0]) (S' := [.int (1 : Int32), .int a1, .ref 73]) (σ' := (97, I_9, J, R)) rfl ?_
                    cases hx_12 : rs_M_asksMinutes I_9 a1 (1 : Int32) with
                    | none => rw [hx_12] at h; cases h
                    | some I_11 =>
                      rw [hx_12] at h
                      dsimp only at h
                      refine az_E.call (d := 124) (k' := 194) (vs := [.ref 73, .int a1, .int (1 : Int32)]) (pc' := 53) (S' := []) (Q1 := fun v s => v = none ∧ s = (97, I_11, J, R)) rfl (az_E.deep (by omega) (re_M_asksMinutes (J := J) (R := R)  hx_12 ⟨rfl, rfl⟩)) (fun v s hq => ?_)
                      obtain ⟨rfl, rfl⟩ := hq
                      show az_E az_F ex 125 201 53 [.ref 73, .int a1, .int a2, .int a3, .int a4, .retAddr 0, .retAddr 0, .retAddr 0] [] (97, I_11, J, R) _
                      refine az_E.sn 6 (pc' := 62) (L' := [.ref 73, .int a1, .int a2, .int a3, .int a4, .int (0 : Int32), .int a1, .int (0 : Int32)]) (S' := []) (σ' := (97, I_11, J, R)) rfl ?_
                      exact az_E.forget (L := [.ref 73, .retAddr 0, .retAddr 0, .int a3, .int a4, .int (0 : Int32), .int a1, .int (0 : Int32)]) ⟨rfl, trivial, trivial, rfl, rfl, rfl, rfl, rfl, trivial⟩ (re_M_reach_62 (I := I_11) (J := J) (R := R)  h hQ)
set_option maxRecDepth 100000 in
set_option maxHeartbeats 4000000 in
theorem re_X_areTwoWalkers {ex : az_X} {I : Nat → Nat → Int32} {J : Nat → Nat → Int64} {R : Nat → Nat → Option Nat} {a1 : Int32} {o : Int32} (h : rs_X_areTwoWalkers I a1 = some o) {Q : Option Value → az_S → Prop} (hQ : Q (some (.int o)) (97, I, J, R)) : az_E az_F ex 2 140 0 [.ref 3, .int a1] [] (97, I, J, R) Q := by
  unfold rs_X_areTwoWalkers at h
  refine az_E.sn 1 (pc' := 1) (L' := [.ref 3, .int a1]) (S' := [.int a1]) (σ' := (97, I, J, R)) rfl ?_
  refine az_E.br (c := a1 < 0) (tt := 41) (ff := 4) (L' := [.ref 3, .int a1]) (S' := []) (σ' := (97, I, J, R)) rfl (fun hc_1 => ?_) (fun hc_1 => ?_)
  · rw [if_pos hc_1] at h
    refine az_E.sn 1 (pc' := 42) (L' := [.ref 3, .int a1]) (S' := [.int (0 : Int32)]) (σ' := (97, I, J, R)) rfl ?_
    have h := Option.some.inj h
    subst h
    exact az_E.ret (v := some (.int (0 : Int32))) (σ' := (97, I, J, R)) rfl hQ
  · rw [if_neg hc_1] at h
    refine az_E.sn 3 (pc' := 8) (L' := [.ref 3, .int a1]) (S' := [.int (10 : Int32), .int a1, .ref 3]) (σ' := (97, I, J, R)) rfl ?_
    have hd_2 : ¬ ((10 : Int32) = 0) := by decide
    refine az_E.dv (c := (10 : Int32) = 0) (pc' := 9) (L' := [.ref 3, .int a1]) (S' := [.int (a1 / (10 : Int32)), .ref 3]) (σ' := (97, I, J, R)) rfl hd_2 ?_
    refine az_E.call (d := 1) (k' := 138) (vs := [.ref 3, .int (a1 / (10 : Int32))]) (pc' := 12) (S' := []) rfl ?_ (fun _ _ hq => hq)
    show az_E az_F ex 1 138 0 [.ref 3, .int (a1 / (10 : Int32))] [] (97, I, J, R) _
    refine az_E.sn 7 (pc' := 11) (L' := [.ref 3, .int (a1 / (10 : Int32))]) (S' := [.int ((I 4 9) - (1 : Int32)), .int (0 : Int32), .int (a1 / (10 : Int32))]) (σ' := (97, I, J, R)) rfl ?_
    refine az_E.call (d := 0) (k' := 131) (vs := [.int (a1 / (10 : Int32)), .int (0 : Int32), .int ((I 4 9) - (1 : Int32))]) (pc' := 14) (S' := []) rfl ?_ (fun _ _ hq => hq)
    show az_E az_F ex 0 131 0 [.int (a1 / (10 : Int32)), .int (0 : Int32), .int ((I 4 9) - (1 : Int32))] [] (97, I, J, R) _
    refine az_E.sn 2 (pc' := 2) (L' := [.int (a1 / (10 : Int32)), .int (0 : Int32), .int ((I 4 9) - (1 : Int32))]) (S' := [.int (0 : Int32), .int (a1 / (10 : Int32))]) (σ' := (97, I, J, R)) rfl ?_
    refine az_E.br (c := (a1 / (10 : Int32)) < (0 : Int32)) (tt := 14) (ff := 5) (L' := [.int (a1 / (10 : Int32)), .int (0 : Int32), .int ((I 4 9) - (1 : Int32))]) (S' := []) (σ' := (97, I, J, R)) rfl (fun hc_3 => ?_) (fun hc_3 => ?_)
    · rw [if_pos hc_3] at h
      refine az_E.sn 1 (pc' := 15) (L' := [.int (a1 / (10 : Int32)), .int (0 : Int32), .int ((I 4 9) - (1 : Int32))]) (S' := [.int (0 : Int32)]) (σ' := (97, I, J, R)) rfl ?_
      refine az_E.ret (v := some (.int (0 : Int32))) (σ' := (97, I, J, R)) rfl ?_
      show az_E az_F ex 1 138 14 [.ref 3, .int (a1 / (10 : Int32))] [.int (0 : Int32)] (97, I, J, R) _
      refine az_E.ret (v := some (.int (0 : Int32))) (σ' := (97, I, J, R)) rfl ?_
      show az_E az_F ex 2 140 12 [.ref 3, .int a1] [.int (0 : Int32)] (97, I, J, R) _
      refine az_E.br (c := (0 : Int32) = 0) (tt := 41) (ff := 15) (L' := [.ref 3, .int a1]) (S' := []) (σ' := (97, I, J, R)) rfl (fun _ => ?_) (fun hn => absurd (by decide) hn)
      refine az_E.sn 1 (pc' := 42) (L' := [.ref 3, .int a1]) (S' := [.int (0 : Int32)]) (σ' := (97, I, J, R)) rfl ?_
      have h := Option.some.inj h
      subst h
      exact az_E.ret (v := some (.int (0 : Int32))) (σ' := (97, I, J, R)) rfl hQ
    · rw [if_neg hc_3] at h
      refine az_E.sn 2 (pc' := 7) (L' := [.int (a1 / (10 : Int32)), .int (0 : Int32), .int ((I 4 9) - (1 : Int32))]) (S' := [.int ((I 4 9) - (1 : Int32)), .int (a1 / (10 : Int32))]) (σ' := (97, I, J, R)) rfl ?_
      refine az_E.br (c := ((I 4 9) - (1 : Int32)) < (a1 / (10 : Int32))) (tt := 14) (ff := 10) (L' := [.int (a1 / (10 : Int32)), .int (0 : Int32), .int ((I 4 9) - (1 : Int32))]) (S' := []) (σ' := (97, I, J, R)) rfl (fun hc_4 => ?_) (fun hc_4 => ?_)
      · rw [if_pos hc_4] at h
        refine az_E.sn 1 (pc' := 15) (L' := [.int (a1 / (10 : Int32)), .int (0 : Int32), .int ((I 4 9) - (1 : Int32))]) (S' := [.int (0 : Int32)]) (σ' := (97, I, J, R)) rfl ?_
        refine az_E.ret (v := some (.int (0 : Int32))) (σ' := (97, I, J, R)) rfl ?_
        show az_E az_F ex 1 138 14 [.ref 3, .int (a1 / (10 : Int32))] [.int (0 : Int32)] (97, I, J, R) _
        refine az_E.ret (v := some (.int (0 : Int32))) (σ' := (97, I, J, R)) rfl ?_
        show az_E az_F ex 2 140 12 [.ref 3, .int a1] [.int (0 : Int32)] (97, I, J, R) _
        refine az_E.br (c := (0 : Int32) = 0) (tt := 41) (ff := 15) (L' := [.ref 3, .int a1]) (S' := []) (σ' := (97, I, J, R)) rfl (fun _ => ?_) (fun hn => absurd (by decide) hn)
        refine az_E.sn 1 (pc' := 42) (L' := [.ref 3, .int a1]) (S' := [.int (0 : Int32)]) (σ' := (97, I, J, R)) rfl ?_
        have h := Option.some.inj h
        subst h
        exact az_E.ret (v := some (.int (0 : Int32))) (σ' := (97, I, J, R)) rfl hQ
      · rw [if_neg hc_4] at h
        refine az_E.sn 2 (pc' := 15) (L' := [.int (a1 / (10 : Int32)), .int (0 : Int32), .int ((I 4 9) - (1 : Int32))]) (S' := [.int (1 : Int32)]) (σ' := (97, I, J, R)) rfl ?_
        refine az_E.ret (v := some (.int (1 : Int32))) (σ' := (97, I, J, R)) rfl ?_
        show az_E az_F ex 1 138 14 [.ref 3, .int (a1 / (10 : Int32))] [.int (1 : Int32)] (97, I, J, R) _
        refine az_E.ret (v := some (.int (1 : Int32))) (σ' := (97, I, J, R)) rfl ?_
        show az_E az_F ex 2 140 12 [.ref 3, .int a1] [.int (1 : Int32)] (97, I, J, R) _
        refine az_E.br (c := (1 : Int32) = 0) (tt := 41) (ff := 15) (L' := [.ref 3, .int a1]) (S' := []) (σ' := (97, I, J, R)) rfl (fun hn => absurd hn (by decide)) (fun _ => ?_)
        refine az_E.sn 3 (pc' := 19) (L' := [.ref 3, .int a1]) (S' := [.int (10 : Int32), .int a1, .ref 3]) (σ' := (97, I, J, R)) rfl ?_
        have hd_5 : ¬ ((10 : Int32) = 0) := by decide
        refine az_E.dv (c := (10 : Int32) = 0) (pc' := 20) (L' := [.ref 3, .int a1]) (S' := [.int (a1 - a1 / (10 : Int32) * (10 : Int32)), .ref 3]) (σ' := (97, I, J, R)) rfl hd_5 ?_
        refine az_E.call (d := 1) (k' := 138) (vs := [.ref 3, .int (a1 - a1 / (10 : Int32) * (10 : Int32))]) (pc' := 23) (S' := []) rfl ?_ (fun _ _ hq => hq)
        show az_E az_F ex 1 138 0 [.ref 3, .int (a1 - a1 / (10 : Int32) * (10 : Int32))] [] (97, I, J, R) _
        refine az_E.sn 7 (pc' := 11) (L' := [.ref 3, .int (a1 - a1 / (10 : Int32) * (10 : Int32))]) (S' := [.int ((I 4 9) - (1 : Int32)), .int (0 : Int32), .int (a1 - a1 / (10 : Int32) * (10 : Int32))]) (σ' := (97, I, J, R)) rfl ?_
        refine az_E.call (d := 0) (k' := 131) (vs := [.int (a1 - a1 / (10 : Int32) * (10 : Int32)), .int (0 : Int32), .int ((I 4 9) - (1 : Int32))]) (pc' := 14) (S' := []) rfl ?_ (fun _ _ hq => hq)
        show az_E az_F ex 0 131 0 [.int (a1 - a1 / (10 : Int32) * (10 : Int32)), .int (0 : Int32), .int ((I 4 9) - (1 : Int32))] [] (97, I, J, R) _
        refine az_E.sn 2 (pc' := 2) (L' := [.int (a1 - a1 / (10 : Int32) * (10 : Int32)), .int (0 : Int32), .int ((I 4 9) - (1 : Int32))]) (S' := [.int (0 : Int32), .int (a1 - a1 / (10 : Int32) * (10 : Int32))]) (σ' := (97, I, J, R)) rfl ?_
        refine az_E.br (c := (a1 - a1 / (10 : Int32) * (10 : Int32)) < (0 : Int32)) (tt := 14) (ff := 5) (L' := [.int (a1 - a1 / (10 : Int32) * (10 : Int32)), .int (0 : Int32), .int ((I 4 9) - (1 : Int32))]) (S' := []) (σ' := (97, I, J, R)) rfl (fun hc_6 => ?_) (fun hc_6 => ?_)
        · rw [if_pos hc_6] at h
          refine az_E.sn 1 (pc' := 15) (L' := [.int (a1 - a1 / (10 : Int32) * (10 : Int32)), .int (0 : Int32), .int ((I 4 9) - (1 : Int32))]) (S' := [.int (0 : Int32)]) (σ' := (97, I, J, R)) rfl ?_
          refine az_E.ret (v := some (.int (0 : Int32))) (σ' := (97, I, J, R)) rfl ?_
          show az_E az_F ex 1 138 14 [.ref 3, .int (a1 - a1 / (10 : Int32) * (10 : Int32))] [.int (0 : Int32)] (97, I, J, R) _
          refine az_E.ret (v := some (.int (0 : Int32))) (σ' := (97, I, J, R)) rfl ?_
          show az_E az_F ex 2 140 23 [.ref 3, .int a1] [.int (0 : Int32)] (97, I, J, R) _
          refine az_E.br (c := (0 : Int32) = 0) (tt := 41) (ff := 26) (L' := [.ref 3, .int a1]) (S' := []) (σ' := (97, I, J, R)) rfl (fun _ => ?_) (fun hn => absurd (by decide) hn)
          refine az_E.sn 1 (pc' := 42) (L' := [.ref 3, .int a1]) (S' := [.int (0 : Int32)]) (σ' := (97, I, J, R)) rfl ?_
          have h := Option.some.inj h
          subst h
          exact az_E.ret (v := some (.int (0 : Int32))) (σ' := (97, I, J, R)) rfl hQ
        · rw [if_neg hc_6] at h
          refine az_E.sn 2 (pc' := 7) (L' := [.int (a1 - a1 / (10 : Int32) * (10 : Int32)), .int (0 : Int32), .int ((I 4 9) - (1 : Int32))]) (S' := [.int ((I 4 9) - (1 : Int32)), .int (a1 - a1 / (10 : Int32) * (10 : Int32))]) (σ' := (97, I, J, R)) rfl ?_
          refine az_E.br (c := ((I 4 9) - (1 : Int32)) < (a1 - a1 / (10 : Int32) * (10 : Int32))) (tt := 14) (ff := 10) (L' := [.int (a1 - a1 / (10 : Int32) * (10 : Int32)), .int (0 : Int32), .int ((I 4 9) - (1 : Int32))]) (S' := []) (σ' := (97, I, J, R)) rfl (fun hc_7 => ?_) (fun hc_7 => ?_)
          · rw [if_pos hc_7] at h
            refine az_E.sn 1 (pc' := 15) (L' := [.int (a1 - a1 / (10 : Int32) * (10 : Int32)), .int (0 : Int32), .int ((I 4 9) - (1 : Int32))]) (S' := [.int (0 : Int32)]) (σ' := (97, I, J, R)) rfl ?_
            refine az_E.ret (v := some (.int (0 : Int32))) (σ' := (97, I, J, R)) rfl ?_
            show az_E az_F ex 1 138 14 [.ref 3, .int (a1 - a1 / (10 : Int32) * (10 : Int32))] [.int (0 : Int32)] (97, I, J, R) _
            refine az_E.ret (v := some (.int (0 : Int32))) (σ' := (97, I, J, R)) rfl ?_
            show az_E az_F ex 2 140 23 [.ref 3, .int a1] [.int (0 : Int32)] (97, I, J, R) _
            refine az_E.br (c := (0 : Int32) = 0) (tt := 41) (ff := 26) (L' := [.ref 3, .int a1]) (S' := []) (σ' := (97, I, J, R)) rfl (fun _ => ?_) (fun hn => absurd (by decide) hn)
            refine az_E.sn 1 (pc' := 42) (L' := [.ref 3, .int a1]) (S' := [.int (0 : Int32)]) (σ' := (97, I, J, R)) rfl ?_
            have h := Option.some.inj h
            subst h
            exact az_E.ret (v := some (.int (0 : Int32))) (σ' := (97, I, J, R)) rfl hQ
          · rw [if_neg hc_7] at h
            refine az_E.sn 2 (pc' := 15) (L' := [.int (a1 - a1 / (10 : Int32) * (10 : Int32)), .int (0 : Int32), .int ((I 4 9) - (1 : Int32))]) (S' := [.int (1 : Int32)]) (σ' := (97, I, J, R)) rfl ?_
            refine az_E.ret (v := some (.int (1 : Int32))) (σ' := (97, I, J, R)) rfl ?_
            show az_E az_F ex 1 138 14 [.ref 3, .int (a1 - a1 / (10 : Int32) * (10 : Int32))] [.int (1 : Int32)] (97, I, J, R) _
            refine az_E.ret (v := some (.int (1 : Int32))) (σ' := (97, I, J, R)) rfl ?_
            show az_E az_F ex 2 140 23 [.ref 3, .int a1] [.int (1 : Int32)] (97, I, J, R) _
            refine az_E.br (c := (1 : Int32) = 0) (tt := 41) (ff := 26) (L' := [.ref 3, .int a1]) (S' := []) (σ' := (97, I, J, R)) rfl (fun hn => absurd hn (by decide)) (fun _ => ?_)
            refine az_E.sn 2 (pc' := 29) (L' := [.ref 3, .int a1]) (S' := [.int (10 : Int32), .int a1]) (σ' := (97, I, J, R)) rfl ?_
            have hd_8 : ¬ ((10 : Int32) = 0) := by decide
            refine az_E.dv (c := (10 : Int32) = 0) (pc' := 30) (L' := [.ref 3, .int a1]) (S' := [.int (a1 / (10 : Int32))]) (σ' := (97, I, J, R)) rfl hd_8 ?_
            refine az_E.sn 2 (pc' := 33) (L' := [.ref 3, .int a1]) (S' := [.int (10 : Int32), .int a1, .int (a1 / (10 : Int32))]) (σ' := (97, I, J, R)) rfl ?_
            have hd_9 : ¬ ((10 : Int32) = 0) := by decide
            refine az_E.dv (c := (10 : Int32) = 0) (pc' := 34) (L' := [.ref 3, .int a1]) (S' := [.int (a1 - a1 / (10 : Int32) * (10 : Int32)), .int (a1 / (10 : Int32))]) (σ' := (97, I, J, R)) rfl hd_9 ?_
            refine az_E.br (c := (a1 / (10 : Int32)) = (a1 - a1 / (10 : Int32) * (10 : Int32))) (tt := 41) (ff := 37) (L' := [.ref 3, .int a1]) (S' := []) (σ' := (97, I, J, R)) rfl (fun hc_10 => ?_) (fun hc_10 => ?_)
            · rw [if_pos hc_10] at h
              refine az_E.sn 1 (pc' := 42) (L' := [.ref 3, .int a1]) (S' := [.int (0 : Int32)]) (σ' := (97, I, J, R)) rfl ?_
              have h := Option.some.inj h
              subst h
              exact az_E.ret (v := some (.int (0 : Int32))) (σ' := (97, I, J, R)) rfl hQ
            · rw [if_neg hc_10] at h
              refine az_E.sn 2 (pc' := 42) (L' := [.ref 3, .int a1]) (S' := [.int (1 : Int32)]) (σ' := (97, I, J, R)) rfl ?_
              have h := Option.some.inj h
              subst h
              exact az_E.ret (v := some (.int (1 : Int32))) (σ' := (97, I, J, R)) rfl hQ
set_option maxRecDepth 100000 in
set_option maxHeartbeats 4000000 in
theorem re_Pa_want_29 {ex : az_X} {I : Nat → Nat → Int32} {J : Nat → Nat → Int64} {R : Nat → Nat → Option Nat} {a1 : Int32} {a2 : Int32} {o : (Nat → Nat → Int32)} (h : rs_Pa_want 29 I a1 a2 = some o) {Q : Option Value → az_S → Prop} (hQ : Q none (97, o, J, R)) : az_E az_F ex 0 49 0 [.ref 29, .int a1, .int a2] [] (97, I, J, R) Q := by
  unfold rs_Pa_want at h
  refine az_E.sn 8 (pc' := 11) (L' := [.ref 29, .int a1, .int a2]) (S' := [.int (1 : Int32), .int ((a1 * (10 : Int32)) + a2), .ref (29 + 2)]) (σ' := (97, I, J, R)) rfl ?_
  by_cases hc_1 : ((a1 * (10 : Int32)) + a2) < 0 ∨ 100 ≤ ((a1 * (10 : Int32)) + a2).toNatClampNeg
  · rw [if_pos hc_1] at h; cases h
  · rw [if_neg hc_1] at h
    refine az_E.o (o := az_si az_F (97, I, J, R) (29 + 2) ((a1 * (10 : Int32)) + a2) (1 : Int32)) (pc' := 12) (L' := [.ref 29, .int a1, .int a2]) (S' := []) (x := (97, (az_u I (29 + 2) ((a1 * (10 : Int32)) + a2).toNatClampNeg (1 : Int32)), J, R)) rfl (if_neg hc_1) ?_
    refine az_E.sn 8 (pc' := 23) (L' := [.ref 29, .int a1, .int a2]) (S' := [.int (1 : Int32), .int ((a2 * (10 : Int32)) + a1), .ref (29 + 2)]) (σ' := (97, (az_u I (29 + 2) ((a1 * (10 : Int32)) + a2).toNatClampNeg (1 : Int32)), J, R)) rfl ?_
    by_cases hc_2 : ((a2 * (10 : Int32)) + a1) < 0 ∨ 100 ≤ ((a2 * (10 : Int32)) + a1).toNatClampNeg
    · rw [if_pos hc_2] at h; cases h
    · rw [if_neg hc_2] at h
      refine az_E.o (o := az_si az_F (97, (az_u I (29 + 2) ((a1 * (10 : Int32)) + a2).toNatClampNeg (1 : Int32)), J, R) (29 + 2) ((a2 * (10 : Int32)) + a1) (1 : Int32)) (pc' := 24) (L' := [.ref 29, .int a1, .int a2]) (S' := []) (x := (97, (az_u (az_u I (29 + 2) ((a1 * (10 : Int32)) + a2).toNatClampNeg (1 : Int32)) (29 + 2) ((a2 * (10 : Int32)) + a1).toNatClampNeg (1 : Int32)), J, R)) rfl (if_neg hc_2) ?_
      have h := Option.some.inj h
      subst h
      exact az_E.ret (v := none) (σ' := (97, (az_u (az_u I (29 + 2) ((a1 * (10 : Int32)) + a2).toNatClampNeg (1 : Int32)) (29 + 2) ((a2 * (10 : Int32)) + a1).toNatClampNeg (1 : Int32)), J, R)) rfl hQ
set_option maxRecDepth 100000 in
set_option maxHeartbeats 4000000 in
theorem re_Pa_lookForPairs_38_29 {ex : az_X} {I : Nat → Nat → Int32} {J : Nat → Nat → Int64} {R : Nat → Nat → Option Nat} {v2 : Int32} {x : ((Int32 × (Nat → Nat → Int32)) ⊕ ((Nat → Nat → Int32)))} (h : rs_Pa_lookForPairs_38 29 I v2 = some x) {Q : Option Value → az_S → Prop} (hQ : Sum.elim (fun s => az_E az_F ex 1 48 10 [.ref 29, .ref 5, .int s.1] [] (97, s.2, J, R) Q) (fun x => Q none (97, x, J, R)) x) : az_E az_F ex 1 48 38 [.ref 29, .ref 5, .int v2] [] (97, I, J, R) Q := by
  unfold rs_Pa_lookForPairs_38 at h
  refine az_E.sn 2 (pc' := 42) (L' := [.ref 29, .ref 5, .int v2]) (S' := [.int (132 : Int32), .int v2]) (σ' := (97, I, J, R)) rfl ?_
  refine az_E.br (c := (132 : Int32) ≤ v2) (tt := 58) (ff := 45) (L' := [.ref 29, .ref 5, .int v2]) (S' := []) (σ' := (97, I, J, R)) rfl (fun hc_4 => ?_) (fun hc_4 => ?_)
  · rw [if_pos hc_4] at h
    refine az_E.sn 2 (pc' := 10) (L' := [.ref 29, .ref 5, .int (v2 + (1 : Int32))]) (S' := []) (σ' := (97, I, J, R)) rfl ?_
    have h := Option.some.inj h
    subst h
    exact az_E.forget (L := [.ref 29, .ref 5, .int (v2 + (1 : Int32))]) ⟨rfl, rfl, rfl, trivial⟩ hQ
  · rw [if_neg hc_4] at h
    refine az_E.sn 3 (pc' := 48) (L' := [.ref 29, .ref 5, .int v2]) (S' := [.int v2, .ref 5, .ref 29]) (σ' := (97, I, J, R)) rfl ?_
    by_cases hc_5 : v2 < 0 ∨ 144 ≤ v2.toNatClampNeg
    · rw [if_pos hc_5] at h; cases h
    · rw [if_neg hc_5] at h
      refine az_E.oi (o := az_ai az_F ex (97, I, J, R) 5 v2) (pc' := 49) (L' := [.ref 29, .ref 5, .int v2]) (S' := [.ref 29]) (σ' := (97, I, J, R)) (x := (I 5 v2.toNatClampNeg)) rfl (if_neg hc_5) ?_
      refine az_E.sn 4 (pc' := 54) (L' := [.ref 29, .ref 5, .int v2]) (S' := [.int (v2 + (12 : Int32)), .ref 5, .int (I 5 v2.toNatClampNeg), .ref 29]) (σ' := (97, I, J, R)) rfl ?_
      by_cases hc_6 : (v2 + (12 : Int32)) < 0 ∨ 144 ≤ (v2 + (12 : Int32)).toNatClampNeg
      · rw [if_pos hc_6] at h; cases h
      · rw [if_neg hc_6] at h
        refine az_E.oi (o := az_ai az_F ex (97, I, J, R) 5 (v2 + (12 : Int32))) (pc' := 55) (L' := [.ref 29, .ref 5, .int v2]) (S' := [.int (I 5 v2.toNatClampNeg), .ref 29]) (σ' := (97, I, J, R)) (x := (I 5 (v2 + (12 : Int32)).toNatClampNeg)) rfl (if_neg hc_6) ?_
        cases hx_8 : rs_Pa_want 29 I (I 5 v2.toNatClampNeg) (I 5 (v2 + (12 : Int32)).toNatClampNeg) with
        | none => rw [hx_8] at h; cases h
        | some I_7 =>
          rw [hx_8] at h
          dsimp only at h
          refine az_E.call (d := 0) (k' := 49) (vs := [.ref 29, .int (I 5 v2.toNatClampNeg), .int (I 5 (v2 + (12 : Int32)).toNatClampNeg)]) (pc' := 58) (S' := []) (Q1 := fun v s => v = none ∧ s = (97, I_7, J, R)) rfl (az_E.deep (by omega) (re_Pa_want_29 (J := J) (R := R)  hx_8 ⟨rfl, rfl⟩)) (fun v s hq => ?_)
          obtain ⟨rfl, rfl⟩ := hq
          show az_E az_F ex 1 48 58 [.ref 29, .ref 5, .int v2] [] (97, I_7, J, R) _
          refine az_E.sn 2 (pc' := 10) (L' := [.ref 29, .ref 5, .int (v2 + (1 : Int32))]) (S' := []) (σ' := (97, I_7, J, R)) rfl ?_
          have h := Option.some.inj h
          subst h
          exact az_E.forget (L := [.ref 29, .ref 5, .int (v2 + (1 : Int32))]) ⟨rfl, rfl, rfl, trivial⟩ hQ
set_option maxRecDepth 100000 in
set_option maxHeartbeats 4000000 in
theorem re_Pa_lookForPairs_10_b_29 {ex : az_X} {I : Nat → Nat → Int32} {J : Nat → Nat → Int64} {R : Nat → Nat → Option Nat} {v2 : Int32} {x : ((Int32 × (Nat → Nat → Int32)) ⊕ ((Nat → Nat → Int32)))} (h : rs_Pa_lookForPairs_10_b 29 v2 I = some x) {Q : Option Value → az_S → Prop} (hQ : Sum.elim (fun s => az_E az_F ex 1 48 10 [.ref 29, .ref 5, .int s.1] [] (97, s.2, J, R) Q) (fun x => Q none (97, x, J, R)) x) : az_E az_F ex 1 48 10 [.ref 29, .ref 5, .int v2] [] (97, I, J, R) Q := by
  unfold rs_Pa_lookForPairs_10_b at h
  refine az_E.sn 2 (pc' := 14) (L' := [.ref 29, .ref 5, .int v2]) (S' := [.int (144 : Int32), .int v2]) (σ' := (97, I, J, R)) rfl ?_
  refine az_E.br (c := (144 : Int32) ≤ v2) (tt := 64) (ff := 17) (L' := [.ref 29, .ref 5, .int v2]) (S' := []) (σ' := (97, I, J, R)) rfl (fun hc_1 => ?_) (fun hc_1 => ?_)
  · rw [if_pos hc_1] at h
    have h := Option.some.inj h
    subst h
    exact az_E.ret (v := none) (σ' := (97, I, J, R)) rfl hQ
  · rw [if_neg hc_1] at h
    refine az_E.sn 2 (pc' := 20) (L' := [.ref 29, .ref 5, .int v2]) (S' := [.int (12 : Int32), .int v2]) (σ' := (97, I, J, R)) rfl ?_
    have hd_2 : ¬ ((12 : Int32) = 0) := by decide
    refine az_E.dv (c := (12 : Int32) = 0) (pc' := 21) (L' := [.ref 29, .ref 5, .int v2]) (S' := [.int (v2 - v2 / (12 : Int32) * (12 : Int32))]) (σ' := (97, I, J, R)) rfl hd_2 ?_
    refine az_E.sn 1 (pc' := 23) (L' := [.ref 29, .ref 5, .int v2]) (S' := [.int (11 : Int32), .int (v2 - v2 / (12 : Int32) * (12 : Int32))]) (σ' := (97, I, J, R)) rfl ?_
    refine az_E.br (c := (11 : Int32) ≤ (v2 - v2 / (12 : Int32) * (12 : Int32))) (tt := 38) (ff := 26) (L' := [.ref 29, .ref 5, .int v2]) (S' := []) (σ' := (97, I, J, R)) rfl (fun hc_3 => ?_) (fun hc_3 => ?_)
    · rw [if_pos hc_3] at h
      exact az_E.forget (L := [.ref 29, .ref 5, .int v2]) ⟨rfl, rfl, rfl, trivial⟩ (re_Pa_lookForPairs_38_29 (I := I) (J := J) (R := R)  h hQ)
    · rw [if_neg hc_3] at h
      refine az_E.sn 3 (pc' := 29) (L' := [.ref 29, .ref 5, .int v2]) (S' := [.int v2, .ref 5, .ref 29]) (σ' := (97, I, J, R)) rfl ?_
      by_cases hc_9 : v2 < 0 ∨ 144 ≤ v2.toNatClampNeg
      · rw [if_pos hc_9] at h; cases h
      · rw [if_neg hc_9] at h
        refine az_E.oi (o := az_ai az_F ex (97, I, J, R) 5 v2) (pc' := 30) (L' := [.ref 29, .ref 5, .int v2]) (S' := [.ref 29]) (σ' := (97, I, J, R)) (x := (I 5 v2.toNatClampNeg)) rfl (if_neg hc_9) ?_
        refine az_E.sn 4 (pc' := 34) (L' := [.ref 29, .ref 5, .int v2]) (S' := [.int (v2 + (1 : Int32)), .ref 5, .int (I 5 v2.toNatClampNeg), .ref 29]) (σ' := (97, I, J, R)) rfl ?_
        by_cases hc_10 : (v2 + (1 : Int32)) < 0 ∨ 144 ≤ (v2 + (1 : Int32)).toNatClampNeg
        · rw [if_pos hc_10] at h; cases h
        · rw [if_neg hc_10] at h
          refine az_E.oi (o := az_ai az_F ex (97, I, J, R) 5 (v2 + (1 : Int32))) (pc' := 35) (L' := [.ref 29, .ref 5, .int v2]) (S' := [.int (I 5 v2.toNatClampNeg), .ref 29]) (σ' := (97, I, J, R)) (x := (I 5 (v2 + (1 : Int32)).toNatClampNeg)) rfl (if_neg hc_10) ?_
          cases hx_12 : rs_Pa_want 29 I (I 5 v2.toNatClampNeg) (I 5 (v2 + (1 : Int32)).toNatClampNeg) with
          | none => rw [hx_12] at h; cases h
          | some I_11 =>
            rw [hx_12] at h
            dsimp only at h
            refine az_E.call (d := 0) (k' := 49) (vs := [.ref 29, .int (I 5 v2.toNatClampNeg), .int (I 5 (v2 + (1 : Int32)).toNatClampNeg)]) (pc' := 38) (S' := []) (Q1 := fun v s => v = none ∧ s = (97, I_11, J, R)) rfl (az_E.deep (by omega) (re_Pa_want_29 (J := J) (R := R)  hx_12 ⟨rfl, rfl⟩)) (fun v s hq => ?_)
            obtain ⟨rfl, rfl⟩ := hq
            show az_E az_F ex 1 48 38 [.ref 29, .ref 5, .int v2] [] (97, I_11, J, R) _
            exact az_E.forget (L := [.ref 29, .ref 5, .int v2]) ⟨rfl, rfl, rfl, trivial⟩ (re_Pa_lookForPairs_38_29 (I := I_11) (J := J) (R := R)  h hQ)
set_option maxRecDepth 100000 in
set_option maxHeartbeats 4000000 in
theorem re_Pa_lookForPairs_10_29 {ex : az_X} {I : Nat → Nat → Int32} {J : Nat → Nat → Int64} {R : Nat → Nat → Option Nat} {v2 : Int32} {x : (Nat → Nat → Int32)} (h : rs_Pa_lookForPairs_10 29 I v2 = some x) {Q : Option Value → az_S → Prop} (hQ : Q none (97, x, J, R)) : az_E az_F ex 1 48 10 [.ref 29, .ref 5, .int v2] [] (97, I, J, R) Q := by
  unfold rs_Pa_lookForPairs_10 at h
  refine az_lp_E (G := fun s => az_E az_F ex 1 48 10 [.ref 29, .ref 5, .int s.1] [] (97, s.2, J, R) Q) (H := fun x => Q none (97, x, J, R)) (fun s o hb ho => ?_) _ _ _ h hQ
  exact re_Pa_lookForPairs_10_b_29  hb ho
set_option maxRecDepth 100000 in
set_option maxHeartbeats 4000000 in
theorem re_Pa_lookForPairs_29 {ex : az_X} {I : Nat → Nat → Int32} {J : Nat → Nat → Int64} {R : Nat → Nat → Option Nat} {o : (Nat → Nat → Int32)} (h : rs_Pa_lookForPairs 29 I = some o) {Q : Option Value → az_S → Prop} (hQ : Q none (97, o, J, R)) : az_E az_F ex 1 48 0 [.ref 29, .ref 5, .retAddr 0] [] (97, I, J, R) Q := by
  unfold rs_Pa_lookForPairs at h
  refine az_E.sn 3 (pc' := 5) (L' := [.ref 29, .ref 5, .retAddr 0]) (S' := [.int (0 : Int32), .ref (29 + 2)]) (σ' := (97, I, J, R)) rfl ?_
  refine az_E.call (d := 0) (k' := 257) (vs := [.ref (29 + 2), .int (0 : Int32)]) (pc' := 8) (S' := []) (Q1 := fun v s => v = none ∧ s = (97, (az_ur I (29 + 2) (az_fill 100 (0 : Int32) (I (29 + 2)))), J, R)) rfl (az_E.deep (by omega) (re_fillI (r := (29 + 2)) rfl ⟨rfl, rfl⟩)) (fun v s hq => ?_)
  obtain ⟨rfl, rfl⟩ := hq
  show az_E az_F ex 1 48 8 [.ref 29, .ref 5, .retAddr 0] [] (97, (az_ur I (29 + 2) (az_fill 100 (0 : Int32) (I (29 + 2)))), J, R) _
  refine az_E.sn 2 (pc' := 10) (L' := [.ref 29, .ref 5, .int (0 : Int32)]) (S' := []) (σ' := (97, (az_ur I (29 + 2) (az_fill 100 (0 : Int32) (I (29 + 2)))), J, R)) rfl ?_
  exact az_E.forget (L := [.ref 29, .ref 5, .int (0 : Int32)]) ⟨rfl, rfl, rfl, trivial⟩ (re_Pa_lookForPairs_10_29 (I := (az_ur I (29 + 2) (az_fill 100 (0 : Int32) (I (29 + 2))))) (J := J) (R := R)  h hQ)
set_option maxRecDepth 100000 in
set_option maxHeartbeats 4000000 in
theorem re_Pa_fill_2_b_29_16 {ex : az_X} {I : Nat → Nat → Int32} {J : Nat → Nat → Int64} {R : Nat → Nat → Option Nat} {v1 : Int32} (hR_29_2 : R 29 2 = some 16) {x : ((Int32 × (Nat → Nat → Int32)) ⊕ ((Nat → Nat → Int32)))} (h : rs_Pa_fill_2_b 29 16 v1 I = some x) {Q : Option Value → az_S → Prop} (hQ : Sum.elim (fun s => az_E az_F ex 3 50 2 [.ref 29, .int s.1, .retAddr 0] [] (97, s.2, J, R) Q) (fun x => Q none (97, x, J, R)) x) : az_E az_F ex 3 50 2 [.ref 29, .int v1, .retAddr 0] [] (97, I, J, R) Q := by
  unfold rs_Pa_fill_2_b at h
  refine az_E.sn 2 (pc' := 5) (L' := [.ref 29, .int v1, .retAddr 0]) (S' := [.int (100 : Int32), .int v1]) (σ' := (97, I, J, R)) rfl ?_
  refine az_E.br (c := (100 : Int32) ≤ v1) (tt := 71) (ff := 8) (L' := [.ref 29, .int v1, .retAddr 0]) (S' := []) (σ' := (97, I, J, R)) rfl (fun hc_1 => ?_) (fun hc_1 => ?_)
  · rw [if_pos hc_1] at h
    have h := Option.some.inj h
    subst h
    exact az_E.ret (v := none) (σ' := (97, I, J, R)) rfl hQ
  · rw [if_neg hc_1] at h
    refine az_E.sn 1 (pc' := 9) (L' := [.ref 29, .int v1, .retAddr 0]) (S' := [.ref 29]) (σ' := (97, I, J, R)) rfl ?_
    refine az_E.ov (pc' := 12) (L' := [.ref 29, .int v1, .retAddr 0]) (S' := []) (σ' := (97, I, J, R)) (x := .ref 16) rfl (congrArg (fun z => some (va_rf z)) hR_29_2) ?_
    refine az_E.sn 4 (pc' := 20) (L' := [.ref 29, .int v1, .retAddr 0]) (S' := [.int v1, .ref (29 + 2)]) (σ' := (97, I, J, R)) rfl ?_
    by_cases hc_2 : v1 < 0 ∨ 100 ≤ v1.toNatClampNeg
    · rw [if_pos hc_2] at h; cases h
    · rw [if_neg hc_2] at h
      refine az_E.oi (o := az_ai az_F ex (97, I, J, R) (29 + 2) v1) (pc' := 21) (L' := [.ref 29, .int v1, .retAddr 0]) (S' := []) (σ' := (97, I, J, R)) (x := (I (29 + 2) v1.toNatClampNeg)) rfl (if_neg hc_2) ?_
      refine az_E.br (c := (I (29 + 2) v1.toNatClampNeg) = 0) (tt := 65) (ff := 24) (L' := [.ref 29, .int v1, .retAddr 0]) (S' := []) (σ' := (97, I, J, R)) rfl (fun hc_3 => ?_) (fun hc_3 => ?_)
      · rw [if_pos hc_3] at h
        refine az_E.sn 2 (pc' := 2) (L' := [.ref 29, .int (v1 + (1 : Int32)), .retAddr 0]) (S' := []) (σ' := (97, I, J, R)) rfl ?_
        have h := Option.some.inj h
        subst h
        exact az_E.forget (L := [.ref 29, .int (v1 + (1 : Int32)), .retAddr 0]) ⟨rfl, rfl, trivial, trivial⟩ hQ
      · rw [if_neg hc_3] at h
        refine az_E.sn 2 (pc' := 27) (L' := [.ref 29, .int v1, .retAddr 0]) (S' := [.int (10 : Int32), .int v1]) (σ' := (97, I, J, R)) rfl ?_
        have hd_4 : ¬ ((10 : Int32) = 0) := by decide
        refine az_E.dv (c := (10 : Int32) = 0) (pc' := 28) (L' := [.ref 29, .int v1, .retAddr 0]) (S' := [.int (v1 - v1 / (10 : Int32) * (10 : Int32))]) (σ' := (97, I, J, R)) rfl hd_4 ?_
        refine az_E.sn 5 (pc' := 35) (L' := [.ref 29, .int v1, .int (v1 - v1 / (10 : Int32) * (10 : Int32))]) (S' := [.ref 29, .int v1, .ref (29 + 1)]) (σ' := (97, I, J, R)) rfl ?_
        refine az_E.ov (pc' := 38) (L' := [.ref 29, .int v1, .int (v1 - v1 / (10 : Int32) * (10 : Int32))]) (S' := [.int v1, .ref (29 + 1)]) (σ' := (97, I, J, R)) (x := .ref 16) rfl (congrArg (fun z => some (va_rf z)) hR_29_2) ?_
        refine az_E.sn 3 (pc' := 42) (L' := [.ref 29, .int v1, .int (v1 - v1 / (10 : Int32) * (10 : Int32))]) (S' := [.int (10 : Int32), .int v1, .int (v1 - v1 / (10 : Int32) * (10 : Int32)), .ref 16, .int v1, .ref (29 + 1)]) (σ' := (97, I, J, R)) rfl ?_
        have hd_5 : ¬ ((10 : Int32) = 0) := by decide
        refine az_E.dv (c := (10 : Int32) = 0) (pc' := 43) (L' := [.ref 29, .int v1, .int (v1 - v1 / (10 : Int32) * (10 : Int32))]) (S' := [.int (v1 / (10 : Int32)), .int (v1 - v1 / (10 : Int32) * (10 : Int32)), .ref 16, .int v1, .ref (29 + 1)]) (σ' := (97, I, J, R)) rfl hd_5 ?_
        refine az_E.sn 10 (pc' := 61) (L' := [.ref 29, .int v1, .int (v1 - v1 / (10 : Int32) * (10 : Int32))]) (S' := [.int (v1 - v1 / (10 : Int32) * (10 : Int32)), .int (I 29 7), .int (I 29 6), .int (I 29 5), .int (I 29 4), .int ((v1 - v1 / (10 : Int32) * (10 : Int32)) - (v1 / (10 : Int32))), .ref 16, .int v1, .ref (29 + 1)]) (σ' := (97, I, J, R)) rfl ?_
        cases hx_8 : rs_La_minutes 16 I ((v1 - v1 / (10 : Int32) * (10 : Int32)) - (v1 / (10 : Int32))) (I 29 4) (I 29 5) (I 29 6) (I 29 7) (v1 - v1 / (10 : Int32) * (10 : Int32)) with
        | none => rw [hx_8] at h; cases h
        | some o =>
          rw [hx_8] at h
          obtain ⟨x_6, I_7⟩ := o
          dsimp only at h
          refine az_E.call (d := 2) (k' := 30) (vs := [.ref 16, .int ((v1 - v1 / (10 : Int32) * (10 : Int32)) - (v1 / (10 : Int32))), .int (I 29 4), .int (I 29 5), .int (I 29 6), .int (I 29 7), .int (v1 - v1 / (10 : Int32) * (10 : Int32))]) (pc' := 64) (S' := [.int v1, .ref (29 + 1)]) (Q1 := fun v s => v = some (.int x_6) ∧ s = (97, I_7, J, R)) rfl (az_E.deep (by omega) (re_La_minutes_16 (J := J) (R := R)  hx_8 ⟨rfl, rfl⟩)) (fun v s hq => ?_)
          obtain ⟨rfl, rfl⟩ := hq
          show az_E az_F ex 3 50 64 [.ref 29, .int v1, .int (v1 - v1 / (10 : Int32) * (10 : Int32))] [.int x_6, .int v1, .ref (29 + 1)] (97, I_7, J, R) _
          by_cases hc_9 : v1 < 0 ∨ 100 ≤ v1.toNatClampNeg
          · rw [if_pos hc_9] at h; cases h
          · rw [if_neg hc_9] at h
            refine az_E.o (o := az_si az_F (97, I_7, J, R) (29 + 1) v1 x_6) (pc' := 65) (L' := [.ref 29, .int v1, .int (v1 - v1 / (10 : Int32) * (10 : Int32))]) (S' := []) (x := (97, (az_u I_7 (29 + 1) v1.toNatClampNeg x_6), J, R)) rfl (if_neg hc_9) ?_
            refine az_E.sn 2 (pc' := 2) (L' := [.ref 29, .int (v1 + (1 : Int32)), .int (v1 - v1 / (10 : Int32) * (10 : Int32))]) (S' := []) (σ' := (97, (az_u I_7 (29 + 1) v1.toNatClampNeg x_6), J, R)) rfl ?_
            have h := Option.some.inj h
            subst h
            exact az_E.forget (L := [.ref 29, .int (v1 + (1 : Int32)), .retAddr 0]) ⟨rfl, rfl, trivial, trivial⟩ hQ
set_option maxRecDepth 100000 in
set_option maxHeartbeats 4000000 in
theorem re_Pa_fill_2_29_16 {ex : az_X} {I : Nat → Nat → Int32} {J : Nat → Nat → Int64} {R : Nat → Nat → Option Nat} {v1 : Int32} (hR_29_2 : R 29 2 = some 16) {x : (Nat → Nat → Int32)} (h : rs_Pa_fill_2 29 16 I v1 = some x) {Q : Option Value → az_S → Prop} (hQ : Q none (97, x, J, R)) : az_E az_F ex 3 50 2 [.ref 29, .int v1, .retAddr 0] [] (97, I, J, R) Q := by
  unfold rs_Pa_fill_2 at h
  refine az_lp_E (G := fun s => az_E az_F ex 3 50 2 [.ref 29, .int s.1, .retAddr 0] [] (97, s.2, J, R) Q) (H := fun x => Q none (97, x, J, R)) (fun s o hb ho => ?_) _ _ _ h hQ
  exact re_Pa_fill_2_b_29_16 hR_29_2 hb ho
set_option maxRecDepth 100000 in
set_option maxHeartbeats 4000000 in
theorem re_Pa_fill_29_16 {ex : az_X} {I : Nat → Nat → Int32} {J : Nat → Nat → Int64} {R : Nat → Nat → Option Nat} (hR_29_2 : R 29 2 = some 16) {o : (Nat → Nat → Int32)} (h : rs_Pa_fill 29 16 I = some o) {Q : Option Value → az_S → Prop} (hQ : Q none (97, o, J, R)) : az_E az_F ex 3 50 0 [.ref 29, .retAddr 0, .retAddr 0] [] (97, I, J, R) Q := by
  unfold rs_Pa_fill at h
  refine az_E.sn 2 (pc' := 2) (L' := [.ref 29, .int (0 : Int32), .retAddr 0]) (S' := []) (σ' := (97, I, J, R)) rfl ?_
  exact az_E.forget (L := [.ref 29, .int (0 : Int32), .retAddr 0]) ⟨rfl, rfl, trivial, trivial⟩ (re_Pa_fill_2_29_16 (I := I) (J := J) (R := R) hR_29_2 h hQ)
set_option maxRecDepth 100000 in
set_option maxHeartbeats 4000000 in
theorem re_Pa_become_29_16 {ex : az_X} {I : Nat → Nat → Int32} {J : Nat → Nat → Int64} {R : Nat → Nat → Option Nat} {a3 : Int32} {a4 : Int32} {a5 : Int32} {o : (Nat → Nat → Int32)} (h : rs_Pa_become 29 16 I a3 a4 a5 = some o) {Q : Option Value → az_S → Prop} (hQ : Q none (97, o, J, (az_u (az_u R 29 2 (some 16)) 29 3 (some 5)))) : az_E az_F ex 4 43 0 [.ref 29, .ref 16, .ref 4, .int a3, .int a4, .int a5] [] (97, I, J, R) Q := by
  unfold rs_Pa_become at h
  refine az_E.sn 23 (pc' := 43) (L' := [.ref 29, .ref 16, .ref 4, .int a3, .int a4, .int a5]) (S' := [.ref 5, .ref 29]) (σ' := (97, (az_u (az_u (az_u (az_u I 29 7 (I 4 10)) 29 4 a3) 29 5 a4) 29 6 a5), J, (az_u (az_u R 29 2 (some 16)) 29 3 (some 5)))) rfl ?_
  cases hx_2 : rs_Pa_lookForPairs 29 (az_u (az_u (az_u (az_u I 29 7 (I 4 10)) 29 4 a3) 29 5 a4) 29 6 a5) with
  | none => rw [hx_2] at h; cases h
  | some I_1 =>
    rw [hx_2] at h
    dsimp only at h
    refine az_E.call (d := 3) (k' := 48) (vs := [.ref 29, .ref 5]) (pc' := 46) (S' := []) (Q1 := fun v s => v = none ∧ s = (97, I_1, J, (az_u (az_u R 29 2 (some 16)) 29 3 (some 5)))) rfl (az_E.deep (by omega) (re_Pa_lookForPairs_29 (J := J) (R := (az_u (az_u R 29 2 (some 16)) 29 3 (some 5)))  hx_2 ⟨rfl, rfl⟩)) (fun v s hq => ?_)
    obtain ⟨rfl, rfl⟩ := hq
    show az_E az_F ex 4 43 46 [.ref 29, .ref 16, .ref 4, .int a3, .int a4, .int a5] [] (97, I_1, J, (az_u (az_u R 29 2 (some 16)) 29 3 (some 5))) _
    refine az_E.sn 1 (pc' := 47) (L' := [.ref 29, .ref 16, .ref 4, .int a3, .int a4, .int a5]) (S' := [.ref 29]) (σ' := (97, I_1, J, (az_u (az_u R 29 2 (some 16)) 29 3 (some 5)))) rfl ?_
    cases hx_4 : rs_Pa_fill 29 16 I_1 with
    | none => rw [hx_4] at h; cases h
    | some I_3 =>
      rw [hx_4] at h
      dsimp only at h
      refine az_E.call (d := 3) (k' := 50) (vs := [.ref 29]) (pc' := 50) (S' := []) (Q1 := fun v s => v = none ∧ s = (97, I_3, J, (az_u (az_u R 29 2 (some 16)) 29 3 (some 5)))) rfl (az_E.deep (by omega) (re_Pa_fill_29_16 (J := J) (R := (az_u (az_u R 29 2 (some 16)) 29 3 (some 5))) rfl hx_4 ⟨rfl, rfl⟩)) (fun v s hq => ?_)
      obtain ⟨rfl, rfl⟩ := hq
      show az_E az_F ex 4 43 50 [.ref 29, .ref 16, .ref 4, .int a3, .int a4, .int a5] [] (97, I_3, J, (az_u (az_u R 29 2 (some 16)) 29 3 (some 5))) _
      have h := Option.some.inj h
      subst h
      exact az_E.ret (v := none) (σ' := (97, I_3, J, (az_u (az_u R 29 2 (some 16)) 29 3 (some 5)))) rfl hQ
set_option maxRecDepth 100000 in
set_option maxHeartbeats 4000000 in
theorem re_Pa_slowTo_2_b_29_26 {ex : az_X} {I : Nat → Nat → Int32} {J : Nat → Nat → Int64} {R : Nat → Nat → Option Nat} {v2 : Int32} {x : ((Int32 × (Nat → Nat → Int32)) ⊕ ((Nat → Nat → Int32)))} (h : rs_Pa_slowTo_2_b 29 26 v2 I = some x) {Q : Option Value → az_S → Prop} (hQ : Sum.elim (fun s => az_E az_F ex 1 51 2 [.ref 29, .ref 26, .int s.1] [] (97, s.2, J, R) Q) (fun x => Q none (97, x, J, R)) x) : az_E az_F ex 1 51 2 [.ref 29, .ref 26, .int v2] [] (97, I, J, R) Q := by
  unfold rs_Pa_slowTo_2_b at h
  refine az_E.sn 2 (pc' := 5) (L' := [.ref 29, .ref 26, .int v2]) (S' := [.int (100 : Int32), .int v2]) (σ' := (97, I, J, R)) rfl ?_
  refine az_E.br (c := (100 : Int32) ≤ v2) (tt := 35) (ff := 8) (L' := [.ref 29, .ref 26, .int v2]) (S' := []) (σ' := (97, I, J, R)) rfl (fun hc_1 => ?_) (fun hc_1 => ?_)
  · rw [if_pos hc_1] at h
    have h := Option.some.inj h
    subst h
    exact az_E.ret (v := none) (σ' := (97, I, J, R)) rfl hQ
  · rw [if_neg hc_1] at h
    refine az_E.sn 6 (pc' := 18) (L' := [.ref 29, .ref 26, .int v2]) (S' := [.int v2, .ref (29 + 1), .int v2, .ref (29 + 1)]) (σ' := (97, I, J, R)) rfl ?_
    by_cases hc_2 : v2 < 0 ∨ 100 ≤ v2.toNatClampNeg
    · rw [if_pos hc_2] at h; cases h
    · rw [if_neg hc_2] at h
      refine az_E.oi (o := az_ai az_F ex (97, I, J, R) (29 + 1) v2) (pc' := 19) (L' := [.ref 29, .ref 26, .int v2]) (S' := [.int v2, .ref (29 + 1)]) (σ' := (97, I, J, R)) (x := (I (29 + 1) v2.toNatClampNeg)) rfl (if_neg hc_2) ?_
      refine az_E.sn 3 (pc' := 24) (L' := [.ref 29, .ref 26, .int v2]) (S' := [.int v2, .ref (26 + 1), .int (I (29 + 1) v2.toNatClampNeg), .int v2, .ref (29 + 1)]) (σ' := (97, I, J, R)) rfl ?_
      by_cases hc_3 : v2 < 0 ∨ 100 ≤ v2.toNatClampNeg
      · rw [if_pos hc_3] at h; cases h
      · rw [if_neg hc_3] at h
        refine az_E.oi (o := az_ai az_F ex (97, I, J, R) (26 + 1) v2) (pc' := 25) (L' := [.ref 29, .ref 26, .int v2]) (S' := [.int (I (29 + 1) v2.toNatClampNeg), .int v2, .ref (29 + 1)]) (σ' := (97, I, J, R)) (x := (I (26 + 1) v2.toNatClampNeg)) rfl (if_neg hc_3) ?_
        refine az_E.sn 1 (pc' := 28) (L' := [.ref 29, .ref 26, .int v2]) (S' := [.int (if (I (29 + 1) v2.toNatClampNeg) < (I (26 + 1) v2.toNatClampNeg) then (I (26 + 1) v2.toNatClampNeg) else (I (29 + 1) v2.toNatClampNeg)), .int v2, .ref (29 + 1)]) (σ' := (97, I, J, R)) rfl ?_
        by_cases hc_4 : v2 < 0 ∨ 100 ≤ v2.toNatClampNeg
        · rw [if_pos hc_4] at h; cases h
        · rw [if_neg hc_4] at h
          refine az_E.o (o := az_si az_F (97, I, J, R) (29 + 1) v2 (if (I (29 + 1) v2.toNatClampNeg) < (I (26 + 1) v2.toNatClampNeg) then (I (26 + 1) v2.toNatClampNeg) else (I (29 + 1) v2.toNatClampNeg))) (pc' := 29) (L' := [.ref 29, .ref 26, .int v2]) (S' := []) (x := (97, (az_u I (29 + 1) v2.toNatClampNeg (if (I (29 + 1) v2.toNatClampNeg) < (I (26 + 1) v2.toNatClampNeg) then (I (26 + 1) v2.toNatClampNeg) else (I (29 + 1) v2.toNatClampNeg))), J, R)) rfl (if_neg hc_4) ?_
          refine az_E.sn 2 (pc' := 2) (L' := [.ref 29, .ref 26, .int (v2 + (1 : Int32))]) (S' := []) (σ' := (97, (az_u I (29 + 1) v2.toNatClampNeg (if (I (29 + 1) v2.toNatClampNeg) < (I (26 + 1) v2.toNatClampNeg) then (I (26 + 1) v2.toNatClampNeg) else (I (29 + 1) v2.toNatClampNeg))), J, R)) rfl ?_
          have h := Option.some.inj h
          subst h
          exact az_E.forget (L := [.ref 29, .ref 26, .int (v2 + (1 : Int32))]) ⟨rfl, rfl, rfl, trivial⟩ hQ
set_option maxRecDepth 100000 in
set_option maxHeartbeats 4000000 in
theorem re_Pa_slowTo_2_29_26 {ex : az_X} {I : Nat → Nat → Int32} {J : Nat → Nat → Int64} {R : Nat → Nat → Option Nat} {v2 : Int32} {x : (Nat → Nat → Int32)} (h : rs_Pa_slowTo_2 29 26 I v2 = some x) {Q : Option Value → az_S → Prop} (hQ : Q none (97, x, J, R)) : az_E az_F ex 1 51 2 [.ref 29, .ref 26, .int v2] [] (97, I, J, R) Q := by
  unfold rs_Pa_slowTo_2 at h
  refine az_lp_E (G := fun s => az_E az_F ex 1 51 2 [.ref 29, .ref 26, .int s.1] [] (97, s.2, J, R) Q) (H := fun x => Q none (97, x, J, R)) (fun s o hb ho => ?_) _ _ _ h hQ
  exact re_Pa_slowTo_2_b_29_26  hb ho
set_option maxRecDepth 100000 in
set_option maxHeartbeats 4000000 in
theorem re_Pa_slowTo_29_26 {ex : az_X} {I : Nat → Nat → Int32} {J : Nat → Nat → Int64} {R : Nat → Nat → Option Nat} {o : (Nat → Nat → Int32)} (h : rs_Pa_slowTo 29 26 I = some o) {Q : Option Value → az_S → Prop} (hQ : Q none (97, o, J, R)) : az_E az_F ex 1 51 0 [.ref 29, .ref 26, .retAddr 0] [] (97, I, J, R) Q := by
  unfold rs_Pa_slowTo at h
  refine az_E.sn 2 (pc' := 2) (L' := [.ref 29, .ref 26, .int (0 : Int32)]) (S' := []) (σ' := (97, I, J, R)) rfl ?_
  exact az_E.forget (L := [.ref 29, .ref 26, .int (0 : Int32)]) ⟨rfl, rfl, rfl, trivial⟩ (re_Pa_slowTo_2_29_26 (I := I) (J := J) (R := R)  h hQ)
set_option maxRecDepth 100000 in
set_option maxHeartbeats 4000000 in
theorem re_Fi_relax_55_29_33_5 {ex : az_X} {I : Nat → Nat → Int32} {J : Nat → Nat → Int64} {R : Nat → Nat → Option Nat} {v2 : Int32} {v3 : Int32} {v5 : Int32} {v6 : Int32} {s0 : Int32} (hR_29_3 : R 29 3 = some 5) {x : ((Int32 × (Nat → Nat → Int32)) ⊕ ((Nat → Nat → Int32)))} (h : rs_Fi_relax_55 29 33 I v2 v3 v5 v6 s0 = some x) {Q : Option Value → az_S → Prop} (hQ : Sum.elim (fun s => az_E az_F ex 1 18 3 [.ref 32, .ref 29, .int v2, .int v3, .ref 33, .int s.1, .retAddr 0, .retAddr 0] [] (97, s.2, J, R) Q) (fun x => Q none (97, x, J, R)) x) : az_E az_F ex 1 18 55 [.ref 32, .ref 29, .int v2, .int v3, .ref 33, .int v5, .int v6, .retAddr 0] [.int s0] (97, I, J, R) Q := by
  unfold rs_Fi_relax_55 at h
  refine az_E.sn 3 (pc' := 60) (L' := [.ref 32, .ref 29, .int v2, .int v3, .ref 33, .int v5, .int v6, .int s0]) (S' := [.int v2, .ref 33]) (σ' := (97, I, J, R)) rfl ?_
  by_cases hc_12 : v2 < 0 ∨ 144 ≤ v2.toNatClampNeg
  · rw [if_pos hc_12] at h; cases h
  · rw [if_neg hc_12] at h
    refine az_E.oi (o := az_ai az_F ex (97, I, J, R) 33 v2) (pc' := 61) (L' := [.ref 32, .ref 29, .int v2, .int v3, .ref 33, .int v5, .int v6, .int s0]) (S' := []) (σ' := (97, I, J, R)) (x := (I 33 v2.toNatClampNeg)) rfl (if_neg hc_12) ?_
    refine az_E.sn 4 (pc' := 68) (L' := [.ref 32, .ref 29, .int v2, .int v3, .ref 33, .int v5, .int v6, .int s0]) (S' := [.int v6, .ref 33, .int ((I 33 v2.toNatClampNeg) + s0)]) (σ' := (97, I, J, R)) rfl ?_
    by_cases hc_13 : v6 < 0 ∨ 144 ≤ v6.toNatClampNeg
    · rw [if_pos hc_13] at h; cases h
    · rw [if_neg hc_13] at h
      refine az_E.oi (o := az_ai az_F ex (97, I, J, R) 33 v6) (pc' := 69) (L' := [.ref 32, .ref 29, .int v2, .int v3, .ref 33, .int v5, .int v6, .int s0]) (S' := [.int ((I 33 v2.toNatClampNeg) + s0)]) (σ' := (97, I, J, R)) (x := (I 33 v6.toNatClampNeg)) rfl (if_neg hc_13) ?_
      refine az_E.br (c := (I 33 v6.toNatClampNeg) ≤ ((I 33 v2.toNatClampNeg) + s0)) (tt := 95) (ff := 72) (L' := [.ref 32, .ref 29, .int v2, .int v3, .ref 33, .int v5, .int v6, .int s0]) (S' := []) (σ' := (97, I, J, R)) rfl (fun hc_14 => ?_) (fun hc_14 => ?_)
      · rw [if_pos hc_14] at h
        refine az_E.sn 2 (pc' := 3) (L' := [.ref 32, .ref 29, .int v2, .int v3, .ref 33, .int (v5 + (1 : Int32)), .int v6, .int s0]) (S' := []) (σ' := (97, I, J, R)) rfl ?_
        have h := Option.some.inj h
        subst h
        exact az_E.forget (L := [.ref 32, .ref 29, .int v2, .int v3, .ref 33, .int (v5 + (1 : Int32)), .retAddr 0, .retAddr 0]) ⟨rfl, rfl, rfl, rfl, rfl, rfl, trivial, trivial, trivial⟩ hQ
      · rw [if_neg hc_14] at h
        refine az_E.sn 4 (pc' := 79) (L' := [.ref 32, .ref 29, .int v2, .int v3, .ref 33, .int v5, .int v6, .int s0]) (S' := [.int v2, .ref 33, .int v6, .ref 33]) (σ' := (97, I, J, R)) rfl ?_
        by_cases hc_15 : v2 < 0 ∨ 144 ≤ v2.toNatClampNeg
        · rw [if_pos hc_15] at h; cases h
        · rw [if_neg hc_15] at h
          refine az_E.oi (o := az_ai az_F ex (97, I, J, R) 33 v2) (pc' := 80) (L' := [.ref 32, .ref 29, .int v2, .int v3, .ref 33, .int v5, .int v6, .int s0]) (S' := [.int v6, .ref 33]) (σ' := (97, I, J, R)) (x := (I 33 v2.toNatClampNeg)) rfl (if_neg hc_15) ?_
          refine az_E.sn 2 (pc' := 83) (L' := [.ref 32, .ref 29, .int v2, .int v3, .ref 33, .int v5, .int v6, .int s0]) (S' := [.int ((I 33 v2.toNatClampNeg) + s0), .int v6, .ref 33]) (σ' := (97, I, J, R)) rfl ?_
          by_cases hc_16 : v6 < 0 ∨ 144 ≤ v6.toNatClampNeg
          · rw [if_pos hc_16] at h; cases h
          · rw [if_neg hc_16] at h
            refine az_E.o (o := az_si az_F (97, I, J, R) 33 v6 ((I 33 v2.toNatClampNeg) + s0)) (pc' := 84) (L' := [.ref 32, .ref 29, .int v2, .int v3, .ref 33, .int v5, .int v6, .int s0]) (S' := []) (x := (97, (az_u I 33 v6.toNatClampNeg ((I 33 v2.toNatClampNeg) + s0)), J, R)) rfl (if_neg hc_16) ?_
            refine az_E.sn 4 (pc' := 91) (L' := [.ref 32, .ref 29, .int v2, .int v3, .ref 33, .int v5, .int v6, .int s0]) (S' := [.int v6, .ref 33, .int v6, .ref 32]) (σ' := (97, (az_u I 33 v6.toNatClampNeg ((I 33 v2.toNatClampNeg) + s0)), J, R)) rfl ?_
            by_cases hc_17 : v6 < 0 ∨ 144 ≤ v6.toNatClampNeg
            · rw [if_pos hc_17] at h; cases h
            · rw [if_neg hc_17] at h
              refine az_E.oi (o := az_ai az_F ex (97, (az_u I 33 v6.toNatClampNeg ((I 33 v2.toNatClampNeg) + s0)), J, R) 33 v6) (pc' := 92) (L' := [.ref 32, .ref 29, .int v2, .int v3, .ref 33, .int v5, .int v6, .int s0]) (S' := [.int v6, .ref 32]) (σ' := (97, (az_u I 33 v6.toNatClampNeg ((I 33 v2.toNatClampNeg) + s0)), J, R)) (x := ((az_u I 33 v6.toNatClampNeg ((I 33 v2.toNatClampNeg) + s0)) 33 v6.toNatClampNeg)) rfl (if_neg hc_17) ?_
              cases hx_19 : rs_Fi_enter (az_u I 33 v6.toNatClampNeg ((I 33 v2.toNatClampNeg) + s0)) v6 ((az_u I 33 v6.toNatClampNeg ((I 33 v2.toNatClampNeg) + s0)) 33 v6.toNatClampNeg) with
              | none => rw [hx_19] at h; cases h
              | some I_18 =>
                rw [hx_19] at h
                dsimp only at h
                refine az_E.call (d := 0) (k' := 19) (vs := [.ref 32, .int v6, .int ((az_u I 33 v6.toNatClampNeg ((I 33 v2.toNatClampNeg) + s0)) 33 v6.toNatClampNeg)]) (pc' := 95) (S' := []) (Q1 := fun v s => v = none ∧ s = (97, I_18, J, R)) rfl (az_E.deep (by omega) (re_Fi_enter (J := J) (R := R)  hx_19 ⟨rfl, rfl⟩)) (fun v s hq => ?_)
                obtain ⟨rfl, rfl⟩ := hq
                show az_E az_F ex 1 18 95 [.ref 32, .ref 29, .int v2, .int v3, .ref 33, .int v5, .int v6, .int s0] [] (97, I_18, J, R) _
                refine az_E.sn 2 (pc' := 3) (L' := [.ref 32, .ref 29, .int v2, .int v3, .ref 33, .int (v5 + (1 : Int32)), .int v6, .int s0]) (S' := []) (σ' := (97, I_18, J, R)) rfl ?_
                have h := Option.some.inj h
                subst h
                exact az_E.forget (L := [.ref 32, .ref 29, .int v2, .int v3, .ref 33, .int (v5 + (1 : Int32)), .retAddr 0, .retAddr 0]) ⟨rfl, rfl, rfl, rfl, rfl, rfl, trivial, trivial, trivial⟩ hQ
set_option maxRecDepth 100000 in
set_option maxHeartbeats 4000000 in
theorem re_Fi_relax_3_b_29_33_5 {ex : az_X} {I : Nat → Nat → Int32} {J : Nat → Nat → Int64} {R : Nat → Nat → Option Nat} {v2 : Int32} {v3 : Int32} {v5 : Int32} (hR_29_3 : R 29 3 = some 5) {x : ((Int32 × (Nat → Nat → Int32)) ⊕ ((Nat → Nat → Int32)))} (h : rs_Fi_relax_3_b 29 33 v2 v3 v5 I = some x) {Q : Option Value → az_S → Prop} (hQ : Sum.elim (fun s => az_E az_F ex 1 18 3 [.ref 32, .ref 29, .int v2, .int v3, .ref 33, .int s.1, .retAddr 0, .retAddr 0] [] (97, s.2, J, R) Q) (fun x => Q none (97, x, J, R)) x) : az_E az_F ex 1 18 3 [.ref 32, .ref 29, .int v2, .int v3, .ref 33, .int v5, .retAddr 0, .retAddr 0] [] (97, I, J, R) Q := by
  unfold rs_Fi_relax_3_b at h
  refine az_E.sn 2 (pc' := 6) (L' := [.ref 32, .ref 29, .int v2, .int v3, .ref 33, .int v5, .retAddr 0, .retAddr 0]) (S' := [.int (4 : Int32), .int v5]) (σ' := (97, I, J, R)) rfl ?_
  refine az_E.br (c := (4 : Int32) ≤ v5) (tt := 101) (ff := 9) (L' := [.ref 32, .ref 29, .int v2, .int v3, .ref 33, .int v5, .retAddr 0, .retAddr 0]) (S' := []) (σ' := (97, I, J, R)) rfl (fun hc_1 => ?_) (fun hc_1 => ?_)
  · rw [if_pos hc_1] at h
    have h := Option.some.inj h
    subst h
    exact az_E.ret (v := none) (σ' := (97, I, J, R)) rfl hQ
  · rw [if_neg hc_1] at h
    refine az_E.sn 2 (pc' := 12) (L' := [.ref 32, .ref 29, .int v2, .int v3, .ref 33, .int v5, .retAddr 0, .retAddr 0]) (S' := [.int v5, .int v2]) (σ' := (97, I, J, R)) rfl ?_
    cases hx_3 : rs_X_sideCell v2 v5 with
    | none => rw [hx_3] at h; cases h
    | some x_2 =>
      rw [hx_3] at h
      dsimp only at h
      refine az_E.call (d := 0) (k' := 141) (vs := [.int v2, .int v5]) (pc' := 15) (S' := []) (Q1 := fun v s => v = some (.int x_2) ∧ s = (97, I, J, R)) rfl (az_E.deep (by omega) (re_X_sideCell (J := J) (R := R)  hx_3 ⟨rfl, rfl⟩)) (fun v s hq => ?_)
      obtain ⟨rfl, rfl⟩ := hq
      show az_E az_F ex 1 18 15 [.ref 32, .ref 29, .int v2, .int v3, .ref 33, .int v5, .retAddr 0, .retAddr 0] [.int x_2] (97, I, J, R) _
      refine az_E.sn 2 (pc' := 19) (L' := [.ref 32, .ref 29, .int v2, .int v3, .ref 33, .int v5, .int x_2, .retAddr 0]) (S' := [.int x_2]) (σ' := (97, I, J, R)) rfl ?_
      refine az_E.br (c := x_2 < 0) (tt := 95) (ff := 22) (L' := [.ref 32, .ref 29, .int v2, .int v3, .ref 33, .int v5, .int x_2, .retAddr 0]) (S' := []) (σ' := (97, I, J, R)) rfl (fun hc_4 => ?_) (fun hc_4 => ?_)
      · rw [if_pos hc_4] at h
        refine az_E.sn 2 (pc' := 3) (L' := [.ref 32, .ref 29, .int v2, .int v3, .ref 33, .int (v5 + (1 : Int32)), .int x_2, .retAddr 0]) (S' := []) (σ' := (97, I, J, R)) rfl ?_
        have h := Option.some.inj h
        subst h
        exact az_E.forget (L := [.ref 32, .ref 29, .int v2, .int v3, .ref 33, .int (v5 + (1 : Int32)), .retAddr 0, .retAddr 0]) ⟨rfl, rfl, rfl, rfl, rfl, rfl, trivial, trivial, trivial⟩ hQ
      · rw [if_neg hc_4] at h
        refine az_E.sn 2 (pc' := 26) (L' := [.ref 32, .ref 29, .int v2, .int v3, .ref 33, .int v5, .int x_2, .retAddr 0]) (S' := [.int x_2, .ref 33]) (σ' := (97, I, J, R)) rfl ?_
        by_cases hc_5 : x_2 < 0 ∨ 144 ≤ x_2.toNatClampNeg
        · rw [if_pos hc_5] at h; cases h
        · rw [if_neg hc_5] at h
          refine az_E.oi (o := az_ai az_F ex (97, I, J, R) 33 x_2) (pc' := 27) (L' := [.ref 32, .ref 29, .int v2, .int v3, .ref 33, .int v5, .int x_2, .retAddr 0]) (S' := []) (σ' := (97, I, J, R)) (x := (I 33 x_2.toNatClampNeg)) rfl (if_neg hc_5) ?_
          refine az_E.sn 2 (pc' := 30) (L' := [.ref 32, .ref 29, .int v2, .int v3, .ref 33, .int v5, .int x_2, .retAddr 0]) (S' := [.int v2, .ref 33, .int (I 33 x_2.toNatClampNeg)]) (σ' := (97, I, J, R)) rfl ?_
          by_cases hc_6 : v2 < 0 ∨ 144 ≤ v2.toNatClampNeg
          · rw [if_pos hc_6] at h; cases h
          · rw [if_neg hc_6] at h
            refine az_E.oi (o := az_ai az_F ex (97, I, J, R) 33 v2) (pc' := 31) (L' := [.ref 32, .ref 29, .int v2, .int v3, .ref 33, .int v5, .int x_2, .retAddr 0]) (S' := [.int (I 33 x_2.toNatClampNeg)]) (σ' := (97, I, J, R)) (x := (I 33 v2.toNatClampNeg)) rfl (if_neg hc_6) ?_
            refine az_E.br (c := (I 33 x_2.toNatClampNeg) ≤ (I 33 v2.toNatClampNeg)) (tt := 95) (ff := 34) (L' := [.ref 32, .ref 29, .int v2, .int v3, .ref 33, .int v5, .int x_2, .retAddr 0]) (S' := []) (σ' := (97, I, J, R)) rfl (fun hc_7 => ?_) (fun hc_7 => ?_)
            · rw [if_pos hc_7] at h
              refine az_E.sn 2 (pc' := 3) (L' := [.ref 32, .ref 29, .int v2, .int v3, .ref 33, .int (v5 + (1 : Int32)), .int x_2, .retAddr 0]) (S' := []) (σ' := (97, I, J, R)) rfl ?_
              have h := Option.some.inj h
              subst h
              exact az_E.forget (L := [.ref 32, .ref 29, .int v2, .int v3, .ref 33, .int (v5 + (1 : Int32)), .retAddr 0, .retAddr 0]) ⟨rfl, rfl, rfl, rfl, rfl, rfl, trivial, trivial, trivial⟩ hQ
            · rw [if_neg hc_7] at h
              refine az_E.sn 1 (pc' := 35) (L' := [.ref 32, .ref 29, .int v2, .int v3, .ref 33, .int v5, .int x_2, .retAddr 0]) (S' := [.int v3]) (σ' := (97, I, J, R)) rfl ?_
              refine az_E.br (c := v3 = 0) (tt := 48) (ff := 38) (L' := [.ref 32, .ref 29, .int v2, .int v3, .ref 33, .int v5, .int x_2, .retAddr 0]) (S' := []) (σ' := (97, I, J, R)) rfl (fun hc_8 => ?_) (fun hc_8 => ?_)
              · rw [if_pos hc_8] at h
                refine az_E.sn 3 (pc' := 52) (L' := [.ref 32, .ref 29, .int v2, .int v3, .ref 33, .int v5, .int x_2, .retAddr 0]) (S' := [.int x_2, .int v2, .ref 29]) (σ' := (97, I, J, R)) rfl ?_
                refine az_E.call (d := 0) (k' := 52) (vs := [.ref 29, .int v2, .int x_2]) (pc' := 55) (S' := []) rfl ?_ (fun _ _ hq => hq)
                show az_E az_F ex 0 52 0 [.ref 29, .int v2, .int x_2] [] (97, I, J, R) _
                refine az_E.sn 1 (pc' := 1) (L' := [.ref 29, .int v2, .int x_2]) (S' := [.ref 29]) (σ' := (97, I, J, R)) rfl ?_
                refine az_E.ov (pc' := 4) (L' := [.ref 29, .int v2, .int x_2]) (S' := []) (σ' := (97, I, J, R)) (x := .ref 5) rfl (congrArg (fun z => some (va_rf z)) hR_29_3) ?_
                refine az_E.sn 4 (pc' := 17) (L' := [.ref 29, .int v2, .int x_2]) (S' := [.ref 29, .ref (29 + 1)]) (σ' := (97, I, J, R)) rfl ?_
                refine az_E.ov (pc' := 20) (L' := [.ref 29, .int v2, .int x_2]) (S' := [.ref (29 + 1)]) (σ' := (97, I, J, R)) (x := .ref 5) rfl (congrArg (fun z => some (va_rf z)) hR_29_3) ?_
                refine az_E.sn 1 (pc' := 21) (L' := [.ref 29, .int v2, .int x_2]) (S' := [.int v2, .ref 5, .ref (29 + 1)]) (σ' := (97, I, J, R)) rfl ?_
                by_cases hc_9 : v2 < 0 ∨ 144 ≤ v2.toNatClampNeg
                · rw [if_pos hc_9] at h; cases h
                · rw [if_neg hc_9] at h
                  refine az_E.oi (o := az_ai az_F ex (97, I, J, R) 5 v2) (pc' := 22) (L' := [.ref 29, .int v2, .int x_2]) (S' := [.ref (29 + 1)]) (σ' := (97, I, J, R)) (x := (I 5 v2.toNatClampNeg)) rfl (if_neg hc_9) ?_
                  refine az_E.sn 3 (pc' := 26) (L' := [.ref 29, .int v2, .int x_2]) (S' := [.ref 29, .int ((I 5 v2.toNatClampNeg) * (10 : Int32)), .ref (29 + 1)]) (σ' := (97, I, J, R)) rfl ?_
                  refine az_E.ov (pc' := 29) (L' := [.ref 29, .int v2, .int x_2]) (S' := [.int ((I 5 v2.toNatClampNeg) * (10 : Int32)), .ref (29 + 1)]) (σ' := (97, I, J, R)) (x := .ref 5) rfl (congrArg (fun z => some (va_rf z)) hR_29_3) ?_
                  refine az_E.sn 1 (pc' := 30) (L' := [.ref 29, .int v2, .int x_2]) (S' := [.int x_2, .ref 5, .int ((I 5 v2.toNatClampNeg) * (10 : Int32)), .ref (29 + 1)]) (σ' := (97, I, J, R)) rfl ?_
                  by_cases hc_10 : x_2 < 0 ∨ 144 ≤ x_2.toNatClampNeg
                  · rw [if_pos hc_10] at h; cases h
                  · rw [if_neg hc_10] at h
                    refine az_E.oi (o := az_ai az_F ex (97, I, J, R) 5 x_2) (pc' := 31) (L' := [.ref 29, .int v2, .int x_2]) (S' := [.int ((I 5 v2.toNatClampNeg) * (10 : Int32)), .ref (29 + 1)]) (σ' := (97, I, J, R)) (x := (I 5 x_2.toNatClampNeg)) rfl (if_neg hc_10) ?_
                    refine az_E.sn 1 (pc' := 32) (L' := [.ref 29, .int v2, .int x_2]) (S' := [.int (((I 5 v2.toNatClampNeg) * (10 : Int32)) + (I 5 x_2.toNatClampNeg)), .ref (29 + 1)]) (σ' := (97, I, J, R)) rfl ?_
                    by_cases hc_11 : (((I 5 v2.toNatClampNeg) * (10 : Int32)) + (I 5 x_2.toNatClampNeg)) < 0 ∨ 100 ≤ (((I 5 v2.toNatClampNeg) * (10 : Int32)) + (I 5 x_2.toNatClampNeg)).toNatClampNeg
                    · rw [if_pos hc_11] at h; cases h
                    · rw [if_neg hc_11] at h
                      refine az_E.oi (o := az_ai az_F ex (97, I, J, R) (29 + 1) (((I 5 v2.toNatClampNeg) * (10 : Int32)) + (I 5 x_2.toNatClampNeg))) (pc' := 33) (L' := [.ref 29, .int v2, .int x_2]) (S' := []) (σ' := (97, I, J, R)) (x := (I (29 + 1) (((I 5 v2.toNatClampNeg) * (10 : Int32)) + (I 5 x_2.toNatClampNeg)).toNatClampNeg)) rfl (if_neg hc_11) ?_
                      refine az_E.ret (v := some (.int (I (29 + 1) (((I 5 v2.toNatClampNeg) * (10 : Int32)) + (I 5 x_2.toNatClampNeg)).toNatClampNeg))) (σ' := (97, I, J, R)) rfl ?_
                      show az_E az_F ex 1 18 55 [.ref 32, .ref 29, .int v2, .int v3, .ref 33, .int v5, .int x_2, .retAddr 0] [.int (I (29 + 1) (((I 5 v2.toNatClampNeg) * (10 : Int32)) + (I 5 x_2.toNatClampNeg)).toNatClampNeg)] (97, I, J, R) _
                      exact az_E.forget (L := [.ref 32, .ref 29, .int v2, .int v3, .ref 33, .int v5, .int x_2, .retAddr 0]) ⟨rfl, rfl, rfl, rfl, rfl, rfl, rfl, trivial, trivial⟩ (re_Fi_relax_55_29_33_5 (I := I) (J := J) (R := R) hR_29_3 h hQ)
              · rw [if_neg hc_8] at h
                refine az_E.sn 3 (pc' := 42) (L' := [.ref 32, .ref 29, .int v2, .int v3, .ref 33, .int v5, .int x_2, .retAddr 0]) (S' := [.int v2, .int x_2, .ref 29]) (σ' := (97, I, J, R)) rfl ?_
                refine az_E.call (d := 0) (k' := 52) (vs := [.ref 29, .int x_2, .int v2]) (pc' := 45) (S' := []) rfl ?_ (fun _ _ hq => hq)
                show az_E az_F ex 0 52 0 [.ref 29, .int x_2, .int v2] [] (97, I, J, R) _
                refine az_E.sn 1 (pc' := 1) (L' := [.ref 29, .int x_2, .int v2]) (S' := [.ref 29]) (σ' := (97, I, J, R)) rfl ?_
                refine az_E.ov (pc' := 4) (L' := [.ref 29, .int x_2, .int v2]) (S' := []) (σ' := (97, I, J, R)) (x := .ref 5) rfl (congrArg (fun z => some (va_rf z)) hR_29_3) ?_
                refine az_E.sn 4 (pc' := 17) (L' := [.ref 29, .int x_2, .int v2]) (S' := [.ref 29, .ref (29 + 1)]) (σ' := (97, I, J, R)) rfl ?_
                refine az_E.ov (pc' := 20) (L' := [.ref 29, .int x_2, .int v2]) (S' := [.ref (29 + 1)]) (σ' := (97, I, J, R)) (x := .ref 5) rfl (congrArg (fun z => some (va_rf z)) hR_29_3) ?_
                refine az_E.sn 1 (pc' := 21) (L' := [.ref 29, .int x_2, .int v2]) (S' := [.int x_2, .ref 5, .ref (29 + 1)]) (σ' := (97, I, J, R)) rfl ?_
                by_cases hc_20 : x_2 < 0 ∨ 144 ≤ x_2.toNatClampNeg
                · rw [if_pos hc_20] at h; cases h
                · rw [if_neg hc_20] at h
                  refine az_E.oi (o := az_ai az_F ex (97, I, J, R) 5 x_2) (pc' := 22) (L' := [.ref 29, .int x_2, .int v2]) (S' := [.ref (29 + 1)]) (σ' := (97, I, J, R)) (x := (I 5 x_2.toNatClampNeg)) rfl (if_neg hc_20) ?_
                  refine az_E.sn 3 (pc' := 26) (L' := [.ref 29, .int x_2, .int v2]) (S' := [.ref 29, .int ((I 5 x_2.toNatClampNeg) * (10 : Int32)), .ref (29 + 1)]) (σ' := (97, I, J, R)) rfl ?_
                  refine az_E.ov (pc' := 29) (L' := [.ref 29, .int x_2, .int v2]) (S' := [.int ((I 5 x_2.toNatClampNeg) * (10 : Int32)), .ref (29 + 1)]) (σ' := (97, I, J, R)) (x := .ref 5) rfl (congrArg (fun z => some (va_rf z)) hR_29_3) ?_
                  refine az_E.sn 1 (pc' := 30) (L' := [.ref 29, .int x_2, .int v2]) (S' := [.int v2, .ref 5, .int ((I 5 x_2.toNatClampNeg) * (10 : Int32)), .ref (29 + 1)]) (σ' := (97, I, J, R)) rfl ?_
                  by_cases hc_21 : v2 < 0 ∨ 144 ≤ v2.toNatClampNeg
                  · rw [if_pos hc_21] at h; cases h
                  · rw [if_neg hc_21] at h
                    refine az_E.oi (o := az_ai az_F ex (97, I, J, R) 5 v2) (pc' := 31) (L' := [.ref 29, .int x_2, .int v2]) (S' := [.int ((I 5 x_2.toNatClampNeg) * (10 : Int32)), .ref (29 + 1)]) (σ' := (97, I, J, R)) (x := (I 5 v2.toNatClampNeg)) rfl (if_neg hc_21) ?_
                    refine az_E.sn 1 (pc' := 32) (L' := [.ref 29, .int x_2, .int v2]) (S' := [.int (((I 5 x_2.toNatClampNeg) * (10 : Int32)) + (I 5 v2.toNatClampNeg)), .ref (29 + 1)]) (σ' := (97, I, J, R)) rfl ?_
                    by_cases hc_22 : (((I 5 x_2.toNatClampNeg) * (10 : Int32)) + (I 5 v2.toNatClampNeg)) < 0 ∨ 100 ≤ (((I 5 x_2.toNatClampNeg) * (10 : Int32)) + (I 5 v2.toNatClampNeg)).toNatClampNeg
                    · rw [if_pos hc_22] at h; cases h
                    · rw [if_neg hc_22] at h
                      refine az_E.oi (o := az_ai az_F ex (97, I, J, R) (29 + 1) (((I 5 x_2.toNatClampNeg) * (10 : Int32)) + (I 5 v2.toNatClampNeg))) (pc' := 33) (L' := [.ref 29, .int x_2, .int v2]) (S' := []) (σ' := (97, I, J, R)) (x := (I (29 + 1) (((I 5 x_2.toNatClampNeg) * (10 : Int32)) + (I 5 v2.toNatClampNeg)).toNatClampNeg)) rfl (if_neg hc_22) ?_
                      refine az_E.ret (v := some (.int (I (29 + 1) (((I 5 x_2.toNatClampNeg) * (10 : Int32)) + (I 5 v2.toNatClampNeg)).toNatClampNeg))) (σ' := (97, I, J, R)) rfl ?_
                      show az_E az_F ex 1 18 45 [.ref 32, .ref 29, .int v2, .int v3, .ref 33, .int v5, .int x_2, .retAddr 0] [.int (I (29 + 1) (((I 5 x_2.toNatClampNeg) * (10 : Int32)) + (I 5 v2.toNatClampNeg)).toNatClampNeg)] (97, I, J, R) _
                      refine az_E.sn 1 (pc' := 55) (L' := [.ref 32, .ref 29, .int v2, .int v3, .ref 33, .int v5, .int x_2, .retAddr 0]) (S' := [.int (I (29 + 1) (((I 5 x_2.toNatClampNeg) * (10 : Int32)) + (I 5 v2.toNatClampNeg)).toNatClampNeg)]) (σ' := (97, I, J, R)) rfl ?_
                      exact az_E.forget (L := [.ref 32, .ref 29, .int v2, .int v3, .ref 33, .int v5, .int x_2, .retAddr 0]) ⟨rfl, rfl, rfl, rfl, rfl, rfl, rfl, trivial, trivial⟩ (re_Fi_relax_55_29_33_5 (I := I) (J := J) (R := R) hR_29_3 h hQ)
set_option maxRecDepth 100000 in
set_option maxHeartbeats 4000000 in
theorem re_Fi_relax_3_29_33_5 {ex : az_X} {I : Nat → Nat → Int32} {J : Nat → Nat → Int64} {R : Nat → Nat → Option Nat} {v2 : Int32} {v3 : Int32} {v5 : Int32} (hR_29_3 : R 29 3 = some 5) {x : (Nat → Nat → Int32)} (h : rs_Fi_relax_3 29 33 I v2 v3 v5 = some x) {Q : Option Value → az_S → Prop} (hQ : Q none (97, x, J, R)) : az_E az_F ex 1 18 3 [.ref 32, .ref 29, .int v2, .int v3, .ref 33, .int v5, .retAddr 0, .retAddr 0] [] (97, I, J, R) Q := by
  unfold rs_Fi_relax_3 at h
  refine az_lp_E (G := fun s => az_E az_F ex 1 18 3 [.ref 32, .ref 29, .int v2, .int v3, .ref 33, .int s.1, .retAddr 0, .retAddr 0] [] (97, s.2, J, R) Q) (H := fun x => Q none (97, x, J, R)) (fun s o hb ho => ?_) _ _ _ h hQ
  exact re_Fi_relax_3_b_29_33_5 hR_29_3 hb ho
set_option maxRecDepth 100000 in
set_option maxHeartbeats 4000000 in
theorem re_Fi_relax_29_33_5 {ex : az_X} {I : Nat → Nat → Int32} {J : Nat → Nat → Int64} {R : Nat → Nat → Option Nat} {a2 : Int32} {a3 : Int32} (hR_29_3 : R 29 3 = some 5) {o : (Nat → Nat → Int32)} (h : rs_Fi_relax 29 33 I a2 a3 = some o) {Q : Option Value → az_S → Prop} (hQ : Q none (97, o, J, R)) : az_E az_F ex 1 18 0 [.ref 32, .ref 29, .int a2, .int a3, .ref 33, .retAddr 0, .retAddr 0, .retAddr 0] [] (97, I, J, R) Q := by
  unfold rs_Fi_relax at h
  refine az_E.sn 2 (pc' := 3) (L' := [.ref 32, .ref 29, .int a2, .int a3, .ref 33, .int (0 : Int32), .retAddr 0, .retAddr 0]) (S' := []) (σ' := (97, I, J, R)) rfl ?_
  exact az_E.forget (L := [.ref 32, .ref 29, .int a2, .int a3, .ref 33, .int (0 : Int32), .retAddr 0, .retAddr 0]) ⟨rfl, rfl, rfl, rfl, rfl, rfl, trivial, trivial, trivial⟩ (re_Fi_relax_3_29_33_5 (I := I) (J := J) (R := R) hR_29_3 h hQ)
set_option maxRecDepth 100000 in
set_option maxHeartbeats 4000000 in
theorem re_Fi_spread_149_29_33_5 {ex : az_X} {I : Nat → Nat → Int32} {J : Nat → Nat → Int64} {R : Nat → Nat → Option Nat} {v3 : Int32} {v4 : Int32} {v6 : Int32} {v7 : Int32} (hR_29_3 : R 29 3 = some 5) {x : ((Int32 × (Nat → Nat → Int32)) ⊕ ((Nat → Nat → Int32)))} (h : rs_Fi_spread_149 29 33 I v3 v4 v6 v7 = some x) {Q : Option Value → az_S → Prop} (hQ : Sum.elim (fun s => az_E az_F ex 2 17 40 [.ref 32, .ref 29, .retAddr 0, .int v3, .int v4, .ref 33, .int s.1, .retAddr 0, .retAddr 0, .retAddr 0, .retAddr 0] [] (97, s.2, J, R) Q) (fun x => Q none (97, x, J, R)) x) : az_E az_F ex 2 17 149 [.ref 32, .ref 29, .retAddr 0, .int v3, .int v4, .ref 33, .int v6, .int v7, .retAddr 0, .retAddr 0, .retAddr 0] [] (97, I, J, R) Q := by
  unfold rs_Fi_spread_149 at h
  refine az_E.sn 4 (pc' := 156) (L' := [.ref 32, .ref 29, .retAddr 0, .int v3, .int v4, .ref 33, .int v6, .int v7, .retAddr 0, .retAddr 0, .retAddr 0]) (S' := [.int (-1 : Int32), .int v7, .ref 36]) (σ' := (97, I, J, R)) rfl ?_
  by_cases hc_9 : v7 < 0 ∨ 100 ≤ v7.toNatClampNeg
  · rw [if_pos hc_9] at h; cases h
  · rw [if_neg hc_9] at h
    refine az_E.o (o := az_si az_F (97, I, J, R) 36 v7 (-1 : Int32)) (pc' := 157) (L' := [.ref 32, .ref 29, .retAddr 0, .int v3, .int v4, .ref 33, .int v6, .int v7, .retAddr 0, .retAddr 0, .retAddr 0]) (S' := []) (x := (97, (az_u I 36 v7.toNatClampNeg (-1 : Int32)), J, R)) rfl (if_neg hc_9) ?_
    refine az_E.sn 2 (pc' := 40) (L' := [.ref 32, .ref 29, .retAddr 0, .int v3, .int v4, .ref 33, .int (v6 + (1 : Int32)), .int v7, .retAddr 0, .retAddr 0, .retAddr 0]) (S' := []) (σ' := (97, (az_u I 36 v7.toNatClampNeg (-1 : Int32)), J, R)) rfl ?_
    have h := Option.some.inj h
    subst h
    exact az_E.forget (L := [.ref 32, .ref 29, .retAddr 0, .int v3, .int v4, .ref 33, .int (v6 + (1 : Int32)), .retAddr 0, .retAddr 0, .retAddr 0, .retAddr 0]) ⟨rfl, rfl, trivial, rfl, rfl, rfl, rfl, trivial, trivial, trivial, trivial, trivial⟩ hQ
set_option maxRecDepth 100000 in
set_option maxHeartbeats 4000000 in
theorem re_Fi_spread_74_b_29_33_5 {ex : az_X} {I : Nat → Nat → Int32} {J : Nat → Nat → Int64} {R : Nat → Nat → Option Nat} {v3 : Int32} {v4 : Int32} {v6 : Int32} {v7 : Int32} {v8 : Int32} {v9 : Int32} (hR_29_3 : R 29 3 = some 5) {x : ((Int32 × Int32 × (Nat → Nat → Int32)) ⊕ (((Int32 × (Nat → Nat → Int32)) ⊕ ((Nat → Nat → Int32)))))} (h : rs_Fi_spread_74_b 29 33 v3 v4 v6 v7 v8 v9 I = some x) {Q : Option Value → az_S → Prop} (hQ : Sum.elim (fun s => az_E az_F ex 2 17 74 [.ref 32, .ref 29, .retAddr 0, .int v3, .int v4, .ref 33, .int v6, .int v7, .int s.1, .int s.2.1, .retAddr 0] [] (97, s.2.2, J, R) Q) (fun x => Sum.elim (fun s => az_E az_F ex 2 17 40 [.ref 32, .ref 29, .retAddr 0, .int v3, .int v4, .ref 33, .int s.1, .retAddr 0, .retAddr 0, .retAddr 0, .retAddr 0] [] (97, s.2, J, R) Q) (fun x => Q none (97, x, J, R)) x) x) : az_E az_F ex 2 17 74 [.ref 32, .ref 29, .retAddr 0, .int v3, .int v4, .ref 33, .int v6, .int v7, .int v8, .int v9, .retAddr 0] [] (97, I, J, R) Q := by
  unfold rs_Fi_spread_74_b at h
  refine az_E.sn 2 (pc' := 79) (L' := [.ref 32, .ref 29, .retAddr 0, .int v3, .int v4, .ref 33, .int v6, .int v7, .int v8, .int v9, .retAddr 0]) (S' := [.int (577 : Int32), .int v9]) (σ' := (97, I, J, R)) rfl ?_
  refine az_E.br (c := (577 : Int32) ≤ v9) (tt := 149) (ff := 82) (L' := [.ref 32, .ref 29, .retAddr 0, .int v3, .int v4, .ref 33, .int v6, .int v7, .int v8, .int v9, .retAddr 0]) (S' := []) (σ' := (97, I, J, R)) rfl (fun hc_8 => ?_) (fun hc_8 => ?_)
  · rw [if_pos hc_8] at h
    obtain ⟨x, hx, rfl⟩ := Option.map_eq_some_iff.mp h
    exact az_E.forget (L := [.ref 32, .ref 29, .retAddr 0, .int v3, .int v4, .ref 33, .int v6, .int v7, .retAddr 0, .retAddr 0, .retAddr 0]) ⟨rfl, rfl, trivial, rfl, rfl, rfl, rfl, rfl, trivial, trivial, trivial, trivial⟩ (re_Fi_spread_149_29_33_5 (I := I) (J := J) (R := R) hR_29_3 hx hQ)
  · rw [if_neg hc_8] at h
    refine az_E.sn 1 (pc' := 84) (L' := [.ref 32, .ref 29, .retAddr 0, .int v3, .int v4, .ref 33, .int v6, .int v7, .int v8, .int v9, .retAddr 0]) (S' := [.int v8]) (σ' := (97, I, J, R)) rfl ?_
    refine az_E.br (c := v8 < 0) (tt := 149) (ff := 87) (L' := [.ref 32, .ref 29, .retAddr 0, .int v3, .int v4, .ref 33, .int v6, .int v7, .int v8, .int v9, .retAddr 0]) (S' := []) (σ' := (97, I, J, R)) rfl (fun hc_10 => ?_) (fun hc_10 => ?_)
    · rw [if_pos hc_10] at h
      obtain ⟨x, hx, rfl⟩ := Option.map_eq_some_iff.mp h
      exact az_E.forget (L := [.ref 32, .ref 29, .retAddr 0, .int v3, .int v4, .ref 33, .int v6, .int v7, .retAddr 0, .retAddr 0, .retAddr 0]) ⟨rfl, rfl, trivial, rfl, rfl, rfl, rfl, rfl, trivial, trivial, trivial, trivial⟩ (re_Fi_spread_149_29_33_5 (I := I) (J := J) (R := R) hR_29_3 hx hQ)
    · rw [if_neg hc_10] at h
      refine az_E.sn 3 (pc' := 93) (L' := [.ref 32, .ref 29, .retAddr 0, .int v3, .int v4, .ref 33, .int v6, .int v7, .int v8, .int v9, .retAddr 0]) (S' := [.int v8, .ref 38]) (σ' := (97, I, J, R)) rfl ?_
      by_cases hc_11 : v8 < 0 ∨ 577 ≤ v8.toNatClampNeg
      · rw [if_pos hc_11] at h; cases h
      · rw [if_neg hc_11] at h
        refine az_E.oi (o := az_ai az_F ex (97, I, J, R) 38 v8) (pc' := 94) (L' := [.ref 32, .ref 29, .retAddr 0, .int v3, .int v4, .ref 33, .int v6, .int v7, .int v8, .int v9, .retAddr 0]) (S' := []) (σ' := (97, I, J, R)) (x := (I 38 v8.toNatClampNeg)) rfl (if_neg hc_11) ?_
        refine az_E.sn 4 (pc' := 102) (L' := [.ref 32, .ref 29, .retAddr 0, .int v3, .int v4, .ref 33, .int v6, .int v7, .int v8, .int v9, .int (I 38 v8.toNatClampNeg)]) (S' := [.int v8, .ref 37]) (σ' := (97, I, J, R)) rfl ?_
        by_cases hc_12 : v8 < 0 ∨ 577 ≤ v8.toNatClampNeg
        · rw [if_pos hc_12] at h; cases h
        · rw [if_neg hc_12] at h
          refine az_E.oi (o := az_ai az_F ex (97, I, J, R) 37 v8) (pc' := 103) (L' := [.ref 32, .ref 29, .retAddr 0, .int v3, .int v4, .ref 33, .int v6, .int v7, .int v8, .int v9, .int (I 38 v8.toNatClampNeg)]) (S' := []) (σ' := (97, I, J, R)) (x := (I 37 v8.toNatClampNeg)) rfl (if_neg hc_12) ?_
          refine az_E.sn 9 (pc' := 119) (L' := [.ref 32, .ref 29, .retAddr 0, .int v3, .int v4, .ref 33, .int v6, .int v7, .int (I 37 v8.toNatClampNeg), .int v9, .int (I 38 v8.toNatClampNeg)]) (S' := [.int (I 38 v8.toNatClampNeg), .ref 33]) (σ' := (97, (az_u I 32 8 ((I 32 8) - (1 : Int32))), J, R)) rfl ?_
          by_cases hc_13 : (I 38 v8.toNatClampNeg) < 0 ∨ 144 ≤ (I 38 v8.toNatClampNeg).toNatClampNeg
          · rw [if_pos hc_13] at h; cases h
          · rw [if_neg hc_13] at h
            refine az_E.oi (o := az_ai az_F ex (97, (az_u I 32 8 ((I 32 8) - (1 : Int32))), J, R) 33 (I 38 v8.toNatClampNeg)) (pc' := 120) (L' := [.ref 32, .ref 29, .retAddr 0, .int v3, .int v4, .ref 33, .int v6, .int v7, .int (I 37 v8.toNatClampNeg), .int v9, .int (I 38 v8.toNatClampNeg)]) (S' := []) (σ' := (97, (az_u I 32 8 ((I 32 8) - (1 : Int32))), J, R)) (x := (I 33 (I 38 v8.toNatClampNeg).toNatClampNeg)) rfl (if_neg hc_13) ?_
            refine az_E.sn 1 (pc' := 122) (L' := [.ref 32, .ref 29, .retAddr 0, .int v3, .int v4, .ref 33, .int v6, .int v7, .int (I 37 v8.toNatClampNeg), .int v9, .int (I 38 v8.toNatClampNeg)]) (S' := [.int v6, .int (I 33 (I 38 v8.toNatClampNeg).toNatClampNeg)]) (σ' := (97, (az_u I 32 8 ((I 32 8) - (1 : Int32))), J, R)) rfl ?_
            refine az_E.br (c := (I 33 (I 38 v8.toNatClampNeg).toNatClampNeg) = v6) (tt := 125) (ff := 143) (L' := [.ref 32, .ref 29, .retAddr 0, .int v3, .int v4, .ref 33, .int v6, .int v7, .int (I 37 v8.toNatClampNeg), .int v9, .int (I 38 v8.toNatClampNeg)]) (S' := []) (σ' := (97, (az_u I 32 8 ((I 32 8) - (1 : Int32))), J, R)) rfl (fun hc_14 => ?_) (fun hc_14 => ?_)
            · rw [if_pos hc_14] at h
              refine az_E.sn 2 (pc' := 129) (L' := [.ref 32, .ref 29, .retAddr 0, .int v3, .int v4, .ref 33, .int v6, .int v7, .int (I 37 v8.toNatClampNeg), .int v9, .int (I 38 v8.toNatClampNeg)]) (S' := [.int v4, .int (I 38 v8.toNatClampNeg)]) (σ' := (97, (az_u I 32 8 ((I 32 8) - (1 : Int32))), J, R)) rfl ?_
              refine az_E.br (c := (I 38 v8.toNatClampNeg) = v4) (tt := 132) (ff := 133) (L' := [.ref 32, .ref 29, .retAddr 0, .int v3, .int v4, .ref 33, .int v6, .int v7, .int (I 37 v8.toNatClampNeg), .int v9, .int (I 38 v8.toNatClampNeg)]) (S' := []) (σ' := (97, (az_u I 32 8 ((I 32 8) - (1 : Int32))), J, R)) rfl (fun hc_15 => ?_) (fun hc_15 => ?_)
              · rw [if_pos hc_15] at h
                have h := Option.some.inj h
                subst h
                exact az_E.ret (v := none) (σ' := (97, (az_u I 32 8 ((I 32 8) - (1 : Int32))), J, R)) rfl hQ
              · rw [if_neg hc_15] at h
                refine az_E.sn 5 (pc' := 140) (L' := [.ref 32, .ref 29, .retAddr 0, .int v3, .int v4, .ref 33, .int v6, .int v7, .int (I 37 v8.toNatClampNeg), .int v9, .int (I 38 v8.toNatClampNeg)]) (S' := [.ref 33, .int v3, .int (I 38 v8.toNatClampNeg), .ref 29, .ref 32]) (σ' := (97, (az_u I 32 8 ((I 32 8) - (1 : Int32))), J, R)) rfl ?_
                cases hx_17 : rs_Fi_relax 29 33 (az_u I 32 8 ((I 32 8) - (1 : Int32))) (I 38 v8.toNatClampNeg) v3 with
                | none => rw [hx_17] at h; cases h
                | some I_16 =>
                  rw [hx_17] at h
                  dsimp only at h
                  refine az_E.call (d := 1) (k' := 18) (vs := [.ref 32, .ref 29, .int (I 38 v8.toNatClampNeg), .int v3, .ref 33]) (pc' := 143) (S' := []) (Q1 := fun v s => v = none ∧ s = (97, I_16, J, R)) rfl (az_E.deep (by omega) (re_Fi_relax_29_33_5 (J := J) (R := R) hR_29_3 hx_17 ⟨rfl, rfl⟩)) (fun v s hq => ?_)
                  obtain ⟨rfl, rfl⟩ := hq
                  show az_E az_F ex 2 17 143 [.ref 32, .ref 29, .retAddr 0, .int v3, .int v4, .ref 33, .int v6, .int v7, .int (I 37 v8.toNatClampNeg), .int v9, .int (I 38 v8.toNatClampNeg)] [] (97, I_16, J, R) _
                  refine az_E.sn 2 (pc' := 74) (L' := [.ref 32, .ref 29, .retAddr 0, .int v3, .int v4, .ref 33, .int v6, .int v7, .int (I 37 v8.toNatClampNeg), .int (v9 + (1 : Int32)), .int (I 38 v8.toNatClampNeg)]) (S' := []) (σ' := (97, I_16, J, R)) rfl ?_
                  have h := Option.some.inj h
                  subst h
                  exact az_E.forget (L := [.ref 32, .ref 29, .retAddr 0, .int v3, .int v4, .ref 33, .int v6, .int v7, .int (I 37 v8.toNatClampNeg), .int (v9 + (1 : Int32)), .retAddr 0]) ⟨rfl, rfl, trivial, rfl, rfl, rfl, rfl, rfl, rfl, rfl, trivial, trivial⟩ hQ
            · rw [if_neg hc_14] at h
              refine az_E.sn 2 (pc' := 74) (L' := [.ref 32, .ref 29, .retAddr 0, .int v3, .int v4, .ref 33, .int v6, .int v7, .int (I 37 v8.toNatClampNeg), .int (v9 + (1 : Int32)), .int (I 38 v8.toNatClampNeg)]) (S' := []) (σ' := (97, (az_u I 32 8 ((I 32 8) - (1 : Int32))), J, R)) rfl ?_
              have h := Option.some.inj h
              subst h
              exact az_E.forget (L := [.ref 32, .ref 29, .retAddr 0, .int v3, .int v4, .ref 33, .int v6, .int v7, .int (I 37 v8.toNatClampNeg), .int (v9 + (1 : Int32)), .retAddr 0]) ⟨rfl, rfl, trivial, rfl, rfl, rfl, rfl, rfl, rfl, rfl, trivial, trivial⟩ hQ
set_option maxRecDepth 100000 in
set_option maxHeartbeats 4000000 in
theorem re_Fi_spread_74_29_33_5 {ex : az_X} {I : Nat → Nat → Int32} {J : Nat → Nat → Int64} {R : Nat → Nat → Option Nat} {v3 : Int32} {v4 : Int32} {v6 : Int32} {v7 : Int32} {v8 : Int32} {v9 : Int32} (hR_29_3 : R 29 3 = some 5) {x : ((Int32 × (Nat → Nat → Int32)) ⊕ ((Nat → Nat → Int32)))} (h : rs_Fi_spread_74 29 33 I v3 v4 v6 v7 v8 v9 = some x) {Q : Option Value → az_S → Prop} (hQ : Sum.elim (fun s => az_E az_F ex 2 17 40 [.ref 32, .ref 29, .retAddr 0, .int v3, .int v4, .ref 33, .int s.1, .retAddr 0, .retAddr 0, .retAddr 0, .retAddr 0] [] (97, s.2, J, R) Q) (fun x => Q none (97, x, J, R)) x) : az_E az_F ex 2 17 74 [.ref 32, .ref 29, .retAddr 0, .int v3, .int v4, .ref 33, .int v6, .int v7, .int v8, .int v9, .retAddr 0] [] (97, I, J, R) Q := by
  unfold rs_Fi_spread_74 at h
  refine az_lp_E (G := fun s => az_E az_F ex 2 17 74 [.ref 32, .ref 29, .retAddr 0, .int v3, .int v4, .ref 33, .int v6, .int v7, .int s.1, .int s.2.1, .retAddr 0] [] (97, s.2.2, J, R) Q) (H := fun x => Sum.elim (fun s => az_E az_F ex 2 17 40 [.ref 32, .ref 29, .retAddr 0, .int v3, .int v4, .ref 33, .int s.1, .retAddr 0, .retAddr 0, .retAddr 0, .retAddr 0] [] (97, s.2, J, R) Q) (fun x => Q none (97, x, J, R)) x) (fun s o hb ho => ?_) _ _ _ h hQ
  exact re_Fi_spread_74_b_29_33_5 hR_29_3 hb ho
set_option maxRecDepth 100000 in
set_option maxHeartbeats 4000000 in
theorem re_Fi_spread_40_b_29_33_5 {ex : az_X} {I : Nat → Nat → Int32} {J : Nat → Nat → Int64} {R : Nat → Nat → Option Nat} {v3 : Int32} {v4 : Int32} {v6 : Int32} (hR_29_3 : R 29 3 = some 5) {x : ((Int32 × (Nat → Nat → Int32)) ⊕ ((Nat → Nat → Int32)))} (h : rs_Fi_spread_40_b 29 33 v3 v4 v6 I = some x) {Q : Option Value → az_S → Prop} (hQ : Sum.elim (fun s => az_E az_F ex 2 17 40 [.ref 32, .ref 29, .retAddr 0, .int v3, .int v4, .ref 33, .int s.1, .retAddr 0, .retAddr 0, .retAddr 0, .retAddr 0] [] (97, s.2, J, R) Q) (fun x => Q none (97, x, J, R)) x) : az_E az_F ex 2 17 40 [.ref 32, .ref 29, .retAddr 0, .int v3, .int v4, .ref 33, .int v6, .retAddr 0, .retAddr 0, .retAddr 0, .retAddr 0] [] (97, I, J, R) Q := by
  unfold rs_Fi_spread_40_b at h
  refine az_E.sn 2 (pc' := 45) (L' := [.ref 32, .ref 29, .retAddr 0, .int v3, .int v4, .ref 33, .int v6, .retAddr 0, .retAddr 0, .retAddr 0, .retAddr 0]) (S' := [.int (14256 : Int32), .int v6]) (σ' := (97, I, J, R)) rfl ?_
  refine az_E.br (c := (14256 : Int32) ≤ v6) (tt := 163) (ff := 48) (L' := [.ref 32, .ref 29, .retAddr 0, .int v3, .int v4, .ref 33, .int v6, .retAddr 0, .retAddr 0, .retAddr 0, .retAddr 0]) (S' := []) (σ' := (97, I, J, R)) rfl (fun hc_4 => ?_) (fun hc_4 => ?_)
  · rw [if_pos hc_4] at h
    have h := Option.some.inj h
    subst h
    exact az_E.ret (v := none) (σ' := (97, I, J, R)) rfl hQ
  · rw [if_neg hc_4] at h
    refine az_E.sn 2 (pc' := 52) (L' := [.ref 32, .ref 29, .retAddr 0, .int v3, .int v4, .ref 33, .int v6, .retAddr 0, .retAddr 0, .retAddr 0, .retAddr 0]) (S' := [.int (I 32 8)]) (σ' := (97, I, J, R)) rfl ?_
    refine az_E.br (c := (I 32 8) ≤ 0) (tt := 163) (ff := 55) (L' := [.ref 32, .ref 29, .retAddr 0, .int v3, .int v4, .ref 33, .int v6, .retAddr 0, .retAddr 0, .retAddr 0, .retAddr 0]) (S' := []) (σ' := (97, I, J, R)) rfl (fun hc_5 => ?_) (fun hc_5 => ?_)
    · rw [if_pos hc_5] at h
      have h := Option.some.inj h
      subst h
      exact az_E.ret (v := none) (σ' := (97, I, J, R)) rfl hQ
    · rw [if_neg hc_5] at h
      refine az_E.sn 2 (pc' := 59) (L' := [.ref 32, .ref 29, .retAddr 0, .int v3, .int v4, .ref 33, .int v6, .retAddr 0, .retAddr 0, .retAddr 0, .retAddr 0]) (S' := [.int (100 : Int32), .int v6]) (σ' := (97, I, J, R)) rfl ?_
      have hd_6 : ¬ ((100 : Int32) = 0) := by decide
      refine az_E.dv (c := (100 : Int32) = 0) (pc' := 60) (L' := [.ref 32, .ref 29, .retAddr 0, .int v3, .int v4, .ref 33, .int v6, .retAddr 0, .retAddr 0, .retAddr 0, .retAddr 0]) (S' := [.int (v6 - v6 / (100 : Int32) * (100 : Int32))]) (σ' := (97, I, J, R)) rfl hd_6 ?_
      refine az_E.sn 4 (pc' := 68) (L' := [.ref 32, .ref 29, .retAddr 0, .int v3, .int v4, .ref 33, .int v6, .int (v6 - v6 / (100 : Int32) * (100 : Int32)), .retAddr 0, .retAddr 0, .retAddr 0]) (S' := [.int (v6 - v6 / (100 : Int32) * (100 : Int32)), .ref 36]) (σ' := (97, I, J, R)) rfl ?_
      by_cases hc_7 : (v6 - v6 / (100 : Int32) * (100 : Int32)) < 0 ∨ 100 ≤ (v6 - v6 / (100 : Int32) * (100 : Int32)).toNatClampNeg
      · rw [if_pos hc_7] at h; cases h
      · rw [if_neg hc_7] at h
        refine az_E.oi (o := az_ai az_F ex (97, I, J, R) 36 (v6 - v6 / (100 : Int32) * (100 : Int32))) (pc' := 69) (L' := [.ref 32, .ref 29, .retAddr 0, .int v3, .int v4, .ref 33, .int v6, .int (v6 - v6 / (100 : Int32) * (100 : Int32)), .retAddr 0, .retAddr 0, .retAddr 0]) (S' := []) (σ' := (97, I, J, R)) (x := (I 36 (v6 - v6 / (100 : Int32) * (100 : Int32)).toNatClampNeg)) rfl (if_neg hc_7) ?_
        refine az_E.sn 3 (pc' := 74) (L' := [.ref 32, .ref 29, .retAddr 0, .int v3, .int v4, .ref 33, .int v6, .int (v6 - v6 / (100 : Int32) * (100 : Int32)), .int (I 36 (v6 - v6 / (100 : Int32) * (100 : Int32)).toNatClampNeg), .int (0 : Int32), .retAddr 0]) (S' := []) (σ' := (97, I, J, R)) rfl ?_
        exact az_E.forget (L := [.ref 32, .ref 29, .retAddr 0, .int v3, .int v4, .ref 33, .int v6, .int (v6 - v6 / (100 : Int32) * (100 : Int32)), .int (I 36 (v6 - v6 / (100 : Int32) * (100 : Int32)).toNatClampNeg), .int (0 : Int32), .retAddr 0]) ⟨rfl, rfl, trivial, rfl, rfl, rfl, rfl, rfl, rfl, rfl, trivial, trivial⟩ (re_Fi_spread_74_29_33_5 (I := I) (J := J) (R := R) hR_29_3 h hQ)
set_option maxRecDepth 100000 in
set_option maxHeartbeats 4000000 in
theorem re_Fi_spread_40_29_33_5 {ex : az_X} {I : Nat → Nat → Int32} {J : Nat → Nat → Int64} {R : Nat → Nat → Option Nat} {v3 : Int32} {v4 : Int32} {v6 : Int32} (hR_29_3 : R 29 3 = some 5) {x : (Nat → Nat → Int32)} (h : rs_Fi_spread_40 29 33 I v3 v4 v6 = some x) {Q : Option Value → az_S → Prop} (hQ : Q none (97, x, J, R)) : az_E az_F ex 2 17 40 [.ref 32, .ref 29, .retAddr 0, .int v3, .int v4, .ref 33, .int v6, .retAddr 0, .retAddr 0, .retAddr 0, .retAddr 0] [] (97, I, J, R) Q := by
  unfold rs_Fi_spread_40 at h
  refine az_lp_E (G := fun s => az_E az_F ex 2 17 40 [.ref 32, .ref 29, .retAddr 0, .int v3, .int v4, .ref 33, .int s.1, .retAddr 0, .retAddr 0, .retAddr 0, .retAddr 0] [] (97, s.2, J, R) Q) (H := fun x => Q none (97, x, J, R)) (fun s o hb ho => ?_) _ _ _ h hQ
  exact re_Fi_spread_40_b_29_33_5 hR_29_3 hb ho
set_option maxRecDepth 100000 in
set_option maxHeartbeats 4000000 in
theorem re_Fi_spread_29_33_5 {ex : az_X} {I : Nat → Nat → Int32} {J : Nat → Nat → Int64} {R : Nat → Nat → Option Nat} {a2 : Int32} {a3 : Int32} {a4 : Int32} (hR_29_3 : R 29 3 = some 5) {o : (Nat → Nat → Int32)} (h : rs_Fi_spread 29 33 I a2 a3 a4 = some o) {Q : Option Value → az_S → Prop} (hQ : Q none (97, o, J, R)) : az_E az_F ex 2 17 0 [.ref 32, .ref 29, .int a2, .int a3, .int a4, .ref 33, .retAddr 0, .retAddr 0, .retAddr 0, .retAddr 0, .retAddr 0] [] (97, I, J, R) Q := by
  unfold rs_Fi_spread at h
  refine az_E.sn 2 (pc' := 5) (L' := [.ref 32, .ref 29, .int a2, .int a3, .int a4, .ref 33, .retAddr 0, .retAddr 0, .retAddr 0, .retAddr 0, .retAddr 0]) (S' := [.int (14256 : Int32), .ref 33]) (σ' := (97, I, J, R)) rfl ?_
  refine az_E.call (d := 1) (k' := 257) (vs := [.ref 33, .int (14256 : Int32)]) (pc' := 8) (S' := []) (Q1 := fun v s => v = none ∧ s = (97, (az_ur I 33 (az_fill 144 (14256 : Int32) (I 33))), J, R)) rfl (az_E.deep (by omega) (re_fillI (r := 33) rfl ⟨rfl, rfl⟩)) (fun v s hq => ?_)
  obtain ⟨rfl, rfl⟩ := hq
  show az_E az_F ex 2 17 8 [.ref 32, .ref 29, .int a2, .int a3, .int a4, .ref 33, .retAddr 0, .retAddr 0, .retAddr 0, .retAddr 0, .retAddr 0] [] (97, (az_ur I 33 (az_fill 144 (14256 : Int32) (I 33))), J, R) _
  refine az_E.sn 3 (pc' := 13) (L' := [.ref 32, .ref 29, .int a2, .int a3, .int a4, .ref 33, .retAddr 0, .retAddr 0, .retAddr 0, .retAddr 0, .retAddr 0]) (S' := [.int (-1 : Int32), .ref 36]) (σ' := (97, (az_ur I 33 (az_fill 144 (14256 : Int32) (I 33))), J, R)) rfl ?_
  refine az_E.call (d := 1) (k' := 257) (vs := [.ref 36, .int (-1 : Int32)]) (pc' := 16) (S' := []) (Q1 := fun v s => v = none ∧ s = (97, (az_ur (az_ur I 33 (az_fill 144 (14256 : Int32) (I 33))) 36 (az_fill 100 (-1 : Int32) ((az_ur I 33 (az_fill 144 (14256 : Int32) (I 33))) 36))), J, R)) rfl (az_E.deep (by omega) (re_fillI (r := 36) rfl ⟨rfl, rfl⟩)) (fun v s hq => ?_)
  obtain ⟨rfl, rfl⟩ := hq
  show az_E az_F ex 2 17 16 [.ref 32, .ref 29, .int a2, .int a3, .int a4, .ref 33, .retAddr 0, .retAddr 0, .retAddr 0, .retAddr 0, .retAddr 0] [] (97, (az_ur (az_ur I 33 (az_fill 144 (14256 : Int32) (I 33))) 36 (az_fill 100 (-1 : Int32) ((az_ur I 33 (az_fill 144 (14256 : Int32) (I 33))) 36))), J, R) _
  refine az_E.sn 9 (pc' := 30) (L' := [.ref 32, .ref 29, .int a2, .int a3, .int a4, .ref 33, .retAddr 0, .retAddr 0, .retAddr 0, .retAddr 0, .retAddr 0]) (S' := [.int (0 : Int32), .int a2, .ref 33]) (σ' := (97, (az_u (az_u (az_ur (az_ur I 33 (az_fill 144 (14256 : Int32) (I 33))) 36 (az_fill 100 (-1 : Int32) ((az_ur I 33 (az_fill 144 (14256 : Int32) (I 33))) 36))) 32 7 (0 : Int32)) 32 8 (0 : Int32)), J, R)) rfl ?_
  by_cases hc_1 : a2 < 0 ∨ 144 ≤ a2.toNatClampNeg
  · rw [if_pos hc_1] at h; cases h
  · rw [if_neg hc_1] at h
    refine az_E.o (o := az_si az_F (97, (az_u (az_u (az_ur (az_ur I 33 (az_fill 144 (14256 : Int32) (I 33))) 36 (az_fill 100 (-1 : Int32) ((az_ur I 33 (az_fill 144 (14256 : Int32) (I 33))) 36))) 32 7 (0 : Int32)) 32 8 (0 : Int32)), J, R) 33 a2 (0 : Int32)) (pc' := 31) (L' := [.ref 32, .ref 29, .int a2, .int a3, .int a4, .ref 33, .retAddr 0, .retAddr 0, .retAddr 0, .retAddr 0, .retAddr 0]) (S' := []) (x := (97, (az_u (az_u (az_u (az_ur (az_ur I 33 (az_fill 144 (14256 : Int32) (I 33))) 36 (az_fill 100 (-1 : Int32) ((az_ur I 33 (az_fill 144 (14256 : Int32) (I 33))) 36))) 32 7 (0 : Int32)) 32 8 (0 : Int32)) 33 a2.toNatClampNeg (0 : Int32)), J, R)) rfl (if_neg hc_1) ?_
    refine az_E.sn 3 (pc' := 34) (L' := [.ref 32, .ref 29, .int a2, .int a3, .int a4, .ref 33, .retAddr 0, .retAddr 0, .retAddr 0, .retAddr 0, .retAddr 0]) (S' := [.int (0 : Int32), .int a2, .ref 32]) (σ' := (97, (az_u (az_u (az_u (az_ur (az_ur I 33 (az_fill 144 (14256 : Int32) (I 33))) 36 (az_fill 100 (-1 : Int32) ((az_ur I 33 (az_fill 144 (14256 : Int32) (I 33))) 36))) 32 7 (0 : Int32)) 32 8 (0 : Int32)) 33 a2.toNatClampNeg (0 : Int32)), J, R)) rfl ?_
    cases hx_3 : rs_Fi_enter (az_u (az_u (az_u (az_ur (az_ur I 33 (az_fill 144 (14256 : Int32) (I 33))) 36 (az_fill 100 (-1 : Int32) ((az_ur I 33 (az_fill 144 (14256 : Int32) (I 33))) 36))) 32 7 (0 : Int32)) 32 8 (0 : Int32)) 33 a2.toNatClampNeg (0 : Int32)) a2 (0 : Int32) with
    | none => rw [hx_3] at h; cases h
    | some I_2 =>
      rw [hx_3] at h
      dsimp only at h
      refine az_E.call (d := 1) (k' := 19) (vs := [.ref 32, .int a2, .int (0 : Int32)]) (pc' := 37) (S' := []) (Q1 := fun v s => v = none ∧ s = (97, I_2, J, R)) rfl (az_E.deep (by omega) (re_Fi_enter (J := J) (R := R)  hx_3 ⟨rfl, rfl⟩)) (fun v s hq => ?_)
      obtain ⟨rfl, rfl⟩ := hq
      show az_E az_F ex 2 17 37 [.ref 32, .ref 29, .int a2, .int a3, .int a4, .ref 33, .retAddr 0, .retAddr 0, .retAddr 0, .retAddr 0, .retAddr 0] [] (97, I_2, J, R) _
      refine az_E.sn 2 (pc' := 40) (L' := [.ref 32, .ref 29, .int a2, .int a3, .int a4, .ref 33, .int (0 : Int32), .retAddr 0, .retAddr 0, .retAddr 0, .retAddr 0]) (S' := []) (σ' := (97, I_2, J, R)) rfl ?_
      exact az_E.forget (L := [.ref 32, .ref 29, .retAddr 0, .int a3, .int a4, .ref 33, .int (0 : Int32), .retAddr 0, .retAddr 0, .retAddr 0, .retAddr 0]) ⟨rfl, rfl, trivial, rfl, rfl, rfl, rfl, trivial, trivial, trivial, trivial, trivial⟩ (re_Fi_spread_40_29_33_5 (I := I_2) (J := J) (R := R) hR_29_3 h hQ)
set_option maxRecDepth 100000 in
set_option maxHeartbeats 4000000 in
theorem re_Fi_minutes_29_5 {ex : az_X} {I : Nat → Nat → Int32} {J : Nat → Nat → Int64} {R : Nat → Nat → Option Nat} {a2 : Int32} {a3 : Int32} (hR_29_3 : R 29 3 = some 5) {o : Int32 × (Nat → Nat → Int32)} (h : rs_Fi_minutes 29 I a2 a3 = some o) {Q : Option Value → az_S → Prop} (hQ : Q (some (.int o.1)) (97, o.2, J, R)) : az_E az_F ex 3 16 0 [.ref 32, .ref 29, .int a2, .int a3] [] (97, I, J, R) Q := by
  unfold rs_Fi_minutes at h
  refine az_E.sn 2 (pc' := 2) (L' := [.ref 32, .ref 29, .int a2, .int a3]) (S' := [.int a3, .int a2]) (σ' := (97, I, J, R)) rfl ?_
  refine az_E.br (c := a2 = a3) (tt := 5) (ff := 7) (L' := [.ref 32, .ref 29, .int a2, .int a3]) (S' := []) (σ' := (97, I, J, R)) rfl (fun hc_1 => ?_) (fun hc_1 => ?_)
  · rw [if_pos hc_1] at h
    refine az_E.sn 1 (pc' := 6) (L' := [.ref 32, .ref 29, .int a2, .int a3]) (S' := [.int (0 : Int32)]) (σ' := (97, I, J, R)) rfl ?_
    have h := Option.some.inj h
    subst h
    exact az_E.ret (v := some (.int (0 : Int32))) (σ' := (97, I, J, R)) rfl hQ
  · rw [if_neg hc_1] at h
    refine az_E.sn 7 (pc' := 16) (L' := [.ref 32, .ref 29, .int a2, .int a3]) (S' := [.ref 33, .int a3, .int (0 : Int32), .int a2, .ref 29, .ref 32]) (σ' := (97, I, J, R)) rfl ?_
    cases hx_3 : rs_Fi_spread 29 33 I a2 (0 : Int32) a3 with
    | none => rw [hx_3] at h; cases h
    | some I_2 =>
      rw [hx_3] at h
      dsimp only at h
      refine az_E.call (d := 2) (k' := 17) (vs := [.ref 32, .ref 29, .int a2, .int (0 : Int32), .int a3, .ref 33]) (pc' := 19) (S' := []) (Q1 := fun v s => v = none ∧ s = (97, I_2, J, R)) rfl (az_E.deep (by omega) (re_Fi_spread_29_33_5 (J := J) (R := R) hR_29_3 hx_3 ⟨rfl, rfl⟩)) (fun v s hq => ?_)
      obtain ⟨rfl, rfl⟩ := hq
      show az_E az_F ex 3 16 19 [.ref 32, .ref 29, .int a2, .int a3] [] (97, I_2, J, R) _
      refine az_E.sn 3 (pc' := 24) (L' := [.ref 32, .ref 29, .int a2, .int a3]) (S' := [.int a3, .ref 33]) (σ' := (97, I_2, J, R)) rfl ?_
      by_cases hc_4 : a3 < 0 ∨ 144 ≤ a3.toNatClampNeg
      · rw [if_pos hc_4] at h; cases h
      · rw [if_neg hc_4] at h
        refine az_E.oi (o := az_ai az_F ex (97, I_2, J, R) 33 a3) (pc' := 25) (L' := [.ref 32, .ref 29, .int a2, .int a3]) (S' := []) (σ' := (97, I_2, J, R)) (x := (I_2 33 a3.toNatClampNeg)) rfl (if_neg hc_4) ?_
        have h := Option.some.inj h
        subst h
        exact az_E.ret (v := some (.int (I_2 33 a3.toNatClampNeg))) (σ' := (97, I_2, J, R)) rfl hQ
set_option maxRecDepth 100000 in
set_option maxHeartbeats 4000000 in
theorem re_X_minutesWith_16 {ex : az_X} {I : Nat → Nat → Int32} {J : Nat → Nat → Int64} {R : Nat → Nat → Option Nat} {a1 : Int32} {a2 : Int32} (hR_3_2 : R 3 2 = some 16) {o : Int32 × (Nat → Nat → Int32)} (h : rs_X_minutesWith 16 I a1 a2 = some o) {Q : Option Value → az_S → Prop} (hQ : Q (some (.int o.1)) (97, o.2, J, (az_u (az_u R 29 2 (some 16)) 29 3 (some 5)))) : az_E az_F ex 5 147 0 [.ref 3, .int a1, .int a2] [] (97, I, J, R) Q := by
  unfold rs_X_minutesWith at h
  refine az_E.sn 3 (pc' := 5) (L' := [.ref 3, .int a1, .int a2]) (S' := [.ref 3, .ref 29]) (σ' := (97, I, J, R)) rfl ?_
  refine az_E.ov (pc' := 8) (L' := [.ref 3, .int a1, .int a2]) (S' := [.ref 29]) (σ' := (97, I, J, R)) (x := .ref 16) rfl (congrArg (fun z => some (va_rf z)) hR_3_2) ?_
  refine az_E.sn 6 (pc' := 20) (L' := [.ref 3, .int a1, .int a2]) (S' := [.int a2, .ref 8, .ref 4, .ref 16, .ref 29]) (σ' := (97, I, J, R)) rfl ?_
  by_cases hc_1 : a2 < 0 ∨ 6 ≤ a2.toNatClampNeg
  · rw [if_pos hc_1] at h; cases h
  · rw [if_neg hc_1] at h
    refine az_E.oi (o := az_ai az_F ex (97, I, J, R) 8 a2) (pc' := 21) (L' := [.ref 3, .int a1, .int a2]) (S' := [.ref 4, .ref 16, .ref 29]) (σ' := (97, I, J, R)) (x := (I 8 a2.toNatClampNeg)) rfl (if_neg hc_1) ?_
    refine az_E.sn 4 (pc' := 29) (L' := [.ref 3, .int a1, .int a2]) (S' := [.int a2, .ref 9, .int (I 8 a2.toNatClampNeg), .ref 4, .ref 16, .ref 29]) (σ' := (97, I, J, R)) rfl ?_
    by_cases hc_2 : a2 < 0 ∨ 6 ≤ a2.toNatClampNeg
    · rw [if_pos hc_2] at h; cases h
    · rw [if_neg hc_2] at h
      refine az_E.oi (o := az_ai az_F ex (97, I, J, R) 9 a2) (pc' := 30) (L' := [.ref 3, .int a1, .int a2]) (S' := [.int (I 8 a2.toNatClampNeg), .ref 4, .ref 16, .ref 29]) (σ' := (97, I, J, R)) (x := (I 9 a2.toNatClampNeg)) rfl (if_neg hc_2) ?_
      refine az_E.sn 4 (pc' := 38) (L' := [.ref 3, .int a1, .int a2]) (S' := [.int a2, .ref 10, .int (I 9 a2.toNatClampNeg), .int (I 8 a2.toNatClampNeg), .ref 4, .ref 16, .ref 29]) (σ' := (97, I, J, R)) rfl ?_
      by_cases hc_3 : a2 < 0 ∨ 6 ≤ a2.toNatClampNeg
      · rw [if_pos hc_3] at h; cases h
      · rw [if_neg hc_3] at h
        refine az_E.oi (o := az_ai az_F ex (97, I, J, R) 10 a2) (pc' := 39) (L' := [.ref 3, .int a1, .int a2]) (S' := [.int (I 9 a2.toNatClampNeg), .int (I 8 a2.toNatClampNeg), .ref 4, .ref 16, .ref 29]) (σ' := (97, I, J, R)) (x := (I 10 a2.toNatClampNeg)) rfl (if_neg hc_3) ?_
        cases hx_5 : rs_Pa_become 29 16 I (I 8 a2.toNatClampNeg) (I 9 a2.toNatClampNeg) (I 10 a2.toNatClampNeg) with
        | none => rw [hx_5] at h; cases h
        | some I_4 =>
          rw [hx_5] at h
          dsimp only at h
          refine az_E.call (d := 4) (k' := 43) (vs := [.ref 29, .ref 16, .ref 4, .int (I 8 a2.toNatClampNeg), .int (I 9 a2.toNatClampNeg), .int (I 10 a2.toNatClampNeg)]) (pc' := 42) (S' := []) (Q1 := fun v s => v = none ∧ s = (97, I_4, J, (az_u (az_u R 29 2 (some 16)) 29 3 (some 5)))) rfl (az_E.deep (by omega) (re_Pa_become_29_16 (J := J) (R := R)  hx_5 ⟨rfl, rfl⟩)) (fun v s hq => ?_)
          obtain ⟨rfl, rfl⟩ := hq
          show az_E az_F ex 5 147 42 [.ref 3, .int a1, .int a2] [] (97, I_4, J, (az_u (az_u R 29 2 (some 16)) 29 3 (some 5))) _
          refine az_E.sn 4 (pc' := 50) (L' := [.ref 3, .int a1, .int a2]) (S' := [.ref 26, .ref 29]) (σ' := (97, I_4, J, (az_u (az_u R 29 2 (some 16)) 29 3 (some 5)))) rfl ?_
          cases hx_7 : rs_Pa_slowTo 29 26 I_4 with
          | none => rw [hx_7] at h; cases h
          | some I_6 =>
            rw [hx_7] at h
            dsimp only at h
            refine az_E.call (d := 4) (k' := 51) (vs := [.ref 29, .ref 26]) (pc' := 53) (S' := []) (Q1 := fun v s => v = none ∧ s = (97, I_6, J, (az_u (az_u R 29 2 (some 16)) 29 3 (some 5)))) rfl (az_E.deep (by omega) (re_Pa_slowTo_29_26 (J := J) (R := (az_u (az_u R 29 2 (some 16)) 29 3 (some 5)))  hx_7 ⟨rfl, rfl⟩)) (fun v s hq => ?_)
            obtain ⟨rfl, rfl⟩ := hq
            show az_E az_F ex 5 147 53 [.ref 3, .int a1, .int a2] [] (97, I_6, J, (az_u (az_u R 29 2 (some 16)) 29 3 (some 5))) _
            refine az_E.sn 5 (pc' := 62) (L' := [.ref 3, .int a1, .int a2]) (S' := [.int a1, .ref 29, .ref 32]) (σ' := (97, I_6, J, (az_u (az_u R 29 2 (some 16)) 29 3 (some 5)))) rfl ?_
            refine az_E.call (d := 4) (k' := 135) (vs := [.int a1]) (pc' := 65) (S' := [.ref 29, .ref 32]) rfl ?_ (fun _ _ hq => hq)
            show az_E az_F ex 4 135 0 [.int a1] [] (97, I_6, J, (az_u (az_u R 29 2 (some 16)) 29 3 (some 5))) _
            refine az_E.sn 2 (pc' := 4) (L' := [.int a1]) (S' := [.int (1000 : Int32), .int a1]) (σ' := (97, I_6, J, (az_u (az_u R 29 2 (some 16)) 29 3 (some 5)))) rfl ?_
            have hd_8 : ¬ ((1000 : Int32) = 0) := by decide
            refine az_E.dv (c := (1000 : Int32) = 0) (pc' := 5) (L' := [.int a1]) (S' := [.int (a1 / (1000 : Int32))]) (σ' := (97, I_6, J, (az_u (az_u R 29 2 (some 16)) 29 3 (some 5)))) rfl hd_8 ?_
            refine az_E.ret (v := some (.int (a1 / (1000 : Int32)))) (σ' := (97, I_6, J, (az_u (az_u R 29 2 (some 16)) 29 3 (some 5)))) rfl ?_
            show az_E az_F ex 5 147 65 [.ref 3, .int a1, .int a2] [.int (a1 / (1000 : Int32)), .ref 29, .ref 32] (97, I_6, J, (az_u (az_u R 29 2 (some 16)) 29 3 (some 5))) _
            refine az_E.sn 1 (pc' := 66) (L' := [.ref 3, .int a1, .int a2]) (S' := [.int a1, .int (a1 / (1000 : Int32)), .ref 29, .ref 32]) (σ' := (97, I_6, J, (az_u (az_u R 29 2 (some 16)) 29 3 (some 5)))) rfl ?_
            refine az_E.call (d := 4) (k' := 136) (vs := [.int a1]) (pc' := 69) (S' := [.int (a1 / (1000 : Int32)), .ref 29, .ref 32]) rfl ?_ (fun _ _ hq => hq)
            show az_E az_F ex 4 136 0 [.int a1] [] (97, I_6, J, (az_u (az_u R 29 2 (some 16)) 29 3 (some 5))) _
            refine az_E.sn 2 (pc' := 4) (L' := [.int a1]) (S' := [.int (1000 : Int32), .int a1]) (σ' := (97, I_6, J, (az_u (az_u R 29 2 (some 16)) 29 3 (some 5)))) rfl ?_
            have hd_9 : ¬ ((1000 : Int32) = 0) := by decide
            refine az_E.dv (c := (1000 : Int32) = 0) (pc' := 5) (L' := [.int a1]) (S' := [.int (a1 - a1 / (1000 : Int32) * (1000 : Int32))]) (σ' := (97, I_6, J, (az_u (az_u R 29 2 (some 16)) 29 3 (some 5)))) rfl hd_9 ?_
            refine az_E.ret (v := some (.int (a1 - a1 / (1000 : Int32) * (1000 : Int32)))) (σ' := (97, I_6, J, (az_u (az_u R 29 2 (some 16)) 29 3 (some 5)))) rfl ?_
            show az_E az_F ex 5 147 69 [.ref 3, .int a1, .int a2] [.int (a1 - a1 / (1000 : Int32) * (1000 : Int32)), .int (a1 / (1000 : Int32)), .ref 29, .ref 32] (97, I_6, J, (az_u (az_u R 29 2 (some 16)) 29 3 (some 5))) _
            cases hx_12 : rs_Fi_minutes 29 I_6 (a1 / (1000 : Int32)) (a1 - a1 / (1000 : Int32) * (1000 : Int32)) with
            | none => rw [hx_12] at h; cases h
            | some o =>
              rw [hx_12] at h
              obtain ⟨x_10, I_11⟩ := o
              dsimp only at h
              refine az_E.call (d := 4) (k' := 16) (vs := [.ref 32, .ref 29, .int (a1 / (1000 : Int32)), .int (a1 - a1 / (1000 : Int32) * (1000 : Int32))]) (pc' := 72) (S' := []) (Q1 := fun v s => v = some (.int x_10) ∧ s = (97, I_11, J, (az_u (az_u R 29 2 (some 16)) 29 3 (some 5)))) rfl (az_E.deep (by omega) (re_Fi_minutes_29_5 (J := J) (R := (az_u (az_u R 29 2 (some 16)) 29 3 (some 5))) rfl hx_12 ⟨rfl, rfl⟩)) (fun v s hq => ?_)
              obtain ⟨rfl, rfl⟩ := hq
              show az_E az_F ex 5 147 72 [.ref 3, .int a1, .int a2] [.int x_10] (97, I_11, J, (az_u (az_u R 29 2 (some 16)) 29 3 (some 5))) _
              have h := Option.some.inj h
              subst h
              exact az_E.ret (v := some (.int x_10)) (σ' := (97, I_11, J, (az_u (az_u R 29 2 (some 16)) 29 3 (some 5)))) rfl hQ
set_option maxRecDepth 100000 in
set_option maxHeartbeats 4000000 in
theorem re_X_together_16_21 {ex : az_X} {I : Nat → Nat → Int32} {J : Nat → Nat → Int64} {R : Nat → Nat → Option Nat} {a1 : Int32} {a2 : Int32} (hR_3_2 : R 3 2 = some 16) (hR_3_3 : R 3 3 = some 21) {o : Int32 × (Nat → Nat → Int32)} (h : rs_X_together 21 16 I a1 a2 = some o) {Q : Option Value → az_S → Prop} (hQ : ∀ R' : Nat → Nat → Option Nat, R' 3 2 = some 16 → R' 3 3 = some 21 → Q (some (.int o.1)) (97, o.2, J, R')) : az_E az_F ex 6 95 0 [.ref 3, .int a1, .int a2] [] (97, I, J, R) Q := by
  unfold rs_X_together at h
  refine az_E.sn 1 (pc' := 1) (L' := [.ref 3, .int a1, .int a2]) (S' := [.int a1]) (σ' := (97, I, J, R)) rfl ?_
  cases hx_2 : rs_X_isFromTo a1 with
  | none => rw [hx_2] at h; cases h
  | some x_1 =>
    rw [hx_2] at h
    dsimp only at h
    refine az_E.call (d := 5) (k' := 134) (vs := [.int a1]) (pc' := 4) (S' := []) (Q1 := fun v s => v = some (.int x_1) ∧ s = (97, I, J, R)) rfl (az_E.deep (by omega) (re_X_isFromTo (J := J) (R := R)  hx_2 ⟨rfl, rfl⟩)) (fun v s hq => ?_)
    obtain ⟨rfl, rfl⟩ := hq
    show az_E az_F ex 6 95 4 [.ref 3, .int a1, .int a2] [.int x_1] (97, I, J, R) _
    refine az_E.br (c := x_1 = 0) (tt := 15) (ff := 7) (L' := [.ref 3, .int a1, .int a2]) (S' := []) (σ' := (97, I, J, R)) rfl (fun hc_3 => ?_) (fun hc_3 => ?_)
    · rw [if_pos hc_3] at h
      refine az_E.sn 1 (pc' := 16) (L' := [.ref 3, .int a1, .int a2]) (S' := [.int (-1 : Int32)]) (σ' := (97, I, J, R)) rfl ?_
      have h := Option.some.inj h
      subst h
      exact az_E.ret (v := some (.int (-1 : Int32))) (σ' := (97, I, J, R)) rfl (hQ _ hR_3_2 hR_3_3)
    · rw [if_neg hc_3] at h
      refine az_E.sn 2 (pc' := 9) (L' := [.ref 3, .int a1, .int a2]) (S' := [.int a2, .ref 3]) (σ' := (97, I, J, R)) rfl ?_
      cases hx_5 : rs_X_areTwoWalkers I a2 with
      | none => rw [hx_5] at h; cases h
      | some x_4 =>
        rw [hx_5] at h
        dsimp only at h
        refine az_E.call (d := 5) (k' := 140) (vs := [.ref 3, .int a2]) (pc' := 12) (S' := []) (Q1 := fun v s => v = some (.int x_4) ∧ s = (97, I, J, R)) rfl (az_E.deep (by omega) (re_X_areTwoWalkers (J := J) (R := R)  hx_5 ⟨rfl, rfl⟩)) (fun v s hq => ?_)
        obtain ⟨rfl, rfl⟩ := hq
        show az_E az_F ex 6 95 12 [.ref 3, .int a1, .int a2] [.int x_4] (97, I, J, R) _
        refine az_E.br (c := x_4 = 0) (tt := 15) (ff := 17) (L' := [.ref 3, .int a1, .int a2]) (S' := []) (σ' := (97, I, J, R)) rfl (fun hc_6 => ?_) (fun hc_6 => ?_)
        · rw [if_pos hc_6] at h
          refine az_E.sn 1 (pc' := 16) (L' := [.ref 3, .int a1, .int a2]) (S' := [.int (-1 : Int32)]) (σ' := (97, I, J, R)) rfl ?_
          have h := Option.some.inj h
          subst h
          exact az_E.ret (v := some (.int (-1 : Int32))) (σ' := (97, I, J, R)) rfl (hQ _ hR_3_2 hR_3_3)
        · rw [if_neg hc_6] at h
          refine az_E.sn 3 (pc' := 21) (L' := [.ref 3, .int a1, .int a2]) (S' := [.int (10 : Int32), .int a2, .ref 3]) (σ' := (97, I, J, R)) rfl ?_
          have hd_7 : ¬ ((10 : Int32) = 0) := by decide
          refine az_E.dv (c := (10 : Int32) = 0) (pc' := 22) (L' := [.ref 3, .int a1, .int a2]) (S' := [.int (a2 / (10 : Int32)), .ref 3]) (σ' := (97, I, J, R)) rfl hd_7 ?_
          cases hx_9 : rs_X_setPace 16 I (a2 / (10 : Int32)) with
          | none => rw [hx_9] at h; cases h
          | some I_8 =>
            rw [hx_9] at h
            dsimp only at h
            refine az_E.call (d := 5) (k' := 144) (vs := [.ref 3, .int (a2 / (10 : Int32))]) (pc' := 25) (S' := []) (Q1 := fun v s => v = none ∧ s = (97, I_8, J, (az_u (az_u R 26 2 (some 16)) 26 3 (some 5)))) rfl (az_E.deep (by omega) (re_X_setPace_16 (J := J) (R := R) hR_3_2 hx_9 ⟨rfl, rfl⟩)) (fun v s hq => ?_)
            obtain ⟨rfl, rfl⟩ := hq
            show az_E az_F ex 6 95 25 [.ref 3, .int a1, .int a2] [] (97, I_8, J, (az_u (az_u R 26 2 (some 16)) 26 3 (some 5))) _
            refine az_E.sn 4 (pc' := 30) (L' := [.ref 3, .int a1, .int a2]) (S' := [.int (10 : Int32), .int a2, .int a1, .ref 3]) (σ' := (97, I_8, J, (az_u (az_u R 26 2 (some 16)) 26 3 (some 5)))) rfl ?_
            have hd_10 : ¬ ((10 : Int32) = 0) := by decide
            refine az_E.dv (c := (10 : Int32) = 0) (pc' := 31) (L' := [.ref 3, .int a1, .int a2]) (S' := [.int (a2 - a2 / (10 : Int32) * (10 : Int32)), .int a1, .ref 3]) (σ' := (97, I_8, J, (az_u (az_u R 26 2 (some 16)) 26 3 (some 5)))) rfl hd_10 ?_
            cases hx_13 : rs_X_minutesWith 16 I_8 a1 (a2 - a2 / (10 : Int32) * (10 : Int32)) with
            | none => rw [hx_13] at h; cases h
            | some o =>
              rw [hx_13] at h
              obtain ⟨x_11, I_12⟩ := o
              dsimp only at h
              refine az_E.call (d := 5) (k' := 147) (vs := [.ref 3, .int a1, .int (a2 - a2 / (10 : Int32) * (10 : Int32))]) (pc' := 34) (S' := []) (Q1 := fun v s => v = some (.int x_11) ∧ s = (97, I_12, J, (az_u (az_u (az_u (az_u R 26 2 (some 16)) 26 3 (some 5)) 29 2 (some 16)) 29 3 (some 5)))) rfl (az_E.deep (by omega) (re_X_minutesWith_16 (J := J) (R := (az_u (az_u R 26 2 (some 16)) 26 3 (some 5))) hR_3_2 hx_13 ⟨rfl, rfl⟩)) (fun v s hq => ?_)
              obtain ⟨rfl, rfl⟩ := hq
              show az_E az_F ex 6 95 34 [.ref 3, .int a1, .int a2] [.int x_11] (97, I_12, J, (az_u (az_u (az_u (az_u R 26 2 (some 16)) 26 3 (some 5)) 29 2 (some 16)) 29 3 (some 5))) _
              have h := Option.some.inj h
              subst h
              exact az_E.ret (v := some (.int x_11)) (σ' := (97, I_12, J, (az_u (az_u (az_u (az_u R 26 2 (some 16)) 26 3 (some 5)) 29 2 (some 16)) 29 3 (some 5)))) rfl (hQ _ hR_3_2 hR_3_3)
set_option maxRecDepth 100000 in
set_option maxHeartbeats 4000000 in
theorem re_M_isAb {ex : az_X} {I : Nat → Nat → Int32} {J : Nat → Nat → Int64} {R : Nat → Nat → Option Nat} {a1 : Int32} {o : Int32} (h : rs_M_isAb I a1 = some o) {Q : Option Value → az_S → Prop} (hQ : Q (some (.int o)) (97, I, J, R)) : az_E az_F ex 2 165 0 [.ref 73, .int a1] [] (97, I, J, R) Q := by
  unfold rs_M_isAb at h
  refine az_E.sn 1 (pc' := 1) (L' := [.ref 73, .int a1]) (S' := [.int a1]) (σ' := (97, I, J, R)) rfl ?_
  refine az_E.br (c := a1 < 0) (tt := 43) (ff := 4) (L' := [.ref 73, .int a1]) (S' := []) (σ' := (97, I, J, R)) rfl (fun hc_1 => ?_) (fun hc_1 => ?_)
  · rw [if_pos hc_1] at h
    refine az_E.sn 1 (pc' := 44) (L' := [.ref 73, .int a1]) (S' := [.int (0 : Int32)]) (σ' := (97, I, J, R)) rfl ?_
    have h := Option.some.inj h
    subst h
    exact az_E.ret (v := some (.int (0 : Int32))) (σ' := (97, I, J, R)) rfl hQ
  · rw [if_neg hc_1] at h
    refine az_E.sn 3 (pc' := 8) (L' := [.ref 73, .int a1]) (S' := [.int (10 : Int32), .int a1, .ref 73]) (σ' := (97, I, J, R)) rfl ?_
    have hd_2 : ¬ ((10 : Int32) = 0) := by decide
    refine az_E.dv (c := (10 : Int32) = 0) (pc' := 9) (L' := [.ref 73, .int a1]) (S' := [.int (a1 / (10 : Int32)), .ref 73]) (σ' := (97, I, J, R)) rfl hd_2 ?_
    refine az_E.sn 1 (pc' := 10) (L' := [.ref 73, .int a1]) (S' := [.long (a1 / (10 : Int32)).toInt64, .ref 73]) (σ' := (97, I, J, R)) rfl ?_
    refine az_E.call (d := 1) (k' := 162) (vs := [.ref 73, .long (a1 / (10 : Int32)).toInt64]) (pc' := 13) (S' := []) rfl ?_ (fun _ _ hq => hq)
    show az_E az_F ex 1 162 0 [.ref 73, .long (a1 / (10 : Int32)).toInt64, .retAddr 0] [] (97, I, J, R) _
    refine az_E.sn 7 (pc' := 9) (L' := [.ref 73, .long (a1 / (10 : Int32)).toInt64, .retAddr 0]) (S' := [.long ((I 73 7) - (1 : Int32)).toInt64, .long (0 : Int64), .long (a1 / (10 : Int32)).toInt64]) (σ' := (97, I, J, R)) rfl ?_
    refine az_E.call (d := 0) (k' := 154) (vs := [.long (a1 / (10 : Int32)).toInt64, .long (0 : Int64), .long ((I 73 7) - (1 : Int32)).toInt64]) (pc' := 12) (S' := []) rfl ?_ (fun _ _ hq => hq)
    show az_E az_F ex 0 154 0 [.long (a1 / (10 : Int32)).toInt64, .retAddr 0, .long (0 : Int64), .retAddr 0, .long ((I 73 7) - (1 : Int32)).toInt64, .retAddr 0] [] (97, I, J, R) _
    refine az_E.sn 3 (pc' := 3) (L' := [.long (a1 / (10 : Int32)).toInt64, .retAddr 0, .long (0 : Int64), .retAddr 0, .long ((I 73 7) - (1 : Int32)).toInt64, .retAddr 0]) (S' := [.int (lg_cmp (a1 / (10 : Int32)).toInt64 (0 : Int64))]) (σ' := (97, I, J, R)) rfl ?_
    refine az_E.br (c := (lg_cmp (a1 / (10 : Int32)).toInt64 (0 : Int64)) < 0) (tt := 17) (ff := 6) (L' := [.long (a1 / (10 : Int32)).toInt64, .retAddr 0, .long (0 : Int64), .retAddr 0, .long ((I 73 7) - (1 : Int32)).toInt64, .retAddr 0]) (S' := []) (σ' := (97, I, J, R)) rfl (fun hc_3 => ?_) (fun hc_3 => ?_)
    · rw [if_pos hc_3] at h
      refine az_E.sn 1 (pc' := 18) (L' := [.long (a1 / (10 : Int32)).toInt64, .retAddr 0, .long (0 : Int64), .retAddr 0, .long ((I 73 7) - (1 : Int32)).toInt64, .retAddr 0]) (S' := [.int (0 : Int32)]) (σ' := (97, I, J, R)) rfl ?_
      refine az_E.ret (v := some (.int (0 : Int32))) (σ' := (97, I, J, R)) rfl ?_
      show az_E az_F ex 1 162 12 [.ref 73, .long (a1 / (10 : Int32)).toInt64, .retAddr 0] [.int (0 : Int32)] (97, I, J, R) _
      refine az_E.ret (v := some (.int (0 : Int32))) (σ' := (97, I, J, R)) rfl ?_
      show az_E az_F ex 2 165 13 [.ref 73, .int a1] [.int (0 : Int32)] (97, I, J, R) _
      refine az_E.br (c := (0 : Int32) = 0) (tt := 43) (ff := 16) (L' := [.ref 73, .int a1]) (S' := []) (σ' := (97, I, J, R)) rfl (fun _ => ?_) (fun hn => absurd (by decide) hn)
      refine az_E.sn 1 (pc' := 44) (L' := [.ref 73, .int a1]) (S' := [.int (0 : Int32)]) (σ' := (97, I, J, R)) rfl ?_
      have h := Option.some.inj h
      subst h
      exact az_E.ret (v := some (.int (0 : Int32))) (σ' := (97, I, J, R)) rfl hQ
    · rw [if_neg hc_3] at h
      refine az_E.sn 3 (pc' := 10) (L' := [.long (a1 / (10 : Int32)).toInt64, .retAddr 0, .long (0 : Int64), .retAddr 0, .long ((I 73 7) - (1 : Int32)).toInt64, .retAddr 0]) (S' := [.int (lg_cmp (a1 / (10 : Int32)).toInt64 ((I 73 7) - (1 : Int32)).toInt64)]) (σ' := (97, I, J, R)) rfl ?_
      refine az_E.br (c := 0 < (lg_cmp (a1 / (10 : Int32)).toInt64 ((I 73 7) - (1 : Int32)).toInt64)) (tt := 17) (ff := 13) (L' := [.long (a1 / (10 : Int32)).toInt64, .retAddr 0, .long (0 : Int64), .retAddr 0, .long ((I 73 7) - (1 : Int32)).toInt64, .retAddr 0]) (S' := []) (σ' := (97, I, J, R)) rfl (fun hc_4 => ?_) (fun hc_4 => ?_)
      · rw [if_pos hc_4] at h
        refine az_E.sn 1 (pc' := 18) (L' := [.long (a1 / (10 : Int32)).toInt64, .retAddr 0, .long (0 : Int64), .retAddr 0, .long ((I 73 7) - (1 : Int32)).toInt64, .retAddr 0]) (S' := [.int (0 : Int32)]) (σ' := (97, I, J, R)) rfl ?_
        refine az_E.ret (v := some (.int (0 : Int32))) (σ' := (97, I, J, R)) rfl ?_
        show az_E az_F ex 1 162 12 [.ref 73, .long (a1 / (10 : Int32)).toInt64, .retAddr 0] [.int (0 : Int32)] (97, I, J, R) _
        refine az_E.ret (v := some (.int (0 : Int32))) (σ' := (97, I, J, R)) rfl ?_
        show az_E az_F ex 2 165 13 [.ref 73, .int a1] [.int (0 : Int32)] (97, I, J, R) _
        refine az_E.br (c := (0 : Int32) = 0) (tt := 43) (ff := 16) (L' := [.ref 73, .int a1]) (S' := []) (σ' := (97, I, J, R)) rfl (fun _ => ?_) (fun hn => absurd (by decide) hn)
        refine az_E.sn 1 (pc' := 44) (L' := [.ref 73, .int a1]) (S' := [.int (0 : Int32)]) (σ' := (97, I, J, R)) rfl ?_
        have h := Option.some.inj h
        subst h
        exact az_E.ret (v := some (.int (0 : Int32))) (σ' := (97, I, J, R)) rfl hQ
      · rw [if_neg hc_4] at h
        refine az_E.sn 2 (pc' := 18) (L' := [.long (a1 / (10 : Int32)).toInt64, .retAddr 0, .long (0 : Int64), .retAddr 0, .long ((I 73 7) - (1 : Int32)).toInt64, .retAddr 0]) (S' := [.int (1 : Int32)]) (σ' := (97, I, J, R)) rfl ?_
        refine az_E.ret (v := some (.int (1 : Int32))) (σ' := (97, I, J, R)) rfl ?_
        show az_E az_F ex 1 162 12 [.ref 73, .long (a1 / (10 : Int32)).toInt64, .retAddr 0] [.int (1 : Int32)] (97, I, J, R) _
        refine az_E.ret (v := some (.int (1 : Int32))) (σ' := (97, I, J, R)) rfl ?_
        show az_E az_F ex 2 165 13 [.ref 73, .int a1] [.int (1 : Int32)] (97, I, J, R) _
        refine az_E.br (c := (1 : Int32) = 0) (tt := 43) (ff := 16) (L' := [.ref 73, .int a1]) (S' := []) (σ' := (97, I, J, R)) rfl (fun hn => absurd hn (by decide)) (fun _ => ?_)
        refine az_E.sn 3 (pc' := 20) (L' := [.ref 73, .int a1]) (S' := [.int (10 : Int32), .int a1, .ref 73]) (σ' := (97, I, J, R)) rfl ?_
        have hd_5 : ¬ ((10 : Int32) = 0) := by decide
        refine az_E.dv (c := (10 : Int32) = 0) (pc' := 21) (L' := [.ref 73, .int a1]) (S' := [.int (a1 - a1 / (10 : Int32) * (10 : Int32)), .ref 73]) (σ' := (97, I, J, R)) rfl hd_5 ?_
        refine az_E.sn 1 (pc' := 22) (L' := [.ref 73, .int a1]) (S' := [.long (a1 - a1 / (10 : Int32) * (10 : Int32)).toInt64, .ref 73]) (σ' := (97, I, J, R)) rfl ?_
        refine az_E.call (d := 1) (k' := 162) (vs := [.ref 73, .long (a1 - a1 / (10 : Int32) * (10 : Int32)).toInt64]) (pc' := 25) (S' := []) rfl ?_ (fun _ _ hq => hq)
        show az_E az_F ex 1 162 0 [.ref 73, .long (a1 - a1 / (10 : Int32) * (10 : Int32)).toInt64, .retAddr 0] [] (97, I, J, R) _
        refine az_E.sn 7 (pc' := 9) (L' := [.ref 73, .long (a1 - a1 / (10 : Int32) * (10 : Int32)).toInt64, .retAddr 0]) (S' := [.long ((I 73 7) - (1 : Int32)).toInt64, .long (0 : Int64), .long (a1 - a1 / (10 : Int32) * (10 : Int32)).toInt64]) (σ' := (97, I, J, R)) rfl ?_
        refine az_E.call (d := 0) (k' := 154) (vs := [.long (a1 - a1 / (10 : Int32) * (10 : Int32)).toInt64, .long (0 : Int64), .long ((I 73 7) - (1 : Int32)).toInt64]) (pc' := 12) (S' := []) rfl ?_ (fun _ _ hq => hq)
        show az_E az_F ex 0 154 0 [.long (a1 - a1 / (10 : Int32) * (10 : Int32)).toInt64, .retAddr 0, .long (0 : Int64), .retAddr 0, .long ((I 73 7) - (1 : Int32)).toInt64, .retAddr 0] [] (97, I, J, R) _
        refine az_E.sn 3 (pc' := 3) (L' := [.long (a1 - a1 / (10 : Int32) * (10 : Int32)).toInt64, .retAddr 0, .long (0 : Int64), .retAddr 0, .long ((I 73 7) - (1 : Int32)).toInt64, .retAddr 0]) (S' := [.int (lg_cmp (a1 - a1 / (10 : Int32) * (10 : Int32)).toInt64 (0 : Int64))]) (σ' := (97, I, J, R)) rfl ?_
        refine az_E.br (c := (lg_cmp (a1 - a1 / (10 : Int32) * (10 : Int32)).toInt64 (0 : Int64)) < 0) (tt := 17) (ff := 6) (L' := [.long (a1 - a1 / (10 : Int32) * (10 : Int32)).toInt64, .retAddr 0, .long (0 : Int64), .retAddr 0, .long ((I 73 7) - (1 : Int32)).toInt64, .retAddr 0]) (S' := []) (σ' := (97, I, J, R)) rfl (fun hc_6 => ?_) (fun hc_6 => ?_)
        · rw [if_pos hc_6] at h
          refine az_E.sn 1 (pc' := 18) (L' := [.long (a1 - a1 / (10 : Int32) * (10 : Int32)).toInt64, .retAddr 0, .long (0 : Int64), .retAddr 0, .long ((I 73 7) - (1 : Int32)).toInt64, .retAddr 0]) (S' := [.int (0 : Int32)]) (σ' := (97, I, J, R)) rfl ?_
          refine az_E.ret (v := some (.int (0 : Int32))) (σ' := (97, I, J, R)) rfl ?_
          show az_E az_F ex 1 162 12 [.ref 73, .long (a1 - a1 / (10 : Int32) * (10 : Int32)).toInt64, .retAddr 0] [.int (0 : Int32)] (97, I, J, R) _
          refine az_E.ret (v := some (.int (0 : Int32))) (σ' := (97, I, J, R)) rfl ?_
          show az_E az_F ex 2 165 25 [.ref 73, .int a1] [.int (0 : Int32)] (97, I, J, R) _
          refine az_E.br (c := (0 : Int32) = 0) (tt := 43) (ff := 28) (L' := [.ref 73, .int a1]) (S' := []) (σ' := (97, I, J, R)) rfl (fun _ => ?_) (fun hn => absurd (by decide) hn)
          refine az_E.sn 1 (pc' := 44) (L' := [.ref 73, .int a1]) (S' := [.int (0 : Int32)]) (σ' := (97, I, J, R)) rfl ?_
          have h := Option.some.inj h
          subst h
          exact az_E.ret (v := some (.int (0 : Int32))) (σ' := (97, I, J, R)) rfl hQ
        · rw [if_neg hc_6] at h
          refine az_E.sn 3 (pc' := 10) (L' := [.long (a1 - a1 / (10 : Int32) * (10 : Int32)).toInt64, .retAddr 0, .long (0 : Int64), .retAddr 0, .long ((I 73 7) - (1 : Int32)).toInt64, .retAddr 0]) (S' := [.int (lg_cmp (a1 - a1 / (10 : Int32) * (10 : Int32)).toInt64 ((I 73 7) - (1 : Int32)).toInt64)]) (σ' := (97, I, J, R)) rfl ?_
          refine az_E.br (c := 0 < (lg_cmp (a1 - a1 / (10 : Int32) * (10 : Int32)).toInt64 ((I 73 7) - (1 : Int32)).toInt64)) (tt := 17) (ff := 13) (L' := [.long (a1 - a1 / (10 : Int32) * (10 : Int32)).toInt64, .retAddr 0, .long (0 : Int64), .retAddr 0, .long ((I 73 7) - (1 : Int32)).toInt64, .retAddr 0]) (S' := []) (σ' := (97, I, J, R)) rfl (fun hc_7 => ?_) (fun hc_7 => ?_)
          · rw [if_pos hc_7] at h
            refine az_E.sn 1 (pc' := 18) (L' := [.long (a1 - a1 / (10 : Int32) * (10 : Int32)).toInt64, .retAddr 0, .long (0 : Int64), .retAddr 0, .long ((I 73 7) - (1 : Int32)).toInt64, .retAddr 0]) (S' := [.int (0 : Int32)]) (σ' := (97, I, J, R)) rfl ?_
            refine az_E.ret (v := some (.int (0 : Int32))) (σ' := (97, I, J, R)) rfl ?_
            show az_E az_F ex 1 162 12 [.ref 73, .long (a1 - a1 / (10 : Int32) * (10 : Int32)).toInt64, .retAddr 0] [.int (0 : Int32)] (97, I, J, R) _
            refine az_E.ret (v := some (.int (0 : Int32))) (σ' := (97, I, J, R)) rfl ?_
            show az_E az_F ex 2 165 25 [.ref 73, .int a1] [.int (0 : Int32)] (97, I, J, R) _
            refine az_E.br (c := (0 : Int32) = 0) (tt := 43) (ff := 28) (L' := [.ref 73, .int a1]) (S' := []) (σ' := (97, I, J, R)) rfl (fun _ => ?_) (fun hn => absurd (by decide) hn)
            refine az_E.sn 1 (pc' := 44) (L' := [.ref 73, .int a1]) (S' := [.int (0 : Int32)]) (σ' := (97, I, J, R)) rfl ?_
            have h := Option.some.inj h
            subst h
            exact az_E.ret (v := some (.int (0 : Int32))) (σ' := (97, I, J, R)) rfl hQ
          · rw [if_neg hc_7] at h
            refine az_E.sn 2 (pc' := 18) (L' := [.long (a1 - a1 / (10 : Int32) * (10 : Int32)).toInt64, .retAddr 0, .long (0 : Int64), .retAddr 0, .long ((I 73 7) - (1 : Int32)).toInt64, .retAddr 0]) (S' := [.int (1 : Int32)]) (σ' := (97, I, J, R)) rfl ?_
            refine az_E.ret (v := some (.int (1 : Int32))) (σ' := (97, I, J, R)) rfl ?_
            show az_E az_F ex 1 162 12 [.ref 73, .long (a1 - a1 / (10 : Int32) * (10 : Int32)).toInt64, .retAddr 0] [.int (1 : Int32)] (97, I, J, R) _
            refine az_E.ret (v := some (.int (1 : Int32))) (σ' := (97, I, J, R)) rfl ?_
            show az_E az_F ex 2 165 25 [.ref 73, .int a1] [.int (1 : Int32)] (97, I, J, R) _
            refine az_E.br (c := (1 : Int32) = 0) (tt := 43) (ff := 28) (L' := [.ref 73, .int a1]) (S' := []) (σ' := (97, I, J, R)) rfl (fun hn => absurd hn (by decide)) (fun _ => ?_)
            refine az_E.sn 2 (pc' := 31) (L' := [.ref 73, .int a1]) (S' := [.int (10 : Int32), .int a1]) (σ' := (97, I, J, R)) rfl ?_
            have hd_8 : ¬ ((10 : Int32) = 0) := by decide
            refine az_E.dv (c := (10 : Int32) = 0) (pc' := 32) (L' := [.ref 73, .int a1]) (S' := [.int (a1 / (10 : Int32))]) (σ' := (97, I, J, R)) rfl hd_8 ?_
            refine az_E.sn 2 (pc' := 35) (L' := [.ref 73, .int a1]) (S' := [.int (10 : Int32), .int a1, .int (a1 / (10 : Int32))]) (σ' := (97, I, J, R)) rfl ?_
            have hd_9 : ¬ ((10 : Int32) = 0) := by decide
            refine az_E.dv (c := (10 : Int32) = 0) (pc' := 36) (L' := [.ref 73, .int a1]) (S' := [.int (a1 - a1 / (10 : Int32) * (10 : Int32)), .int (a1 / (10 : Int32))]) (σ' := (97, I, J, R)) rfl hd_9 ?_
            refine az_E.br (c := (a1 / (10 : Int32)) = (a1 - a1 / (10 : Int32) * (10 : Int32))) (tt := 43) (ff := 39) (L' := [.ref 73, .int a1]) (S' := []) (σ' := (97, I, J, R)) rfl (fun hc_10 => ?_) (fun hc_10 => ?_)
            · rw [if_pos hc_10] at h
              refine az_E.sn 1 (pc' := 44) (L' := [.ref 73, .int a1]) (S' := [.int (0 : Int32)]) (σ' := (97, I, J, R)) rfl ?_
              have h := Option.some.inj h
              subst h
              exact az_E.ret (v := some (.int (0 : Int32))) (σ' := (97, I, J, R)) rfl hQ
            · rw [if_neg hc_10] at h
              refine az_E.sn 2 (pc' := 44) (L' := [.ref 73, .int a1]) (S' := [.int (1 : Int32)]) (σ' := (97, I, J, R)) rfl ?_
              have h := Option.some.inj h
              subst h
              exact az_E.ret (v := some (.int (1 : Int32))) (σ' := (97, I, J, R)) rfl hQ
set_option maxRecDepth 100000 in
set_option maxHeartbeats 4000000 in
theorem re_M_togetherOf_97 {ex : az_X} {I : Nat → Nat → Int32} {J : Nat → Nat → Int64} {R : Nat → Nat → Option Nat} {v1 : Int32} {x : Int32 × (Nat → Nat → Int32)} (h : rs_M_togetherOf_97 I v1 = some x) {Q : Option Value → az_S → Prop} (hQ : Q (some (.int x.1)) (97, x.2, J, R)) : az_E az_F ex 125 202 97 [.ref 73, .int v1, .retAddr 0, .retAddr 0, .retAddr 0] [] (97, I, J, R) Q := by
  unfold rs_M_togetherOf_97 at h
  refine az_E.sn 3 (pc' := 102) (L' := [.ref 73, .int v1, .retAddr 0, .retAddr 0, .retAddr 0]) (S' := [.int (1000 : Int32), .int v1, .ref 73]) (σ' := (97, I, J, R)) rfl ?_
  have hd_7 : ¬ ((1000 : Int32) = 0) := by decide
  refine az_E.dv (c := (1000 : Int32) = 0) (pc' := 103) (L' := [.ref 73, .int v1, .retAddr 0, .retAddr 0, .retAddr 0]) (S' := [.int (v1 / (1000 : Int32)), .ref 73]) (σ' := (97, I, J, R)) rfl hd_7 ?_
  refine az_E.sn 2 (pc' := 107) (L' := [.ref 73, .int v1, .retAddr 0, .retAddr 0, .retAddr 0]) (S' := [.int (1000 : Int32), .int v1, .int (v1 / (1000 : Int32)), .ref 73]) (σ' := (97, I, J, R)) rfl ?_
  have hd_8 : ¬ ((1000 : Int32) = 0) := by decide
  refine az_E.dv (c := (1000 : Int32) = 0) (pc' := 108) (L' := [.ref 73, .int v1, .retAddr 0, .retAddr 0, .retAddr 0]) (S' := [.int (v1 - v1 / (1000 : Int32) * (1000 : Int32)), .int (v1 / (1000 : Int32)), .ref 73]) (σ' := (97, I, J, R)) rfl hd_8 ?_
  cases hx_11 : rs_M_between I (v1 / (1000 : Int32)) (v1 - v1 / (1000 : Int32) * (1000 : Int32)) with
  | none => rw [hx_11] at h; cases h
  | some o =>
    rw [hx_11] at h
    obtain ⟨x_9, I_10⟩ := o
    dsimp only at h
    refine az_E.call (d := 124) (k' := 195) (vs := [.ref 73, .int (v1 / (1000 : Int32)), .int (v1 - v1 / (1000 : Int32) * (1000 : Int32))]) (pc' := 111) (S' := []) (Q1 := fun v s => v = some (.int x_9) ∧ s = (97, I_10, J, R)) rfl (az_E.deep (by omega) (re_M_between (J := J) (R := R)  hx_11 ⟨rfl, rfl⟩)) (fun v s hq => ?_)
    obtain ⟨rfl, rfl⟩ := hq
    show az_E az_F ex 125 202 111 [.ref 73, .int v1, .retAddr 0, .retAddr 0, .retAddr 0] [.int x_9] (97, I_10, J, R) _
    have h := Option.some.inj h
    subst h
    exact az_E.ret (v := some (.int x_9)) (σ' := (97, I_10, J, R)) rfl hQ
set_option maxRecDepth 100000 in
set_option maxHeartbeats 4000000 in
theorem re_M_togetherOf_90 {ex : az_X} {I : Nat → Nat → Int32} {J : Nat → Nat → Int64} {R : Nat → Nat → Option Nat} {v1 : Int32} {v4 : Int32} {s0 : Int32} {s1 : Int32} {x : ((Int32 × (Nat → Nat → Int32)) ⊕ (Int32 × (Nat → Nat → Int32)))} (h : rs_M_togetherOf_90 I v1 v4 s0 s1 = some x) {Q : Option Value → az_S → Prop} (hQ : Sum.elim (fun s => az_E az_F ex 125 202 43 [.ref 73, .int v1, .retAddr 0, .retAddr 0, .int s.1] [] (97, s.2, J, R) Q) (fun x => Q (some (.int x.1)) (97, x.2, J, R)) x) : az_E az_F ex 125 202 90 [.ref 73, .int v1, .retAddr 0, .retAddr 0, .int v4] [.int s0, .int s1, .ref 83] (97, I, J, R) Q := by
  unfold rs_M_togetherOf_90 at h
  by_cases hc_16 : s1 < 0 ∨ 100 ≤ s1.toNatClampNeg
  · rw [if_pos hc_16] at h; cases h
  · rw [if_neg hc_16] at h
    refine az_E.o (o := az_si az_F (97, I, J, R) 83 s1 s0) (pc' := 91) (L' := [.ref 73, .int v1, .retAddr 0, .retAddr 0, .int v4]) (S' := []) (x := (97, (az_u I 83 s1.toNatClampNeg s0), J, R)) rfl (if_neg hc_16) ?_
    refine az_E.sn 2 (pc' := 43) (L' := [.ref 73, .int v1, .retAddr 0, .retAddr 0, .int (v4 + (1 : Int32))]) (S' := []) (σ' := (97, (az_u I 83 s1.toNatClampNeg s0), J, R)) rfl ?_
    have h := Option.some.inj h
    subst h
    exact az_E.forget (L := [.ref 73, .int v1, .retAddr 0, .retAddr 0, .int (v4 + (1 : Int32))]) ⟨rfl, rfl, trivial, trivial, rfl, trivial⟩ hQ
set_option maxRecDepth 100000 in
set_option maxHeartbeats 4000000 in
theorem re_M_togetherOf_43_b {ex : az_X} {I : Nat → Nat → Int32} {J : Nat → Nat → Int64} {R : Nat → Nat → Option Nat} {v1 : Int32} {v4 : Int32} {x : ((Int32 × (Nat → Nat → Int32)) ⊕ (Int32 × (Nat → Nat → Int32)))} (h : rs_M_togetherOf_43_b v1 v4 I = some x) {Q : Option Value → az_S → Prop} (hQ : Sum.elim (fun s => az_E az_F ex 125 202 43 [.ref 73, .int v1, .retAddr 0, .retAddr 0, .int s.1] [] (97, s.2, J, R) Q) (fun x => Q (some (.int x.1)) (97, x.2, J, R)) x) : az_E az_F ex 125 202 43 [.ref 73, .int v1, .retAddr 0, .retAddr 0, .int v4] [] (97, I, J, R) Q := by
  unfold rs_M_togetherOf_43_b at h
  refine az_E.sn 2 (pc' := 47) (L' := [.ref 73, .int v1, .retAddr 0, .retAddr 0, .int v4]) (S' := [.int (100 : Int32), .int v4]) (σ' := (97, I, J, R)) rfl ?_
  refine az_E.br (c := (100 : Int32) ≤ v4) (tt := 97) (ff := 50) (L' := [.ref 73, .int v1, .retAddr 0, .retAddr 0, .int v4]) (S' := []) (σ' := (97, I, J, R)) rfl (fun hc_6 => ?_) (fun hc_6 => ?_)
  · rw [if_pos hc_6] at h
    obtain ⟨x, hx, rfl⟩ := Option.map_eq_some_iff.mp h
    exact az_E.forget (L := [.ref 73, .int v1, .retAddr 0, .retAddr 0, .retAddr 0]) ⟨rfl, rfl, trivial, trivial, trivial, trivial⟩ (re_M_togetherOf_97 (I := I) (J := J) (R := R)  hx hQ)
  · rw [if_neg hc_6] at h
    refine az_E.sn 6 (pc' := 62) (L' := [.ref 73, .int v1, .retAddr 0, .retAddr 0, .int v4]) (S' := [.int v4, .ref 86, .int v4, .ref 83]) (σ' := (97, I, J, R)) rfl ?_
    by_cases hc_12 : v4 < 0 ∨ 100 ≤ v4.toNatClampNeg
    · rw [if_pos hc_12] at h; cases h
    · rw [if_neg hc_12] at h
      refine az_E.oi (o := az_ai az_F ex (97, I, J, R) 86 v4) (pc' := 63) (L' := [.ref 73, .int v1, .retAddr 0, .retAddr 0, .int v4]) (S' := [.int v4, .ref 83]) (σ' := (97, I, J, R)) (x := (I 86 v4.toNatClampNeg)) rfl (if_neg hc_12) ?_
      refine az_E.sn 3 (pc' := 69) (L' := [.ref 73, .int v1, .retAddr 0, .retAddr 0, .int v4]) (S' := [.int v4, .ref 83, .int (I 86 v4.toNatClampNeg), .int v4, .ref 83]) (σ' := (97, I, J, R)) rfl ?_
      by_cases hc_13 : v4 < 0 ∨ 100 ≤ v4.toNatClampNeg
      · rw [if_pos hc_13] at h; cases h
      · rw [if_neg hc_13] at h
        refine az_E.oi (o := az_ai az_F ex (97, I, J, R) 83 v4) (pc' := 70) (L' := [.ref 73, .int v1, .retAddr 0, .retAddr 0, .int v4]) (S' := [.int (I 86 v4.toNatClampNeg), .int v4, .ref 83]) (σ' := (97, I, J, R)) (x := (I 83 v4.toNatClampNeg)) rfl (if_neg hc_13) ?_
        refine az_E.br (c := (I 86 v4.toNatClampNeg) ≤ (I 83 v4.toNatClampNeg)) (tt := 83) (ff := 73) (L' := [.ref 73, .int v1, .retAddr 0, .retAddr 0, .int v4]) (S' := [.int v4, .ref 83]) (σ' := (97, I, J, R)) rfl (fun hc_14 => ?_) (fun hc_14 => ?_)
        · rw [if_pos hc_14] at h
          refine az_E.sn 3 (pc' := 89) (L' := [.ref 73, .int v1, .retAddr 0, .retAddr 0, .int v4]) (S' := [.int v4, .ref 83, .int v4, .ref 83]) (σ' := (97, I, J, R)) rfl ?_
          by_cases hc_15 : v4 < 0 ∨ 100 ≤ v4.toNatClampNeg
          · rw [if_pos hc_15] at h; cases h
          · rw [if_neg hc_15] at h
            refine az_E.oi (o := az_ai az_F ex (97, I, J, R) 83 v4) (pc' := 90) (L' := [.ref 73, .int v1, .retAddr 0, .retAddr 0, .int v4]) (S' := [.int v4, .ref 83]) (σ' := (97, I, J, R)) (x := (I 83 v4.toNatClampNeg)) rfl (if_neg hc_15) ?_
            exact az_E.forget (L := [.ref 73, .int v1, .retAddr 0, .retAddr 0, .int v4]) ⟨rfl, rfl, trivial, trivial, rfl, trivial⟩ (re_M_togetherOf_90 (I := I) (J := J) (R := R)  h hQ)
        · rw [if_neg hc_14] at h
          refine az_E.sn 3 (pc' := 79) (L' := [.ref 73, .int v1, .retAddr 0, .retAddr 0, .int v4]) (S' := [.int v4, .ref 86, .int v4, .ref 83]) (σ' := (97, I, J, R)) rfl ?_
          by_cases hc_17 : v4 < 0 ∨ 100 ≤ v4.toNatClampNeg
          · rw [if_pos hc_17] at h; cases h
          · rw [if_neg hc_17] at h
            refine az_E.oi (o := az_ai az_F ex (97, I, J, R) 86 v4) (pc' := 80) (L' := [.ref 73, .int v1, .retAddr 0, .retAddr 0, .int v4]) (S' := [.int v4, .ref 83]) (σ' := (97, I, J, R)) (x := (I 86 v4.toNatClampNeg)) rfl (if_neg hc_17) ?_
            refine az_E.sn 1 (pc' := 90) (L' := [.ref 73, .int v1, .retAddr 0, .retAddr 0, .int v4]) (S' := [.int (I 86 v4.toNatClampNeg), .int v4, .ref 83]) (σ' := (97, I, J, R)) rfl ?_
            exact az_E.forget (L := [.ref 73, .int v1, .retAddr 0, .retAddr 0, .int v4]) ⟨rfl, rfl, trivial, trivial, rfl, trivial⟩ (re_M_togetherOf_90 (I := I) (J := J) (R := R)  h hQ)
set_option maxRecDepth 100000 in
set_option maxHeartbeats 4000000 in
theorem re_M_togetherOf_43 {ex : az_X} {I : Nat → Nat → Int32} {J : Nat → Nat → Int64} {R : Nat → Nat → Option Nat} {v1 : Int32} {v4 : Int32} {x : Int32 × (Nat → Nat → Int32)} (h : rs_M_togetherOf_43 I v1 v4 = some x) {Q : Option Value → az_S → Prop} (hQ : Q (some (.int x.1)) (97, x.2, J, R)) : az_E az_F ex 125 202 43 [.ref 73, .int v1, .retAddr 0, .retAddr 0, .int v4] [] (97, I, J, R) Q := by
  unfold rs_M_togetherOf_43 at h
  refine az_lp_E (G := fun s => az_E az_F ex 125 202 43 [.ref 73, .int v1, .retAddr 0, .retAddr 0, .int s.1] [] (97, s.2, J, R) Q) (H := fun x => Q (some (.int x.1)) (97, x.2, J, R)) (fun s o hb ho => ?_) _ _ _ h hQ
  exact re_M_togetherOf_43_b  hb ho
set_option maxRecDepth 100000 in
set_option maxHeartbeats 4000000 in
theorem re_M_togetherOf_35 {ex : az_X} {I : Nat → Nat → Int32} {J : Nat → Nat → Int64} {R : Nat → Nat → Option Nat} {v1 : Int32} {v3 : Int32} {x : Int32 × (Nat → Nat → Int32)} (h : rs_M_togetherOf_35 I v1 v3 = some x) {Q : Option Value → az_S → Prop} (hQ : Q (some (.int x.1)) (97, x.2, J, R)) : az_E az_F ex 125 202 35 [.ref 73, .int v1, .retAddr 0, .int v3, .retAddr 0] [] (97, I, J, R) Q := by
  unfold rs_M_togetherOf_35 at h
  refine az_E.sn 2 (pc' := 37) (L' := [.ref 73, .int v1, .retAddr 0, .int v3, .retAddr 0]) (S' := [.int v3, .ref 73]) (σ' := (97, I, J, R)) rfl ?_
  cases hx_5 : rs_M_asksFor I v3 with
  | none => rw [hx_5] at h; cases h
  | some I_4 =>
    rw [hx_5] at h
    dsimp only at h
    refine az_E.call (d := 124) (k' := 190) (vs := [.ref 73, .int v3]) (pc' := 40) (S' := []) (Q1 := fun v s => v = none ∧ s = (97, I_4, J, R)) rfl (az_E.deep (by omega) (re_M_asksFor (J := J) (R := R)  hx_5 ⟨rfl, rfl⟩)) (fun v s hq => ?_)
    obtain ⟨rfl, rfl⟩ := hq
    show az_E az_F ex 125 202 40 [.ref 73, .int v1, .retAddr 0, .int v3, .retAddr 0] [] (97, I_4, J, R) _
    refine az_E.sn 2 (pc' := 43) (L' := [.ref 73, .int v1, .retAddr 0, .int v3, .int (0 : Int32)]) (S' := []) (σ' := (97, I_4, J, R)) rfl ?_
    exact az_E.forget (L := [.ref 73, .int v1, .retAddr 0, .retAddr 0, .int (0 : Int32)]) ⟨rfl, rfl, trivial, trivial, rfl, trivial⟩ (re_M_togetherOf_43 (I := I_4) (J := J) (R := R)  h hQ)
set_option maxRecDepth 100000 in
set_option maxHeartbeats 4000000 in
theorem re_M_togetherOf_8_b {ex : az_X} {I : Nat → Nat → Int32} {J : Nat → Nat → Int64} {R : Nat → Nat → Option Nat} {v1 : Int32} {v3 : Int32} {v4 : Int32} {x : ((Int32 × (Nat → Nat → Int32)) ⊕ (Int32 × (Nat → Nat → Int32)))} (h : rs_M_togetherOf_8_b v1 v3 v4 I = some x) {Q : Option Value → az_S → Prop} (hQ : Sum.elim (fun s => az_E az_F ex 125 202 8 [.ref 73, .int v1, .retAddr 0, .int v3, .int s.1] [] (97, s.2, J, R) Q) (fun x => Q (some (.int x.1)) (97, x.2, J, R)) x) : az_E az_F ex 125 202 8 [.ref 73, .int v1, .retAddr 0, .int v3, .int v4] [] (97, I, J, R) Q := by
  unfold rs_M_togetherOf_8_b at h
  refine az_E.sn 2 (pc' := 12) (L' := [.ref 73, .int v1, .retAddr 0, .int v3, .int v4]) (S' := [.int (100 : Int32), .int v4]) (σ' := (97, I, J, R)) rfl ?_
  refine az_E.br (c := (100 : Int32) ≤ v4) (tt := 35) (ff := 15) (L' := [.ref 73, .int v1, .retAddr 0, .int v3, .int v4]) (S' := []) (σ' := (97, I, J, R)) rfl (fun hc_3 => ?_) (fun hc_3 => ?_)
  · rw [if_pos hc_3] at h
    obtain ⟨x, hx, rfl⟩ := Option.map_eq_some_iff.mp h
    exact az_E.forget (L := [.ref 73, .int v1, .retAddr 0, .int v3, .retAddr 0]) ⟨rfl, rfl, trivial, rfl, trivial, trivial⟩ (re_M_togetherOf_35 (I := I) (J := J) (R := R)  hx hQ)
  · rw [if_neg hc_3] at h
    refine az_E.sn 6 (pc' := 27) (L' := [.ref 73, .int v1, .retAddr 0, .int v3, .int v4]) (S' := [.int v4, .ref 83, .int v4, .ref 86]) (σ' := (97, I, J, R)) rfl ?_
    by_cases hc_18 : v4 < 0 ∨ 100 ≤ v4.toNatClampNeg
    · rw [if_pos hc_18] at h; cases h
    · rw [if_neg hc_18] at h
      refine az_E.oi (o := az_ai az_F ex (97, I, J, R) 83 v4) (pc' := 28) (L' := [.ref 73, .int v1, .retAddr 0, .int v3, .int v4]) (S' := [.int v4, .ref 86]) (σ' := (97, I, J, R)) (x := (I 83 v4.toNatClampNeg)) rfl (if_neg hc_18) ?_
      by_cases hc_19 : v4 < 0 ∨ 100 ≤ v4.toNatClampNeg
      · rw [if_pos hc_19] at h; cases h
      · rw [if_neg hc_19] at h
        refine az_E.o (o := az_si az_F (97, I, J, R) 86 v4 (I 83 v4.toNatClampNeg)) (pc' := 29) (L' := [.ref 73, .int v1, .retAddr 0, .int v3, .int v4]) (S' := []) (x := (97, (az_u I 86 v4.toNatClampNeg (I 83 v4.toNatClampNeg)), J, R)) rfl (if_neg hc_19) ?_
        refine az_E.sn 2 (pc' := 8) (L' := [.ref 73, .int v1, .retAddr 0, .int v3, .int (v4 + (1 : Int32))]) (S' := []) (σ' := (97, (az_u I 86 v4.toNatClampNeg (I 83 v4.toNatClampNeg)), J, R)) rfl ?_
        have h := Option.some.inj h
        subst h
        exact az_E.forget (L := [.ref 73, .int v1, .retAddr 0, .int v3, .int (v4 + (1 : Int32))]) ⟨rfl, rfl, trivial, rfl, rfl, trivial⟩ hQ
set_option maxRecDepth 100000 in
set_option maxHeartbeats 4000000 in
theorem re_M_togetherOf_8 {ex : az_X} {I : Nat → Nat → Int32} {J : Nat → Nat → Int64} {R : Nat → Nat → Option Nat} {v1 : Int32} {v3 : Int32} {v4 : Int32} {x : Int32 × (Nat → Nat → Int32)} (h : rs_M_togetherOf_8 I v1 v3 v4 = some x) {Q : Option Value → az_S → Prop} (hQ : Q (some (.int x.1)) (97, x.2, J, R)) : az_E az_F ex 125 202 8 [.ref 73, .int v1, .retAddr 0, .int v3, .int v4] [] (97, I, J, R) Q := by
  unfold rs_M_togetherOf_8 at h
  refine az_lp_E (G := fun s => az_E az_F ex 125 202 8 [.ref 73, .int v1, .retAddr 0, .int v3, .int s.1] [] (97, s.2, J, R) Q) (H := fun x => Q (some (.int x.1)) (97, x.2, J, R)) (fun s o hb ho => ?_) _ _ _ h hQ
  exact re_M_togetherOf_8_b  hb ho
set_option maxRecDepth 100000 in
set_option maxHeartbeats 4000000 in
theorem re_M_togetherOf {ex : az_X} {I : Nat → Nat → Int32} {J : Nat → Nat → Int64} {R : Nat → Nat → Option Nat} {a1 : Int32} {a2 : Int32} {a3 : Int32} {o : Int32 × (Nat → Nat → Int32)} (h : rs_M_togetherOf I a1 a2 a3 = some o) {Q : Option Value → az_S → Prop} (hQ : Q (some (.int o.1)) (97, o.2, J, R)) : az_E az_F ex 125 202 0 [.ref 73, .int a1, .int a2, .int a3, .retAddr 0] [] (97, I, J, R) Q := by
  unfold rs_M_togetherOf at h
  refine az_E.sn 2 (pc' := 2) (L' := [.ref 73, .int a1, .int a2, .int a3, .retAddr 0]) (S' := [.int a2, .ref 73]) (σ' := (97, I, J, R)) rfl ?_
  cases hx_2 : rs_M_asksFor I a2 with
  | none => rw [hx_2] at h; cases h
  | some I_1 =>
    rw [hx_2] at h
    dsimp only at h
    refine az_E.call (d := 124) (k' := 190) (vs := [.ref 73, .int a2]) (pc' := 5) (S' := []) (Q1 := fun v s => v = none ∧ s = (97, I_1, J, R)) rfl (az_E.deep (by omega) (re_M_asksFor (J := J) (R := R)  hx_2 ⟨rfl, rfl⟩)) (fun v s hq => ?_)
    obtain ⟨rfl, rfl⟩ := hq
    show az_E az_F ex 125 202 5 [.ref 73, .int a1, .int a2, .int a3, .retAddr 0] [] (97, I_1, J, R) _
    refine az_E.sn 2 (pc' := 8) (L' := [.ref 73, .int a1, .int a2, .int a3, .int (0 : Int32)]) (S' := []) (σ' := (97, I_1, J, R)) rfl ?_
    exact az_E.forget (L := [.ref 73, .int a1, .retAddr 0, .int a3, .int (0 : Int32)]) ⟨rfl, rfl, trivial, rfl, rfl, trivial⟩ (re_M_togetherOf_8 (I := I_1) (J := J) (R := R)  h hQ)
set_option maxRecDepth 100000 in
set_option maxHeartbeats 4000000 in
theorem re_M_together {ex : az_X} {I : Nat → Nat → Int32} {J : Nat → Nat → Int64} {R : Nat → Nat → Option Nat} {a1 : Int32} {a2 : Int32} {o : Int32 × (Nat → Nat → Int32)} (h : rs_M_together I a1 a2 = some o) {Q : Option Value → az_S → Prop} (hQ : Q (some (.int o.1)) (97, o.2, J, R)) : az_E az_F ex 126 203 0 [.ref 73, .int a1, .int a2] [] (97, I, J, R) Q := by
  unfold rs_M_together at h
  refine az_E.sn 1 (pc' := 1) (L' := [.ref 73, .int a1, .int a2]) (S' := [.int a1]) (σ' := (97, I, J, R)) rfl ?_
  cases hx_2 : rs_M_isFt a1 with
  | none => rw [hx_2] at h; cases h
  | some x_1 =>
    rw [hx_2] at h
    dsimp only at h
    refine az_E.call (d := 125) (k' := 163) (vs := [.int a1]) (pc' := 4) (S' := []) (Q1 := fun v s => v = some (.int x_1) ∧ s = (97, I, J, R)) rfl (az_E.deep (by omega) (re_M_isFt (J := J) (R := R)  hx_2 ⟨rfl, rfl⟩)) (fun v s hq => ?_)
    obtain ⟨rfl, rfl⟩ := hq
    show az_E az_F ex 126 203 4 [.ref 73, .int a1, .int a2] [.int x_1] (97, I, J, R) _
    refine az_E.br (c := x_1 = 0) (tt := 31) (ff := 7) (L' := [.ref 73, .int a1, .int a2]) (S' := []) (σ' := (97, I, J, R)) rfl (fun hc_3 => ?_) (fun hc_3 => ?_)
    · rw [if_pos hc_3] at h
      refine az_E.sn 1 (pc' := 32) (L' := [.ref 73, .int a1, .int a2]) (S' := [.int (-1 : Int32)]) (σ' := (97, I, J, R)) rfl ?_
      have h := Option.some.inj h
      subst h
      exact az_E.ret (v := some (.int (-1 : Int32))) (σ' := (97, I, J, R)) rfl hQ
    · rw [if_neg hc_3] at h
      refine az_E.sn 2 (pc' := 9) (L' := [.ref 73, .int a1, .int a2]) (S' := [.int a2, .ref 73]) (σ' := (97, I, J, R)) rfl ?_
      cases hx_5 : rs_M_isAb I a2 with
      | none => rw [hx_5] at h; cases h
      | some x_4 =>
        rw [hx_5] at h
        dsimp only at h
        refine az_E.call (d := 125) (k' := 165) (vs := [.ref 73, .int a2]) (pc' := 12) (S' := []) (Q1 := fun v s => v = some (.int x_4) ∧ s = (97, I, J, R)) rfl (az_E.deep (by omega) (re_M_isAb (J := J) (R := R)  hx_5 ⟨rfl, rfl⟩)) (fun v s hq => ?_)
        obtain ⟨rfl, rfl⟩ := hq
        show az_E az_F ex 126 203 12 [.ref 73, .int a1, .int a2] [.int x_4] (97, I, J, R) _
        refine az_E.br (c := x_4 = 0) (tt := 31) (ff := 15) (L' := [.ref 73, .int a1, .int a2]) (S' := []) (σ' := (97, I, J, R)) rfl (fun hc_6 => ?_) (fun hc_6 => ?_)
        · rw [if_pos hc_6] at h
          refine az_E.sn 1 (pc' := 32) (L' := [.ref 73, .int a1, .int a2]) (S' := [.int (-1 : Int32)]) (σ' := (97, I, J, R)) rfl ?_
          have h := Option.some.inj h
          subst h
          exact az_E.ret (v := some (.int (-1 : Int32))) (σ' := (97, I, J, R)) rfl hQ
        · rw [if_neg hc_6] at h
          refine az_E.sn 4 (pc' := 20) (L' := [.ref 73, .int a1, .int a2]) (S' := [.int (10 : Int32), .int a2, .int a1, .ref 73]) (σ' := (97, I, J, R)) rfl ?_
          have hd_7 : ¬ ((10 : Int32) = 0) := by decide
          refine az_E.dv (c := (10 : Int32) = 0) (pc' := 21) (L' := [.ref 73, .int a1, .int a2]) (S' := [.int (a2 / (10 : Int32)), .int a1, .ref 73]) (σ' := (97, I, J, R)) rfl hd_7 ?_
          refine az_E.sn 2 (pc' := 24) (L' := [.ref 73, .int a1, .int a2]) (S' := [.int (10 : Int32), .int a2, .int (a2 / (10 : Int32)), .int a1, .ref 73]) (σ' := (97, I, J, R)) rfl ?_
          have hd_8 : ¬ ((10 : Int32) = 0) := by decide
          refine az_E.dv (c := (10 : Int32) = 0) (pc' := 25) (L' := [.ref 73, .int a1, .int a2]) (S' := [.int (a2 - a2 / (10 : Int32) * (10 : Int32)), .int (a2 / (10 : Int32)), .int a1, .ref 73]) (σ' := (97, I, J, R)) rfl hd_8 ?_
          cases hx_11 : rs_M_togetherOf I a1 (a2 / (10 : Int32)) (a2 - a2 / (10 : Int32) * (10 : Int32)) with
          | none => rw [hx_11] at h; cases h
          | some o =>
            rw [hx_11] at h
            obtain ⟨x_9, I_10⟩ := o
            dsimp only at h
            refine az_E.call (d := 125) (k' := 202) (vs := [.ref 73, .int a1, .int (a2 / (10 : Int32)), .int (a2 - a2 / (10 : Int32) * (10 : Int32))]) (pc' := 28) (S' := []) (Q1 := fun v s => v = some (.int x_9) ∧ s = (97, I_10, J, R)) rfl (az_E.deep (by omega) (re_M_togetherOf (J := J) (R := R)  hx_11 ⟨rfl, rfl⟩)) (fun v s hq => ?_)
            obtain ⟨rfl, rfl⟩ := hq
            show az_E az_F ex 126 203 28 [.ref 73, .int a1, .int a2] [.int x_9] (97, I_10, J, R) _
            refine az_E.sn 1 (pc' := 32) (L' := [.ref 73, .int a1, .int a2]) (S' := [.int x_9]) (σ' := (97, I_10, J, R)) rfl ?_
            have h := Option.some.inj h
            subst h
            exact az_E.ret (v := some (.int x_9)) (σ' := (97, I_10, J, R)) rfl hQ
set_option maxRecDepth 100000 in
set_option maxHeartbeats 4000000 in
theorem re_X_withWhom_31_b_16_21 {ex : az_X} {I : Nat → Nat → Int32} {J : Nat → Nat → Int64} {R : Nat → Nat → Option Nat} {v1 : Int32} {v2 : Int32} {v3 : Int32} {v4 : Int32} {v5 : Int32} (hR_3_2 : R 3 2 = some 16) (hR_3_3 : R 3 3 = some 21) {x : ((Int32 × Int32 × Int32 × (Nat → Nat → Int32)) ⊕ (Int32 × (Nat → Nat → Int32)))} (h : rs_X_withWhom_31_b 21 16 v1 v2 v3 v4 v5 I = some x) {Q : Option Value → az_S → Prop} (hQ : Sum.elim (fun s => ∀ R : Nat → Nat → Option Nat, R 3 2 = some 16 → R 3 3 = some 21 → az_E az_F ex 6 96 31 [.ref 3, .int v1, .int v2, .int s.1, .int s.2.1, .int s.2.2.1, .retAddr 0] [] (97, s.2.2.2, J, R) Q) (fun x => ∀ R' : Nat → Nat → Option Nat, R' 3 2 = some 16 → R' 3 3 = some 21 → Q (some (.int x.1)) (97, x.2, J, R')) x) : az_E az_F ex 6 96 31 [.ref 3, .int v1, .int v2, .int v3, .int v4, .int v5, .retAddr 0] [] (97, I, J, R) Q := by
  unfold rs_X_withWhom_31_b at h
  refine az_E.sn 4 (pc' := 40) (L' := [.ref 3, .int v1, .int v2, .int v3, .int v4, .int v5, .retAddr 0]) (S' := [.int (I 4 9), .int v5]) (σ' := (97, I, J, R)) rfl ?_
  refine az_E.br (c := (I 4 9) ≤ v5) (tt := 84) (ff := 43) (L' := [.ref 3, .int v1, .int v2, .int v3, .int v4, .int v5, .retAddr 0]) (S' := []) (σ' := (97, I, J, R)) rfl (fun hc_8 => ?_) (fun hc_8 => ?_)
  · rw [if_pos hc_8] at h
    refine az_E.sn 1 (pc' := 85) (L' := [.ref 3, .int v1, .int v2, .int v3, .int v4, .int v5, .retAddr 0]) (S' := [.int v3]) (σ' := (97, I, J, R)) rfl ?_
    have h := Option.some.inj h
    subst h
    try simp only [Sum.elim_inl, Sum.elim_inr] at hQ
    exact az_E.ret (v := some (.int v3)) (σ' := (97, I, J, R)) rfl (hQ _ hR_3_2 hR_3_3)
  · rw [if_neg hc_8] at h
    refine az_E.sn 2 (pc' := 46) (L' := [.ref 3, .int v1, .int v2, .int v3, .int v4, .int v5, .retAddr 0]) (S' := [.int v2, .int v5]) (σ' := (97, I, J, R)) rfl ?_
    refine az_E.br (c := v5 = v2) (tt := 78) (ff := 49) (L' := [.ref 3, .int v1, .int v2, .int v3, .int v4, .int v5, .retAddr 0]) (S' := []) (σ' := (97, I, J, R)) rfl (fun hc_9 => ?_) (fun hc_9 => ?_)
    · rw [if_pos hc_9] at h
      refine az_E.sn 2 (pc' := 31) (L' := [.ref 3, .int v1, .int v2, .int v3, .int v4, .int (v5 + (1 : Int32)), .retAddr 0]) (S' := []) (σ' := (97, I, J, R)) rfl ?_
      have h := Option.some.inj h
      subst h
      simp only [Sum.elim_inl, Sum.elim_inr] at hQ
      exact az_E.forget (L := [.ref 3, .int v1, .int v2, .int v3, .int v4, .int (v5 + (1 : Int32)), .retAddr 0]) ⟨rfl, rfl, rfl, rfl, rfl, rfl, trivial, trivial⟩ (hQ R hR_3_2 hR_3_3)
    · rw [if_neg hc_9] at h
      refine az_E.sn 3 (pc' := 53) (L' := [.ref 3, .int v1, .int v2, .int v3, .int v4, .int v5, .retAddr 0]) (S' := [.int v5, .int v1, .ref 3]) (σ' := (97, I, J, R)) rfl ?_
      cases hx_12 : rs_X_minutesWith 16 I v1 v5 with
      | none => rw [hx_12] at h; cases h
      | some o =>
        rw [hx_12] at h
        obtain ⟨x_10, I_11⟩ := o
        dsimp only at h
        refine az_E.call (d := 5) (k' := 147) (vs := [.ref 3, .int v1, .int v5]) (pc' := 56) (S' := []) (Q1 := fun v s => v = some (.int x_10) ∧ s = (97, I_11, J, (az_u (az_u R 29 2 (some 16)) 29 3 (some 5)))) rfl (az_E.deep (by omega) (re_X_minutesWith_16 (J := J) (R := R) hR_3_2 hx_12 ⟨rfl, rfl⟩)) (fun v s hq => ?_)
        obtain ⟨rfl, rfl⟩ := hq
        show az_E az_F ex 6 96 56 [.ref 3, .int v1, .int v2, .int v3, .int v4, .int v5, .retAddr 0] [.int x_10] (97, I_11, J, (az_u (az_u R 29 2 (some 16)) 29 3 (some 5))) _
        refine az_E.sn 3 (pc' := 61) (L' := [.ref 3, .int v1, .int v2, .int v3, .int v4, .int v5, .int x_10]) (S' := [.int (-2 : Int32), .int v3]) (σ' := (97, I_11, J, (az_u (az_u R 29 2 (some 16)) 29 3 (some 5)))) rfl ?_
        refine az_E.br (c := v3 = (-2 : Int32)) (tt := 71) (ff := 64) (L' := [.ref 3, .int v1, .int v2, .int v3, .int v4, .int v5, .int x_10]) (S' := []) (σ' := (97, I_11, J, (az_u (az_u R 29 2 (some 16)) 29 3 (some 5)))) rfl (fun hc_13 => ?_) (fun hc_13 => ?_)
        · rw [if_pos hc_13] at h
          refine az_E.sn 6 (pc' := 31) (L' := [.ref 3, .int v1, .int v2, .int v5, .int x_10, .int (v5 + (1 : Int32)), .int x_10]) (S' := []) (σ' := (97, I_11, J, (az_u (az_u R 29 2 (some 16)) 29 3 (some 5)))) rfl ?_
          have h := Option.some.inj h
          subst h
          simp only [Sum.elim_inl, Sum.elim_inr] at hQ
          exact az_E.forget (L := [.ref 3, .int v1, .int v2, .int v5, .int x_10, .int (v5 + (1 : Int32)), .retAddr 0]) ⟨rfl, rfl, rfl, rfl, rfl, rfl, trivial, trivial⟩ (hQ (az_u (az_u R 29 2 (some 16)) 29 3 (some 5)) hR_3_2 hR_3_3)
        · rw [if_neg hc_13] at h
          refine az_E.sn 2 (pc' := 68) (L' := [.ref 3, .int v1, .int v2, .int v3, .int v4, .int v5, .int x_10]) (S' := [.int v4, .int x_10]) (σ' := (97, I_11, J, (az_u (az_u R 29 2 (some 16)) 29 3 (some 5)))) rfl ?_
          refine az_E.br (c := v4 ≤ x_10) (tt := 78) (ff := 71) (L' := [.ref 3, .int v1, .int v2, .int v3, .int v4, .int v5, .int x_10]) (S' := []) (σ' := (97, I_11, J, (az_u (az_u R 29 2 (some 16)) 29 3 (some 5)))) rfl (fun hc_14 => ?_) (fun hc_14 => ?_)
          · rw [if_pos hc_14] at h
            refine az_E.sn 2 (pc' := 31) (L' := [.ref 3, .int v1, .int v2, .int v3, .int v4, .int (v5 + (1 : Int32)), .int x_10]) (S' := []) (σ' := (97, I_11, J, (az_u (az_u R 29 2 (some 16)) 29 3 (some 5)))) rfl ?_
            have h := Option.some.inj h
            subst h
            simp only [Sum.elim_inl, Sum.elim_inr] at hQ
            exact az_E.forget (L := [.ref 3, .int v1, .int v2, .int v3, .int v4, .int (v5 + (1 : Int32)), .retAddr 0]) ⟨rfl, rfl, rfl, rfl, rfl, rfl, trivial, trivial⟩ (hQ (az_u (az_u R 29 2 (some 16)) 29 3 (some 5)) hR_3_2 hR_3_3)
          · rw [if_neg hc_14] at h
            refine az_E.sn 6 (pc' := 31) (L' := [.ref 3, .int v1, .int v2, .int v5, .int x_10, .int (v5 + (1 : Int32)), .int x_10]) (S' := []) (σ' := (97, I_11, J, (az_u (az_u R 29 2 (some 16)) 29 3 (some 5)))) rfl ?_
            have h := Option.some.inj h
            subst h
            simp only [Sum.elim_inl, Sum.elim_inr] at hQ
            exact az_E.forget (L := [.ref 3, .int v1, .int v2, .int v5, .int x_10, .int (v5 + (1 : Int32)), .retAddr 0]) ⟨rfl, rfl, rfl, rfl, rfl, rfl, trivial, trivial⟩ (hQ (az_u (az_u R 29 2 (some 16)) 29 3 (some 5)) hR_3_2 hR_3_3)
set_option maxRecDepth 100000 in
set_option maxHeartbeats 4000000 in
theorem re_X_withWhom_31_16_21 {ex : az_X} {I : Nat → Nat → Int32} {J : Nat → Nat → Int64} {R : Nat → Nat → Option Nat} {v1 : Int32} {v2 : Int32} {v3 : Int32} {v4 : Int32} {v5 : Int32} (hR_3_2 : R 3 2 = some 16) (hR_3_3 : R 3 3 = some 21) {x : Int32 × (Nat → Nat → Int32)} (h : rs_X_withWhom_31 21 16 I v1 v2 v3 v4 v5 = some x) {Q : Option Value → az_S → Prop} (hQ : ∀ R' : Nat → Nat → Option Nat, R' 3 2 = some 16 → R' 3 3 = some 21 → Q (some (.int x.1)) (97, x.2, J, R')) : az_E az_F ex 6 96 31 [.ref 3, .int v1, .int v2, .int v3, .int v4, .int v5, .retAddr 0] [] (97, I, J, R) Q := by
  unfold rs_X_withWhom_31 at h
  refine az_lp_E (G := fun s => ∀ R : Nat → Nat → Option Nat, R 3 2 = some 16 → R 3 3 = some 21 → az_E az_F ex 6 96 31 [.ref 3, .int v1, .int v2, .int s.1, .int s.2.1, .int s.2.2.1, .retAddr 0] [] (97, s.2.2.2, J, R) Q) (H := fun x => ∀ R' : Nat → Nat → Option Nat, R' 3 2 = some 16 → R' 3 3 = some 21 → Q (some (.int x.1)) (97, x.2, J, R')) (fun s o hb ho => fun R hR_3_2 hR_3_3 => ?_) _ _ _ h hQ R hR_3_2 hR_3_3
  exact re_X_withWhom_31_b_16_21 hR_3_2 hR_3_3 hb ho
set_option maxRecDepth 100000 in
set_option maxHeartbeats 4000000 in
theorem re_X_withWhom_16_21 {ex : az_X} {I : Nat → Nat → Int32} {J : Nat → Nat → Int64} {R : Nat → Nat → Option Nat} {a1 : Int32} {a2 : Int32} (hR_3_2 : R 3 2 = some 16) (hR_3_3 : R 3 3 = some 21) {o : Int32 × (Nat → Nat → Int32)} (h : rs_X_withWhom 21 16 I a1 a2 = some o) {Q : Option Value → az_S → Prop} (hQ : ∀ R' : Nat → Nat → Option Nat, R' 3 2 = some 16 → R' 3 3 = some 21 → Q (some (.int o.1)) (97, o.2, J, R')) : az_E az_F ex 6 96 0 [.ref 3, .int a1, .int a2, .retAddr 0, .retAddr 0, .retAddr 0, .retAddr 0] [] (97, I, J, R) Q := by
  unfold rs_X_withWhom at h
  refine az_E.sn 1 (pc' := 1) (L' := [.ref 3, .int a1, .int a2, .retAddr 0, .retAddr 0, .retAddr 0, .retAddr 0]) (S' := [.int a1]) (σ' := (97, I, J, R)) rfl ?_
  cases hx_2 : rs_X_isFromTo a1 with
  | none => rw [hx_2] at h; cases h
  | some x_1 =>
    rw [hx_2] at h
    dsimp only at h
    refine az_E.call (d := 5) (k' := 134) (vs := [.int a1]) (pc' := 4) (S' := []) (Q1 := fun v s => v = some (.int x_1) ∧ s = (97, I, J, R)) rfl (az_E.deep (by omega) (re_X_isFromTo (J := J) (R := R)  hx_2 ⟨rfl, rfl⟩)) (fun v s hq => ?_)
    obtain ⟨rfl, rfl⟩ := hq
    show az_E az_F ex 6 96 4 [.ref 3, .int a1, .int a2, .retAddr 0, .retAddr 0, .retAddr 0, .retAddr 0] [.int x_1] (97, I, J, R) _
    refine az_E.br (c := x_1 = 0) (tt := 15) (ff := 7) (L' := [.ref 3, .int a1, .int a2, .retAddr 0, .retAddr 0, .retAddr 0, .retAddr 0]) (S' := []) (σ' := (97, I, J, R)) rfl (fun hc_3 => ?_) (fun hc_3 => ?_)
    · rw [if_pos hc_3] at h
      refine az_E.sn 1 (pc' := 16) (L' := [.ref 3, .int a1, .int a2, .retAddr 0, .retAddr 0, .retAddr 0, .retAddr 0]) (S' := [.int (-1 : Int32)]) (σ' := (97, I, J, R)) rfl ?_
      have h := Option.some.inj h
      subst h
      exact az_E.ret (v := some (.int (-1 : Int32))) (σ' := (97, I, J, R)) rfl (hQ _ hR_3_2 hR_3_3)
    · rw [if_neg hc_3] at h
      refine az_E.sn 2 (pc' := 9) (L' := [.ref 3, .int a1, .int a2, .retAddr 0, .retAddr 0, .retAddr 0, .retAddr 0]) (S' := [.int a2, .ref 3]) (σ' := (97, I, J, R)) rfl ?_
      refine az_E.call (d := 5) (k' := 138) (vs := [.ref 3, .int a2]) (pc' := 12) (S' := []) rfl ?_ (fun _ _ hq => hq)
      show az_E az_F ex 5 138 0 [.ref 3, .int a2] [] (97, I, J, R) _
      refine az_E.sn 7 (pc' := 11) (L' := [.ref 3, .int a2]) (S' := [.int ((I 4 9) - (1 : Int32)), .int (0 : Int32), .int a2]) (σ' := (97, I, J, R)) rfl ?_
      refine az_E.call (d := 4) (k' := 131) (vs := [.int a2, .int (0 : Int32), .int ((I 4 9) - (1 : Int32))]) (pc' := 14) (S' := []) rfl ?_ (fun _ _ hq => hq)
      show az_E az_F ex 4 131 0 [.int a2, .int (0 : Int32), .int ((I 4 9) - (1 : Int32))] [] (97, I, J, R) _
      refine az_E.sn 2 (pc' := 2) (L' := [.int a2, .int (0 : Int32), .int ((I 4 9) - (1 : Int32))]) (S' := [.int (0 : Int32), .int a2]) (σ' := (97, I, J, R)) rfl ?_
      refine az_E.br (c := a2 < (0 : Int32)) (tt := 14) (ff := 5) (L' := [.int a2, .int (0 : Int32), .int ((I 4 9) - (1 : Int32))]) (S' := []) (σ' := (97, I, J, R)) rfl (fun hc_4 => ?_) (fun hc_4 => ?_)
      · rw [if_pos hc_4] at h
        refine az_E.sn 1 (pc' := 15) (L' := [.int a2, .int (0 : Int32), .int ((I 4 9) - (1 : Int32))]) (S' := [.int (0 : Int32)]) (σ' := (97, I, J, R)) rfl ?_
        refine az_E.ret (v := some (.int (0 : Int32))) (σ' := (97, I, J, R)) rfl ?_
        show az_E az_F ex 5 138 14 [.ref 3, .int a2] [.int (0 : Int32)] (97, I, J, R) _
        refine az_E.ret (v := some (.int (0 : Int32))) (σ' := (97, I, J, R)) rfl ?_
        show az_E az_F ex 6 96 12 [.ref 3, .int a1, .int a2, .retAddr 0, .retAddr 0, .retAddr 0, .retAddr 0] [.int (0 : Int32)] (97, I, J, R) _
        refine az_E.br (c := (0 : Int32) = 0) (tt := 15) (ff := 17) (L' := [.ref 3, .int a1, .int a2, .retAddr 0, .retAddr 0, .retAddr 0, .retAddr 0]) (S' := []) (σ' := (97, I, J, R)) rfl (fun _ => ?_) (fun hn => absurd (by decide) hn)
        refine az_E.sn 1 (pc' := 16) (L' := [.ref 3, .int a1, .int a2, .retAddr 0, .retAddr 0, .retAddr 0, .retAddr 0]) (S' := [.int (-1 : Int32)]) (σ' := (97, I, J, R)) rfl ?_
        have h := Option.some.inj h
        subst h
        exact az_E.ret (v := some (.int (-1 : Int32))) (σ' := (97, I, J, R)) rfl (hQ _ hR_3_2 hR_3_3)
      · rw [if_neg hc_4] at h
        refine az_E.sn 2 (pc' := 7) (L' := [.int a2, .int (0 : Int32), .int ((I 4 9) - (1 : Int32))]) (S' := [.int ((I 4 9) - (1 : Int32)), .int a2]) (σ' := (97, I, J, R)) rfl ?_
        refine az_E.br (c := ((I 4 9) - (1 : Int32)) < a2) (tt := 14) (ff := 10) (L' := [.int a2, .int (0 : Int32), .int ((I 4 9) - (1 : Int32))]) (S' := []) (σ' := (97, I, J, R)) rfl (fun hc_5 => ?_) (fun hc_5 => ?_)
        · rw [if_pos hc_5] at h
          refine az_E.sn 1 (pc' := 15) (L' := [.int a2, .int (0 : Int32), .int ((I 4 9) - (1 : Int32))]) (S' := [.int (0 : Int32)]) (σ' := (97, I, J, R)) rfl ?_
          refine az_E.ret (v := some (.int (0 : Int32))) (σ' := (97, I, J, R)) rfl ?_
          show az_E az_F ex 5 138 14 [.ref 3, .int a2] [.int (0 : Int32)] (97, I, J, R) _
          refine az_E.ret (v := some (.int (0 : Int32))) (σ' := (97, I, J, R)) rfl ?_
          show az_E az_F ex 6 96 12 [.ref 3, .int a1, .int a2, .retAddr 0, .retAddr 0, .retAddr 0, .retAddr 0] [.int (0 : Int32)] (97, I, J, R) _
          refine az_E.br (c := (0 : Int32) = 0) (tt := 15) (ff := 17) (L' := [.ref 3, .int a1, .int a2, .retAddr 0, .retAddr 0, .retAddr 0, .retAddr 0]) (S' := []) (σ' := (97, I, J, R)) rfl (fun _ => ?_) (fun hn => absurd (by decide) hn)
          refine az_E.sn 1 (pc' := 16) (L' := [.ref 3, .int a1, .int a2, .retAddr 0, .retAddr 0, .retAddr 0, .retAddr 0]) (S' := [.int (-1 : Int32)]) (σ' := (97, I, J, R)) rfl ?_
          have h := Option.some.inj h
          subst h
          exact az_E.ret (v := some (.int (-1 : Int32))) (σ' := (97, I, J, R)) rfl (hQ _ hR_3_2 hR_3_3)
        · rw [if_neg hc_5] at h
          refine az_E.sn 2 (pc' := 15) (L' := [.int a2, .int (0 : Int32), .int ((I 4 9) - (1 : Int32))]) (S' := [.int (1 : Int32)]) (σ' := (97, I, J, R)) rfl ?_
          refine az_E.ret (v := some (.int (1 : Int32))) (σ' := (97, I, J, R)) rfl ?_
          show az_E az_F ex 5 138 14 [.ref 3, .int a2] [.int (1 : Int32)] (97, I, J, R) _
          refine az_E.ret (v := some (.int (1 : Int32))) (σ' := (97, I, J, R)) rfl ?_
          show az_E az_F ex 6 96 12 [.ref 3, .int a1, .int a2, .retAddr 0, .retAddr 0, .retAddr 0, .retAddr 0] [.int (1 : Int32)] (97, I, J, R) _
          refine az_E.br (c := (1 : Int32) = 0) (tt := 15) (ff := 17) (L' := [.ref 3, .int a1, .int a2, .retAddr 0, .retAddr 0, .retAddr 0, .retAddr 0]) (S' := []) (σ' := (97, I, J, R)) rfl (fun hn => absurd hn (by decide)) (fun _ => ?_)
          refine az_E.sn 2 (pc' := 19) (L' := [.ref 3, .int a1, .int a2, .retAddr 0, .retAddr 0, .retAddr 0, .retAddr 0]) (S' := [.int a2, .ref 3]) (σ' := (97, I, J, R)) rfl ?_
          cases hx_7 : rs_X_setPace 16 I a2 with
          | none => rw [hx_7] at h; cases h
          | some I_6 =>
            rw [hx_7] at h
            dsimp only at h
            refine az_E.call (d := 5) (k' := 144) (vs := [.ref 3, .int a2]) (pc' := 22) (S' := []) (Q1 := fun v s => v = none ∧ s = (97, I_6, J, (az_u (az_u R 26 2 (some 16)) 26 3 (some 5)))) rfl (az_E.deep (by omega) (re_X_setPace_16 (J := J) (R := R) hR_3_2 hx_7 ⟨rfl, rfl⟩)) (fun v s hq => ?_)
            obtain ⟨rfl, rfl⟩ := hq
            show az_E az_F ex 6 96 22 [.ref 3, .int a1, .int a2, .retAddr 0, .retAddr 0, .retAddr 0, .retAddr 0] [] (97, I_6, J, (az_u (az_u R 26 2 (some 16)) 26 3 (some 5))) _
            refine az_E.sn 6 (pc' := 31) (L' := [.ref 3, .int a1, .int a2, .int (-2 : Int32), .int (0 : Int32), .int (0 : Int32), .retAddr 0]) (S' := []) (σ' := (97, I_6, J, (az_u (az_u R 26 2 (some 16)) 26 3 (some 5)))) rfl ?_
            exact az_E.forget (L := [.ref 3, .int a1, .int a2, .int (-2 : Int32), .int (0 : Int32), .int (0 : Int32), .retAddr 0]) ⟨rfl, rfl, rfl, rfl, rfl, rfl, trivial, trivial⟩ (re_X_withWhom_31_16_21 (I := I_6) (J := J) (R := (az_u (az_u R 26 2 (some 16)) 26 3 (some 5))) hR_3_2 hR_3_3 h hQ)
set_option maxRecDepth 100000 in
set_option maxHeartbeats 4000000 in
theorem re_M_withWhom_27_b {ex : az_X} {I : Nat → Nat → Int32} {J : Nat → Nat → Int64} {R : Nat → Nat → Option Nat} {v1 : Int32} {v2 : Int32} {v3 : Int32} {v4 : Int32} {v5 : Int32} {x : ((Int32 × Int32 × Int32 × (Nat → Nat → Int32)) ⊕ (Int32 × (Nat → Nat → Int32)))} (h : rs_M_withWhom_27_b v1 v2 v3 v4 v5 I = some x) {Q : Option Value → az_S → Prop} (hQ : Sum.elim (fun s => az_E az_F ex 126 204 27 [.ref 73, .int v1, .int v2, .int s.1, .int s.2.1, .int s.2.2.1, .retAddr 0] [] (97, s.2.2.2, J, R) Q) (fun x => Q (some (.int x.1)) (97, x.2, J, R)) x) : az_E az_F ex 126 204 27 [.ref 73, .int v1, .int v2, .int v3, .int v4, .int v5, .retAddr 0] [] (97, I, J, R) Q := by
  unfold rs_M_withWhom_27_b at h
  refine az_E.sn 3 (pc' := 33) (L' := [.ref 73, .int v1, .int v2, .int v3, .int v4, .int v5, .retAddr 0]) (S' := [.int (I 73 7), .int v5]) (σ' := (97, I, J, R)) rfl ?_
  refine az_E.br (c := (I 73 7) ≤ v5) (tt := 76) (ff := 36) (L' := [.ref 73, .int v1, .int v2, .int v3, .int v4, .int v5, .retAddr 0]) (S' := []) (σ' := (97, I, J, R)) rfl (fun hc_6 => ?_) (fun hc_6 => ?_)
  · rw [if_pos hc_6] at h
    refine az_E.sn 1 (pc' := 77) (L' := [.ref 73, .int v1, .int v2, .int v3, .int v4, .int v5, .retAddr 0]) (S' := [.int v3]) (σ' := (97, I, J, R)) rfl ?_
    have h := Option.some.inj h
    subst h
    exact az_E.ret (v := some (.int v3)) (σ' := (97, I, J, R)) rfl hQ
  · rw [if_neg hc_6] at h
    refine az_E.sn 2 (pc' := 39) (L' := [.ref 73, .int v1, .int v2, .int v3, .int v4, .int v5, .retAddr 0]) (S' := [.int v2, .int v5]) (σ' := (97, I, J, R)) rfl ?_
    refine az_E.br (c := v5 = v2) (tt := 70) (ff := 42) (L' := [.ref 73, .int v1, .int v2, .int v3, .int v4, .int v5, .retAddr 0]) (S' := []) (σ' := (97, I, J, R)) rfl (fun hc_7 => ?_) (fun hc_7 => ?_)
    · rw [if_pos hc_7] at h
      refine az_E.sn 2 (pc' := 27) (L' := [.ref 73, .int v1, .int v2, .int v3, .int v4, .int (v5 + (1 : Int32)), .retAddr 0]) (S' := []) (σ' := (97, I, J, R)) rfl ?_
      have h := Option.some.inj h
      subst h
      exact az_E.forget (L := [.ref 73, .int v1, .int v2, .int v3, .int v4, .int (v5 + (1 : Int32)), .retAddr 0]) ⟨rfl, rfl, rfl, rfl, rfl, rfl, trivial, trivial⟩ hQ
    · rw [if_neg hc_7] at h
      refine az_E.sn 4 (pc' := 47) (L' := [.ref 73, .int v1, .int v2, .int v3, .int v4, .int v5, .retAddr 0]) (S' := [.int v5, .int v2, .int v1, .ref 73]) (σ' := (97, I, J, R)) rfl ?_
      cases hx_10 : rs_M_togetherOf I v1 v2 v5 with
      | none => rw [hx_10] at h; cases h
      | some o =>
        rw [hx_10] at h
        obtain ⟨x_8, I_9⟩ := o
        dsimp only at h
        refine az_E.call (d := 125) (k' := 202) (vs := [.ref 73, .int v1, .int v2, .int v5]) (pc' := 50) (S' := []) (Q1 := fun v s => v = some (.int x_8) ∧ s = (97, I_9, J, R)) rfl (az_E.deep (by omega) (re_M_togetherOf (J := J) (R := R)  hx_10 ⟨rfl, rfl⟩)) (fun v s hq => ?_)
        obtain ⟨rfl, rfl⟩ := hq
        show az_E az_F ex 126 204 50 [.ref 73, .int v1, .int v2, .int v3, .int v4, .int v5, .retAddr 0] [.int x_8] (97, I_9, J, R) _
        refine az_E.sn 2 (pc' := 53) (L' := [.ref 73, .int v1, .int v2, .int v3, .int v4, .int v5, .int x_8]) (S' := [.int v3]) (σ' := (97, I_9, J, R)) rfl ?_
        refine az_E.br (c := v3 < 0) (tt := 63) (ff := 56) (L' := [.ref 73, .int v1, .int v2, .int v3, .int v4, .int v5, .int x_8]) (S' := []) (σ' := (97, I_9, J, R)) rfl (fun hc_11 => ?_) (fun hc_11 => ?_)
        · rw [if_pos hc_11] at h
          refine az_E.sn 6 (pc' := 27) (L' := [.ref 73, .int v1, .int v2, .int v5, .int x_8, .int (v5 + (1 : Int32)), .int x_8]) (S' := []) (σ' := (97, I_9, J, R)) rfl ?_
          have h := Option.some.inj h
          subst h
          exact az_E.forget (L := [.ref 73, .int v1, .int v2, .int v5, .int x_8, .int (v5 + (1 : Int32)), .retAddr 0]) ⟨rfl, rfl, rfl, rfl, rfl, rfl, trivial, trivial⟩ hQ
        · rw [if_neg hc_11] at h
          refine az_E.sn 2 (pc' := 60) (L' := [.ref 73, .int v1, .int v2, .int v3, .int v4, .int v5, .int x_8]) (S' := [.int v4, .int x_8]) (σ' := (97, I_9, J, R)) rfl ?_
          refine az_E.br (c := v4 ≤ x_8) (tt := 70) (ff := 63) (L' := [.ref 73, .int v1, .int v2, .int v3, .int v4, .int v5, .int x_8]) (S' := []) (σ' := (97, I_9, J, R)) rfl (fun hc_12 => ?_) (fun hc_12 => ?_)
          · rw [if_pos hc_12] at h
            refine az_E.sn 2 (pc' := 27) (L' := [.ref 73, .int v1, .int v2, .int v3, .int v4, .int (v5 + (1 : Int32)), .int x_8]) (S' := []) (σ' := (97, I_9, J, R)) rfl ?_
            have h := Option.some.inj h
            subst h
            exact az_E.forget (L := [.ref 73, .int v1, .int v2, .int v3, .int v4, .int (v5 + (1 : Int32)), .retAddr 0]) ⟨rfl, rfl, rfl, rfl, rfl, rfl, trivial, trivial⟩ hQ
          · rw [if_neg hc_12] at h
            refine az_E.sn 6 (pc' := 27) (L' := [.ref 73, .int v1, .int v2, .int v5, .int x_8, .int (v5 + (1 : Int32)), .int x_8]) (S' := []) (σ' := (97, I_9, J, R)) rfl ?_
            have h := Option.some.inj h
            subst h
            exact az_E.forget (L := [.ref 73, .int v1, .int v2, .int v5, .int x_8, .int (v5 + (1 : Int32)), .retAddr 0]) ⟨rfl, rfl, rfl, rfl, rfl, rfl, trivial, trivial⟩ hQ
set_option maxRecDepth 100000 in
set_option maxHeartbeats 4000000 in
theorem re_M_withWhom_27 {ex : az_X} {I : Nat → Nat → Int32} {J : Nat → Nat → Int64} {R : Nat → Nat → Option Nat} {v1 : Int32} {v2 : Int32} {v3 : Int32} {v4 : Int32} {v5 : Int32} {x : Int32 × (Nat → Nat → Int32)} (h : rs_M_withWhom_27 I v1 v2 v3 v4 v5 = some x) {Q : Option Value → az_S → Prop} (hQ : Q (some (.int x.1)) (97, x.2, J, R)) : az_E az_F ex 126 204 27 [.ref 73, .int v1, .int v2, .int v3, .int v4, .int v5, .retAddr 0] [] (97, I, J, R) Q := by
  unfold rs_M_withWhom_27 at h
  refine az_lp_E (G := fun s => az_E az_F ex 126 204 27 [.ref 73, .int v1, .int v2, .int s.1, .int s.2.1, .int s.2.2.1, .retAddr 0] [] (97, s.2.2.2, J, R) Q) (H := fun x => Q (some (.int x.1)) (97, x.2, J, R)) (fun s o hb ho => ?_) _ _ _ h hQ
  exact re_M_withWhom_27_b  hb ho
set_option maxRecDepth 100000 in
set_option maxHeartbeats 4000000 in
theorem re_M_withWhom {ex : az_X} {I : Nat → Nat → Int32} {J : Nat → Nat → Int64} {R : Nat → Nat → Option Nat} {a1 : Int32} {a2 : Int32} {o : Int32 × (Nat → Nat → Int32)} (h : rs_M_withWhom I a1 a2 = some o) {Q : Option Value → az_S → Prop} (hQ : Q (some (.int o.1)) (97, o.2, J, R)) : az_E az_F ex 126 204 0 [.ref 73, .int a1, .int a2, .retAddr 0, .retAddr 0, .retAddr 0, .retAddr 0] [] (97, I, J, R) Q := by
  unfold rs_M_withWhom at h
  refine az_E.sn 1 (pc' := 1) (L' := [.ref 73, .int a1, .int a2, .retAddr 0, .retAddr 0, .retAddr 0, .retAddr 0]) (S' := [.int a1]) (σ' := (97, I, J, R)) rfl ?_
  cases hx_2 : rs_M_isFt a1 with
  | none => rw [hx_2] at h; cases h
  | some x_1 =>
    rw [hx_2] at h
    dsimp only at h
    refine az_E.call (d := 125) (k' := 163) (vs := [.int a1]) (pc' := 4) (S' := []) (Q1 := fun v s => v = some (.int x_1) ∧ s = (97, I, J, R)) rfl (az_E.deep (by omega) (re_M_isFt (J := J) (R := R)  hx_2 ⟨rfl, rfl⟩)) (fun v s hq => ?_)
    obtain ⟨rfl, rfl⟩ := hq
    show az_E az_F ex 126 204 4 [.ref 73, .int a1, .int a2, .retAddr 0, .retAddr 0, .retAddr 0, .retAddr 0] [.int x_1] (97, I, J, R) _
    refine az_E.br (c := x_1 = 0) (tt := 16) (ff := 7) (L' := [.ref 73, .int a1, .int a2, .retAddr 0, .retAddr 0, .retAddr 0, .retAddr 0]) (S' := []) (σ' := (97, I, J, R)) rfl (fun hc_3 => ?_) (fun hc_3 => ?_)
    · rw [if_pos hc_3] at h
      refine az_E.sn 1 (pc' := 17) (L' := [.ref 73, .int a1, .int a2, .retAddr 0, .retAddr 0, .retAddr 0, .retAddr 0]) (S' := [.int (-1 : Int32)]) (σ' := (97, I, J, R)) rfl ?_
      have h := Option.some.inj h
      subst h
      exact az_E.ret (v := some (.int (-1 : Int32))) (σ' := (97, I, J, R)) rfl hQ
    · rw [if_neg hc_3] at h
      refine az_E.sn 3 (pc' := 10) (L' := [.ref 73, .int a1, .int a2, .retAddr 0, .retAddr 0, .retAddr 0, .retAddr 0]) (S' := [.long a2.toInt64, .ref 73]) (σ' := (97, I, J, R)) rfl ?_
      refine az_E.call (d := 125) (k' := 162) (vs := [.ref 73, .long a2.toInt64]) (pc' := 13) (S' := []) rfl ?_ (fun _ _ hq => hq)
      show az_E az_F ex 125 162 0 [.ref 73, .long a2.toInt64, .retAddr 0] [] (97, I, J, R) _
      refine az_E.sn 7 (pc' := 9) (L' := [.ref 73, .long a2.toInt64, .retAddr 0]) (S' := [.long ((I 73 7) - (1 : Int32)).toInt64, .long (0 : Int64), .long a2.toInt64]) (σ' := (97, I, J, R)) rfl ?_
      refine az_E.call (d := 124) (k' := 154) (vs := [.long a2.toInt64, .long (0 : Int64), .long ((I 73 7) - (1 : Int32)).toInt64]) (pc' := 12) (S' := []) rfl ?_ (fun _ _ hq => hq)
      show az_E az_F ex 124 154 0 [.long a2.toInt64, .retAddr 0, .long (0 : Int64), .retAddr 0, .long ((I 73 7) - (1 : Int32)).toInt64, .retAddr 0] [] (97, I, J, R) _
      refine az_E.sn 3 (pc' := 3) (L' := [.long a2.toInt64, .retAddr 0, .long (0 : Int64), .retAddr 0, .long ((I 73 7) - (1 : Int32)).toInt64, .retAddr 0]) (S' := [.int (lg_cmp a2.toInt64 (0 : Int64))]) (σ' := (97, I, J, R)) rfl ?_
      refine az_E.br (c := (lg_cmp a2.toInt64 (0 : Int64)) < 0) (tt := 17) (ff := 6) (L' := [.long a2.toInt64, .retAddr 0, .long (0 : Int64), .retAddr 0, .long ((I 73 7) - (1 : Int32)).toInt64, .retAddr 0]) (S' := []) (σ' := (97, I, J, R)) rfl (fun hc_4 => ?_) (fun hc_4 => ?_)
      · rw [if_pos hc_4] at h
        refine az_E.sn 1 (pc' := 18) (L' := [.long a2.toInt64, .retAddr 0, .long (0 : Int64), .retAddr 0, .long ((I 73 7) - (1 : Int32)).toInt64, .retAddr 0]) (S' := [.int (0 : Int32)]) (σ' := (97, I, J, R)) rfl ?_
        refine az_E.ret (v := some (.int (0 : Int32))) (σ' := (97, I, J, R)) rfl ?_
        show az_E az_F ex 125 162 12 [.ref 73, .long a2.toInt64, .retAddr 0] [.int (0 : Int32)] (97, I, J, R) _
        refine az_E.ret (v := some (.int (0 : Int32))) (σ' := (97, I, J, R)) rfl ?_
        show az_E az_F ex 126 204 13 [.ref 73, .int a1, .int a2, .retAddr 0, .retAddr 0, .retAddr 0, .retAddr 0] [.int (0 : Int32)] (97, I, J, R) _
        refine az_E.br (c := (0 : Int32) = 0) (tt := 16) (ff := 18) (L' := [.ref 73, .int a1, .int a2, .retAddr 0, .retAddr 0, .retAddr 0, .retAddr 0]) (S' := []) (σ' := (97, I, J, R)) rfl (fun _ => ?_) (fun hn => absurd (by decide) hn)
        refine az_E.sn 1 (pc' := 17) (L' := [.ref 73, .int a1, .int a2, .retAddr 0, .retAddr 0, .retAddr 0, .retAddr 0]) (S' := [.int (-1 : Int32)]) (σ' := (97, I, J, R)) rfl ?_
        have h := Option.some.inj h
        subst h
        exact az_E.ret (v := some (.int (-1 : Int32))) (σ' := (97, I, J, R)) rfl hQ
      · rw [if_neg hc_4] at h
        refine az_E.sn 3 (pc' := 10) (L' := [.long a2.toInt64, .retAddr 0, .long (0 : Int64), .retAddr 0, .long ((I 73 7) - (1 : Int32)).toInt64, .retAddr 0]) (S' := [.int (lg_cmp a2.toInt64 ((I 73 7) - (1 : Int32)).toInt64)]) (σ' := (97, I, J, R)) rfl ?_
        refine az_E.br (c := 0 < (lg_cmp a2.toInt64 ((I 73 7) - (1 : Int32)).toInt64)) (tt := 17) (ff := 13) (L' := [.long a2.toInt64, .retAddr 0, .long (0 : Int64), .retAddr 0, .long ((I 73 7) - (1 : Int32)).toInt64, .retAddr 0]) (S' := []) (σ' := (97, I, J, R)) rfl (fun hc_5 => ?_) (fun hc_5 => ?_)
        · rw [if_pos hc_5] at h
          refine az_E.sn 1 (pc' := 18) (L' := [.long a2.toInt64, .retAddr 0, .long (0 : Int64), .retAddr 0, .long ((I 73 7) - (1 : Int32)).toInt64, .retAddr 0]) (S' := [.int (0 : Int32)]) (σ' := (97, I, J, R)) rfl ?_
          refine az_E.ret (v := some (.int (0 : Int32))) (σ' := (97, I, J, R)) rfl ?_
          show az_E az_F ex 125 162 12 [.ref 73, .long a2.toInt64, .retAddr 0] [.int (0 : Int32)] (97, I, J, R) _
          refine az_E.ret (v := some (.int (0 : Int32))) (σ' := (97, I, J, R)) rfl ?_
          show az_E az_F ex 126 204 13 [.ref 73, .int a1, .int a2, .retAddr 0, .retAddr 0, .retAddr 0, .retAddr 0] [.int (0 : Int32)] (97, I, J, R) _
          refine az_E.br (c := (0 : Int32) = 0) (tt := 16) (ff := 18) (L' := [.ref 73, .int a1, .int a2, .retAddr 0, .retAddr 0, .retAddr 0, .retAddr 0]) (S' := []) (σ' := (97, I, J, R)) rfl (fun _ => ?_) (fun hn => absurd (by decide) hn)
          refine az_E.sn 1 (pc' := 17) (L' := [.ref 73, .int a1, .int a2, .retAddr 0, .retAddr 0, .retAddr 0, .retAddr 0]) (S' := [.int (-1 : Int32)]) (σ' := (97, I, J, R)) rfl ?_
          have h := Option.some.inj h
          subst h
          exact az_E.ret (v := some (.int (-1 : Int32))) (σ' := (97, I, J, R)) rfl hQ
        · rw [if_neg hc_5] at h
          refine az_E.sn 2 (pc' := 18) (L' := [.long a2.toInt64, .retAddr 0, .long (0 : Int64), .retAddr 0, .long ((I 73 7) - (1 : Int32)).toInt64, .retAddr 0]) (S' := [.int (1 : Int32)]) (σ' := (97, I, J, R)) rfl ?_
          refine az_E.ret (v := some (.int (1 : Int32))) (σ' := (97, I, J, R)) rfl ?_
          show az_E az_F ex 125 162 12 [.ref 73, .long a2.toInt64, .retAddr 0] [.int (1 : Int32)] (97, I, J, R) _
          refine az_E.ret (v := some (.int (1 : Int32))) (σ' := (97, I, J, R)) rfl ?_
          show az_E az_F ex 126 204 13 [.ref 73, .int a1, .int a2, .retAddr 0, .retAddr 0, .retAddr 0, .retAddr 0] [.int (1 : Int32)] (97, I, J, R) _
          refine az_E.br (c := (1 : Int32) = 0) (tt := 16) (ff := 18) (L' := [.ref 73, .int a1, .int a2, .retAddr 0, .retAddr 0, .retAddr 0, .retAddr 0]) (S' := []) (σ' := (97, I, J, R)) rfl (fun hn => absurd hn (by decide)) (fun _ => ?_)
          refine az_E.sn 6 (pc' := 27) (L' := [.ref 73, .int a1, .int a2, .int (-2 : Int32), .int (0 : Int32), .int (0 : Int32), .retAddr 0]) (S' := []) (σ' := (97, I, J, R)) rfl ?_
          exact az_E.forget (L := [.ref 73, .int a1, .int a2, .int (-2 : Int32), .int (0 : Int32), .int (0 : Int32), .retAddr 0]) ⟨rfl, rfl, rfl, rfl, rfl, rfl, trivial, trivial⟩ (re_M_withWhom_27 (I := I) (J := J) (R := R)  h hQ)
set_option maxRecDepth 100000 in
set_option maxHeartbeats 4000000 in
theorem re_Fi_relax_55_26_34_5 {ex : az_X} {I : Nat → Nat → Int32} {J : Nat → Nat → Int64} {R : Nat → Nat → Option Nat} {v2 : Int32} {v3 : Int32} {v5 : Int32} {v6 : Int32} {s0 : Int32} (hR_26_3 : R 26 3 = some 5) {x : ((Int32 × (Nat → Nat → Int32)) ⊕ ((Nat → Nat → Int32)))} (h : rs_Fi_relax_55 26 34 I v2 v3 v5 v6 s0 = some x) {Q : Option Value → az_S → Prop} (hQ : Sum.elim (fun s => az_E az_F ex 1 18 3 [.ref 32, .ref 26, .int v2, .int v3, .ref 34, .int s.1, .retAddr 0, .retAddr 0] [] (97, s.2, J, R) Q) (fun x => Q none (97, x, J, R)) x) : az_E az_F ex 1 18 55 [.ref 32, .ref 26, .int v2, .int v3, .ref 34, .int v5, .int v6, .retAddr 0] [.int s0] (97, I, J, R) Q := by
  unfold rs_Fi_relax_55 at h
  refine az_E.sn 3 (pc' := 60) (L' := [.ref 32, .ref 26, .int v2, .int v3, .ref 34, .int v5, .int v6, .int s0]) (S' := [.int v2, .ref 34]) (σ' := (97, I, J, R)) rfl ?_
  by_cases hc_12 : v2 < 0 ∨ 144 ≤ v2.toNatClampNeg
  · rw [if_pos hc_12] at h; cases h
  · rw [if_neg hc_12] at h
    refine az_E.oi (o := az_ai az_F ex (97, I, J, R) 34 v2) (pc' := 61) (L' := [.ref 32, .ref 26, .int v2, .int v3, .ref 34, .int v5, .int v6, .int s0]) (S' := []) (σ' := (97, I, J, R)) (x := (I 34 v2.toNatClampNeg)) rfl (if_neg hc_12) ?_
    refine az_E.sn 4 (pc' := 68) (L' := [.ref 32, .ref 26, .int v2, .int v3, .ref 34, .int v5, .int v6, .int s0]) (S' := [.int v6, .ref 34, .int ((I 34 v2.toNatClampNeg) + s0)]) (σ' := (97, I, J, R)) rfl ?_
    by_cases hc_13 : v6 < 0 ∨ 144 ≤ v6.toNatClampNeg
    · rw [if_pos hc_13] at h; cases h
    · rw [if_neg hc_13] at h
      refine az_E.oi (o := az_ai az_F ex (97, I, J, R) 34 v6) (pc' := 69) (L' := [.ref 32, .ref 26, .int v2, .int v3, .ref 34, .int v5, .int v6, .int s0]) (S' := [.int ((I 34 v2.toNatClampNeg) + s0)]) (σ' := (97, I, J, R)) (x := (I 34 v6.toNatClampNeg)) rfl (if_neg hc_13) ?_
      refine az_E.br (c := (I 34 v6.toNatClampNeg) ≤ ((I 34 v2.toNatClampNeg) + s0)) (tt := 95) (ff := 72) (L' := [.ref 32, .ref 26, .int v2, .int v3, .ref 34, .int v5, .int v6, .int s0]) (S' := []) (σ' := (97, I, J, R)) rfl (fun hc_14 => ?_) (fun hc_14 => ?_)
      · rw [if_pos hc_14] at h
        refine az_E.sn 2 (pc' := 3) (L' := [.ref 32, .ref 26, .int v2, .int v3, .ref 34, .int (v5 + (1 : Int32)), .int v6, .int s0]) (S' := []) (σ' := (97, I, J, R)) rfl ?_
        have h := Option.some.inj h
        subst h
        exact az_E.forget (L := [.ref 32, .ref 26, .int v2, .int v3, .ref 34, .int (v5 + (1 : Int32)), .retAddr 0, .retAddr 0]) ⟨rfl, rfl, rfl, rfl, rfl, rfl, trivial, trivial, trivial⟩ hQ
      · rw [if_neg hc_14] at h
        refine az_E.sn 4 (pc' := 79) (L' := [.ref 32, .ref 26, .int v2, .int v3, .ref 34, .int v5, .int v6, .int s0]) (S' := [.int v2, .ref 34, .int v6, .ref 34]) (σ' := (97, I, J, R)) rfl ?_
        by_cases hc_15 : v2 < 0 ∨ 144 ≤ v2.toNatClampNeg
        · rw [if_pos hc_15] at h; cases h
        · rw [if_neg hc_15] at h
          refine az_E.oi (o := az_ai az_F ex (97, I, J, R) 34 v2) (pc' := 80) (L' := [.ref 32, .ref 26, .int v2, .int v3, .ref 34, .int v5, .int v6, .int s0]) (S' := [.int v6, .ref 34]) (σ' := (97, I, J, R)) (x := (I 34 v2.toNatClampNeg)) rfl (if_neg hc_15) ?_
          refine az_E.sn 2 (pc' := 83) (L' := [.ref 32, .ref 26, .int v2, .int v3, .ref 34, .int v5, .int v6, .int s0]) (S' := [.int ((I 34 v2.toNatClampNeg) + s0), .int v6, .ref 34]) (σ' := (97, I, J, R)) rfl ?_
          by_cases hc_16 : v6 < 0 ∨ 144 ≤ v6.toNatClampNeg
          · rw [if_pos hc_16] at h; cases h
          · rw [if_neg hc_16] at h
            refine az_E.o (o := az_si az_F (97, I, J, R) 34 v6 ((I 34 v2.toNatClampNeg) + s0)) (pc' := 84) (L' := [.ref 32, .ref 26, .int v2, .int v3, .ref 34, .int v5, .int v6, .int s0]) (S' := []) (x := (97, (az_u I 34 v6.toNatClampNeg ((I 34 v2.toNatClampNeg) + s0)), J, R)) rfl (if_neg hc_16) ?_
            refine az_E.sn 4 (pc' := 91) (L' := [.ref 32, .ref 26, .int v2, .int v3, .ref 34, .int v5, .int v6, .int s0]) (S' := [.int v6, .ref 34, .int v6, .ref 32]) (σ' := (97, (az_u I 34 v6.toNatClampNeg ((I 34 v2.toNatClampNeg) + s0)), J, R)) rfl ?_
            by_cases hc_17 : v6 < 0 ∨ 144 ≤ v6.toNatClampNeg
            · rw [if_pos hc_17] at h; cases h
            · rw [if_neg hc_17] at h
              refine az_E.oi (o := az_ai az_F ex (97, (az_u I 34 v6.toNatClampNeg ((I 34 v2.toNatClampNeg) + s0)), J, R) 34 v6) (pc' := 92) (L' := [.ref 32, .ref 26, .int v2, .int v3, .ref 34, .int v5, .int v6, .int s0]) (S' := [.int v6, .ref 32]) (σ' := (97, (az_u I 34 v6.toNatClampNeg ((I 34 v2.toNatClampNeg) + s0)), J, R)) (x := ((az_u I 34 v6.toNatClampNeg ((I 34 v2.toNatClampNeg) + s0)) 34 v6.toNatClampNeg)) rfl (if_neg hc_17) ?_
              cases hx_19 : rs_Fi_enter (az_u I 34 v6.toNatClampNeg ((I 34 v2.toNatClampNeg) + s0)) v6 ((az_u I 34 v6.toNatClampNeg ((I 34 v2.toNatClampNeg) + s0)) 34 v6.toNatClampNeg) with
              | none => rw [hx_19] at h; cases h
              | some I_18 =>
                rw [hx_19] at h
                dsimp only at h
                refine az_E.call (d := 0) (k' := 19) (vs := [.ref 32, .int v6, .int ((az_u I 34 v6.toNatClampNeg ((I 34 v2.toNatClampNeg) + s0)) 34 v6.toNatClampNeg)]) (pc' := 95) (S' := []) (Q1 := fun v s => v = none ∧ s = (97, I_18, J, R)) rfl (az_E.deep (by omega) (re_Fi_enter (J := J) (R := R)  hx_19 ⟨rfl, rfl⟩)) (fun v s hq => ?_)
                obtain ⟨rfl, rfl⟩ := hq
                show az_E az_F ex 1 18 95 [.ref 32, .ref 26, .int v2, .int v3, .ref 34, .int v5, .int v6, .int s0] [] (97, I_18, J, R) _
                refine az_E.sn 2 (pc' := 3) (L' := [.ref 32, .ref 26, .int v2, .int v3, .ref 34, .int (v5 + (1 : Int32)), .int v6, .int s0]) (S' := []) (σ' := (97, I_18, J, R)) rfl ?_
                have h := Option.some.inj h
                subst h
                exact az_E.forget (L := [.ref 32, .ref 26, .int v2, .int v3, .ref 34, .int (v5 + (1 : Int32)), .retAddr 0, .retAddr 0]) ⟨rfl, rfl, rfl, rfl, rfl, rfl, trivial, trivial, trivial⟩ hQ
set_option maxRecDepth 100000 in
set_option maxHeartbeats 4000000 in
theorem re_Fi_relax_3_b_26_34_5 {ex : az_X} {I : Nat → Nat → Int32} {J : Nat → Nat → Int64} {R : Nat → Nat → Option Nat} {v2 : Int32} {v3 : Int32} {v5 : Int32} (hR_26_3 : R 26 3 = some 5) {x : ((Int32 × (Nat → Nat → Int32)) ⊕ ((Nat → Nat → Int32)))} (h : rs_Fi_relax_3_b 26 34 v2 v3 v5 I = some x) {Q : Option Value → az_S → Prop} (hQ : Sum.elim (fun s => az_E az_F ex 1 18 3 [.ref 32, .ref 26, .int v2, .int v3, .ref 34, .int s.1, .retAddr 0, .retAddr 0] [] (97, s.2, J, R) Q) (fun x => Q none (97, x, J, R)) x) : az_E az_F ex 1 18 3 [.ref 32, .ref 26, .int v2, .int v3, .ref 34, .int v5, .retAddr 0, .retAddr 0] [] (97, I, J, R) Q := by
  unfold rs_Fi_relax_3_b at h
  refine az_E.sn 2 (pc' := 6) (L' := [.ref 32, .ref 26, .int v2, .int v3, .ref 34, .int v5, .retAddr 0, .retAddr 0]) (S' := [.int (4 : Int32), .int v5]) (σ' := (97, I, J, R)) rfl ?_
  refine az_E.br (c := (4 : Int32) ≤ v5) (tt := 101) (ff := 9) (L' := [.ref 32, .ref 26, .int v2, .int v3, .ref 34, .int v5, .retAddr 0, .retAddr 0]) (S' := []) (σ' := (97, I, J, R)) rfl (fun hc_1 => ?_) (fun hc_1 => ?_)
  · rw [if_pos hc_1] at h
    have h := Option.some.inj h
    subst h
    exact az_E.ret (v := none) (σ' := (97, I, J, R)) rfl hQ
  · rw [if_neg hc_1] at h
    refine az_E.sn 2 (pc' := 12) (L' := [.ref 32, .ref 26, .int v2, .int v3, .ref 34, .int v5, .retAddr 0, .retAddr 0]) (S' := [.int v5, .int v2]) (σ' := (97, I, J, R)) rfl ?_
    cases hx_3 : rs_X_sideCell v2 v5 with
    | none => rw [hx_3] at h; cases h
    | some x_2 =>
      rw [hx_3] at h
      dsimp only at h
      refine az_E.call (d := 0) (k' := 141) (vs := [.int v2, .int v5]) (pc' := 15) (S' := []) (Q1 := fun v s => v = some (.int x_2) ∧ s = (97, I, J, R)) rfl (az_E.deep (by omega) (re_X_sideCell (J := J) (R := R)  hx_3 ⟨rfl, rfl⟩)) (fun v s hq => ?_)
      obtain ⟨rfl, rfl⟩ := hq
      show az_E az_F ex 1 18 15 [.ref 32, .ref 26, .int v2, .int v3, .ref 34, .int v5, .retAddr 0, .retAddr 0] [.int x_2] (97, I, J, R) _
      refine az_E.sn 2 (pc' := 19) (L' := [.ref 32, .ref 26, .int v2, .int v3, .ref 34, .int v5, .int x_2, .retAddr 0]) (S' := [.int x_2]) (σ' := (97, I, J, R)) rfl ?_
      refine az_E.br (c := x_2 < 0) (tt := 95) (ff := 22) (L' := [.ref 32, .ref 26, .int v2, .int v3, .ref 34, .int v5, .int x_2, .retAddr 0]) (S' := []) (σ' := (97, I, J, R)) rfl (fun hc_4 => ?_) (fun hc_4 => ?_)
      · rw [if_pos hc_4] at h
        refine az_E.sn 2 (pc' := 3) (L' := [.ref 32, .ref 26, .int v2, .int v3, .ref 34, .int (v5 + (1 : Int32)), .int x_2, .retAddr 0]) (S' := []) (σ' := (97, I, J, R)) rfl ?_
        have h := Option.some.inj h
        subst h
        exact az_E.forget (L := [.ref 32, .ref 26, .int v2, .int v3, .ref 34, .int (v5 + (1 : Int32)), .retAddr 0, .retAddr 0]) ⟨rfl, rfl, rfl, rfl, rfl, rfl, trivial, trivial, trivial⟩ hQ
      · rw [if_neg hc_4] at h
        refine az_E.sn 2 (pc' := 26) (L' := [.ref 32, .ref 26, .int v2, .int v3, .ref 34, .int v5, .int x_2, .retAddr 0]) (S' := [.int x_2, .ref 34]) (σ' := (97, I, J, R)) rfl ?_
        by_cases hc_5 : x_2 < 0 ∨ 144 ≤ x_2.toNatClampNeg
        · rw [if_pos hc_5] at h; cases h
        · rw [if_neg hc_5] at h
          refine az_E.oi (o := az_ai az_F ex (97, I, J, R) 34 x_2) (pc' := 27) (L' := [.ref 32, .ref 26, .int v2, .int v3, .ref 34, .int v5, .int x_2, .retAddr 0]) (S' := []) (σ' := (97, I, J, R)) (x := (I 34 x_2.toNatClampNeg)) rfl (if_neg hc_5) ?_
          refine az_E.sn 2 (pc' := 30) (L' := [.ref 32, .ref 26, .int v2, .int v3, .ref 34, .int v5, .int x_2, .retAddr 0]) (S' := [.int v2, .ref 34, .int (I 34 x_2.toNatClampNeg)]) (σ' := (97, I, J, R)) rfl ?_
          by_cases hc_6 : v2 < 0 ∨ 144 ≤ v2.toNatClampNeg
          · rw [if_pos hc_6] at h; cases h
          · rw [if_neg hc_6] at h
            refine az_E.oi (o := az_ai az_F ex (97, I, J, R) 34 v2) (pc' := 31) (L' := [.ref 32, .ref 26, .int v2, .int v3, .ref 34, .int v5, .int x_2, .retAddr 0]) (S' := [.int (I 34 x_2.toNatClampNeg)]) (σ' := (97, I, J, R)) (x := (I 34 v2.toNatClampNeg)) rfl (if_neg hc_6) ?_
            refine az_E.br (c := (I 34 x_2.toNatClampNeg) ≤ (I 34 v2.toNatClampNeg)) (tt := 95) (ff := 34) (L' := [.ref 32, .ref 26, .int v2, .int v3, .ref 34, .int v5, .int x_2, .retAddr 0]) (S' := []) (σ' := (97, I, J, R)) rfl (fun hc_7 => ?_) (fun hc_7 => ?_)
            · rw [if_pos hc_7] at h
              refine az_E.sn 2 (pc' := 3) (L' := [.ref 32, .ref 26, .int v2, .int v3, .ref 34, .int (v5 + (1 : Int32)), .int x_2, .retAddr 0]) (S' := []) (σ' := (97, I, J, R)) rfl ?_
              have h := Option.some.inj h
              subst h
              exact az_E.forget (L := [.ref 32, .ref 26, .int v2, .int v3, .ref 34, .int (v5 + (1 : Int32)), .retAddr 0, .retAddr 0]) ⟨rfl, rfl, rfl, rfl, rfl, rfl, trivial, trivial, trivial⟩ hQ
            · rw [if_neg hc_7] at h
              refine az_E.sn 1 (pc' := 35) (L' := [.ref 32, .ref 26, .int v2, .int v3, .ref 34, .int v5, .int x_2, .retAddr 0]) (S' := [.int v3]) (σ' := (97, I, J, R)) rfl ?_
              refine az_E.br (c := v3 = 0) (tt := 48) (ff := 38) (L' := [.ref 32, .ref 26, .int v2, .int v3, .ref 34, .int v5, .int x_2, .retAddr 0]) (S' := []) (σ' := (97, I, J, R)) rfl (fun hc_8 => ?_) (fun hc_8 => ?_)
              · rw [if_pos hc_8] at h
                refine az_E.sn 3 (pc' := 52) (L' := [.ref 32, .ref 26, .int v2, .int v3, .ref 34, .int v5, .int x_2, .retAddr 0]) (S' := [.int x_2, .int v2, .ref 26]) (σ' := (97, I, J, R)) rfl ?_
                refine az_E.call (d := 0) (k' := 52) (vs := [.ref 26, .int v2, .int x_2]) (pc' := 55) (S' := []) rfl ?_ (fun _ _ hq => hq)
                show az_E az_F ex 0 52 0 [.ref 26, .int v2, .int x_2] [] (97, I, J, R) _
                refine az_E.sn 1 (pc' := 1) (L' := [.ref 26, .int v2, .int x_2]) (S' := [.ref 26]) (σ' := (97, I, J, R)) rfl ?_
                refine az_E.ov (pc' := 4) (L' := [.ref 26, .int v2, .int x_2]) (S' := []) (σ' := (97, I, J, R)) (x := .ref 5) rfl (congrArg (fun z => some (va_rf z)) hR_26_3) ?_
                refine az_E.sn 4 (pc' := 17) (L' := [.ref 26, .int v2, .int x_2]) (S' := [.ref 26, .ref (26 + 1)]) (σ' := (97, I, J, R)) rfl ?_
                refine az_E.ov (pc' := 20) (L' := [.ref 26, .int v2, .int x_2]) (S' := [.ref (26 + 1)]) (σ' := (97, I, J, R)) (x := .ref 5) rfl (congrArg (fun z => some (va_rf z)) hR_26_3) ?_
                refine az_E.sn 1 (pc' := 21) (L' := [.ref 26, .int v2, .int x_2]) (S' := [.int v2, .ref 5, .ref (26 + 1)]) (σ' := (97, I, J, R)) rfl ?_
                by_cases hc_9 : v2 < 0 ∨ 144 ≤ v2.toNatClampNeg
                · rw [if_pos hc_9] at h; cases h
                · rw [if_neg hc_9] at h
                  refine az_E.oi (o := az_ai az_F ex (97, I, J, R) 5 v2) (pc' := 22) (L' := [.ref 26, .int v2, .int x_2]) (S' := [.ref (26 + 1)]) (σ' := (97, I, J, R)) (x := (I 5 v2.toNatClampNeg)) rfl (if_neg hc_9) ?_
                  refine az_E.sn 3 (pc' := 26) (L' := [.ref 26, .int v2, .int x_2]) (S' := [.ref 26, .int ((I 5 v2.toNatClampNeg) * (10 : Int32)), .ref (26 + 1)]) (σ' := (97, I, J, R)) rfl ?_
                  refine az_E.ov (pc' := 29) (L' := [.ref 26, .int v2, .int x_2]) (S' := [.int ((I 5 v2.toNatClampNeg) * (10 : Int32)), .ref (26 + 1)]) (σ' := (97, I, J, R)) (x := .ref 5) rfl (congrArg (fun z => some (va_rf z)) hR_26_3) ?_
                  refine az_E.sn 1 (pc' := 30) (L' := [.ref 26, .int v2, .int x_2]) (S' := [.int x_2, .ref 5, .int ((I 5 v2.toNatClampNeg) * (10 : Int32)), .ref (26 + 1)]) (σ' := (97, I, J, R)) rfl ?_
                  by_cases hc_10 : x_2 < 0 ∨ 144 ≤ x_2.toNatClampNeg
                  · rw [if_pos hc_10] at h; cases h
                  · rw [if_neg hc_10] at h
                    refine az_E.oi (o := az_ai az_F ex (97, I, J, R) 5 x_2) (pc' := 31) (L' := [.ref 26, .int v2, .int x_2]) (S' := [.int ((I 5 v2.toNatClampNeg) * (10 : Int32)), .ref (26 + 1)]) (σ' := (97, I, J, R)) (x := (I 5 x_2.toNatClampNeg)) rfl (if_neg hc_10) ?_
                    refine az_E.sn 1 (pc' := 32) (L' := [.ref 26, .int v2, .int x_2]) (S' := [.int (((I 5 v2.toNatClampNeg) * (10 : Int32)) + (I 5 x_2.toNatClampNeg)), .ref (26 + 1)]) (σ' := (97, I, J, R)) rfl ?_
                    by_cases hc_11 : (((I 5 v2.toNatClampNeg) * (10 : Int32)) + (I 5 x_2.toNatClampNeg)) < 0 ∨ 100 ≤ (((I 5 v2.toNatClampNeg) * (10 : Int32)) + (I 5 x_2.toNatClampNeg)).toNatClampNeg
                    · rw [if_pos hc_11] at h; cases h
                    · rw [if_neg hc_11] at h
                      refine az_E.oi (o := az_ai az_F ex (97, I, J, R) (26 + 1) (((I 5 v2.toNatClampNeg) * (10 : Int32)) + (I 5 x_2.toNatClampNeg))) (pc' := 33) (L' := [.ref 26, .int v2, .int x_2]) (S' := []) (σ' := (97, I, J, R)) (x := (I (26 + 1) (((I 5 v2.toNatClampNeg) * (10 : Int32)) + (I 5 x_2.toNatClampNeg)).toNatClampNeg)) rfl (if_neg hc_11) ?_
                      refine az_E.ret (v := some (.int (I (26 + 1) (((I 5 v2.toNatClampNeg) * (10 : Int32)) + (I 5 x_2.toNatClampNeg)).toNatClampNeg))) (σ' := (97, I, J, R)) rfl ?_
                      show az_E az_F ex 1 18 55 [.ref 32, .ref 26, .int v2, .int v3, .ref 34, .int v5, .int x_2, .retAddr 0] [.int (I (26 + 1) (((I 5 v2.toNatClampNeg) * (10 : Int32)) + (I 5 x_2.toNatClampNeg)).toNatClampNeg)] (97, I, J, R) _
                      exact az_E.forget (L := [.ref 32, .ref 26, .int v2, .int v3, .ref 34, .int v5, .int x_2, .retAddr 0]) ⟨rfl, rfl, rfl, rfl, rfl, rfl, rfl, trivial, trivial⟩ (re_Fi_relax_55_26_34_5 (I := I) (J := J) (R := R) hR_26_3 h hQ)
              · rw [if_neg hc_8] at h
                refine az_E.sn 3 (pc' := 42) (L' := [.ref 32, .ref 26, .int v2, .int v3, .ref 34, .int v5, .int x_2, .retAddr 0]) (S' := [.int v2, .int x_2, .ref 26]) (σ' := (97, I, J, R)) rfl ?_
                refine az_E.call (d := 0) (k' := 52) (vs := [.ref 26, .int x_2, .int v2]) (pc' := 45) (S' := []) rfl ?_ (fun _ _ hq => hq)
                show az_E az_F ex 0 52 0 [.ref 26, .int x_2, .int v2] [] (97, I, J, R) _
                refine az_E.sn 1 (pc' := 1) (L' := [.ref 26, .int x_2, .int v2]) (S' := [.ref 26]) (σ' := (97, I, J, R)) rfl ?_
                refine az_E.ov (pc' := 4) (L' := [.ref 26, .int x_2, .int v2]) (S' := []) (σ' := (97, I, J, R)) (x := .ref 5) rfl (congrArg (fun z => some (va_rf z)) hR_26_3) ?_
                refine az_E.sn 4 (pc' := 17) (L' := [.ref 26, .int x_2, .int v2]) (S' := [.ref 26, .ref (26 + 1)]) (σ' := (97, I, J, R)) rfl ?_
                refine az_E.ov (pc' := 20) (L' := [.ref 26, .int x_2, .int v2]) (S' := [.ref (26 + 1)]) (σ' := (97, I, J, R)) (x := .ref 5) rfl (congrArg (fun z => some (va_rf z)) hR_26_3) ?_
                refine az_E.sn 1 (pc' := 21) (L' := [.ref 26, .int x_2, .int v2]) (S' := [.int x_2, .ref 5, .ref (26 + 1)]) (σ' := (97, I, J, R)) rfl ?_
                by_cases hc_20 : x_2 < 0 ∨ 144 ≤ x_2.toNatClampNeg
                · rw [if_pos hc_20] at h; cases h
                · rw [if_neg hc_20] at h
                  refine az_E.oi (o := az_ai az_F ex (97, I, J, R) 5 x_2) (pc' := 22) (L' := [.ref 26, .int x_2, .int v2]) (S' := [.ref (26 + 1)]) (σ' := (97, I, J, R)) (x := (I 5 x_2.toNatClampNeg)) rfl (if_neg hc_20) ?_
                  refine az_E.sn 3 (pc' := 26) (L' := [.ref 26, .int x_2, .int v2]) (S' := [.ref 26, .int ((I 5 x_2.toNatClampNeg) * (10 : Int32)), .ref (26 + 1)]) (σ' := (97, I, J, R)) rfl ?_
                  refine az_E.ov (pc' := 29) (L' := [.ref 26, .int x_2, .int v2]) (S' := [.int ((I 5 x_2.toNatClampNeg) * (10 : Int32)), .ref (26 + 1)]) (σ' := (97, I, J, R)) (x := .ref 5) rfl (congrArg (fun z => some (va_rf z)) hR_26_3) ?_
                  refine az_E.sn 1 (pc' := 30) (L' := [.ref 26, .int x_2, .int v2]) (S' := [.int v2, .ref 5, .int ((I 5 x_2.toNatClampNeg) * (10 : Int32)), .ref (26 + 1)]) (σ' := (97, I, J, R)) rfl ?_
                  by_cases hc_21 : v2 < 0 ∨ 144 ≤ v2.toNatClampNeg
                  · rw [if_pos hc_21] at h; cases h
                  · rw [if_neg hc_21] at h
                    refine az_E.oi (o := az_ai az_F ex (97, I, J, R) 5 v2) (pc' := 31) (L' := [.ref 26, .int x_2, .int v2]) (S' := [.int ((I 5 x_2.toNatClampNeg) * (10 : Int32)), .ref (26 + 1)]) (σ' := (97, I, J, R)) (x := (I 5 v2.toNatClampNeg)) rfl (if_neg hc_21) ?_
                    refine az_E.sn 1 (pc' := 32) (L' := [.ref 26, .int x_2, .int v2]) (S' := [.int (((I 5 x_2.toNatClampNeg) * (10 : Int32)) + (I 5 v2.toNatClampNeg)), .ref (26 + 1)]) (σ' := (97, I, J, R)) rfl ?_
                    by_cases hc_22 : (((I 5 x_2.toNatClampNeg) * (10 : Int32)) + (I 5 v2.toNatClampNeg)) < 0 ∨ 100 ≤ (((I 5 x_2.toNatClampNeg) * (10 : Int32)) + (I 5 v2.toNatClampNeg)).toNatClampNeg
                    · rw [if_pos hc_22] at h; cases h
                    · rw [if_neg hc_22] at h
                      refine az_E.oi (o := az_ai az_F ex (97, I, J, R) (26 + 1) (((I 5 x_2.toNatClampNeg) * (10 : Int32)) + (I 5 v2.toNatClampNeg))) (pc' := 33) (L' := [.ref 26, .int x_2, .int v2]) (S' := []) (σ' := (97, I, J, R)) (x := (I (26 + 1) (((I 5 x_2.toNatClampNeg) * (10 : Int32)) + (I 5 v2.toNatClampNeg)).toNatClampNeg)) rfl (if_neg hc_22) ?_
                      refine az_E.ret (v := some (.int (I (26 + 1) (((I 5 x_2.toNatClampNeg) * (10 : Int32)) + (I 5 v2.toNatClampNeg)).toNatClampNeg))) (σ' := (97, I, J, R)) rfl ?_
                      show az_E az_F ex 1 18 45 [.ref 32, .ref 26, .int v2, .int v3, .ref 34, .int v5, .int x_2, .retAddr 0] [.int (I (26 + 1) (((I 5 x_2.toNatClampNeg) * (10 : Int32)) + (I 5 v2.toNatClampNeg)).toNatClampNeg)] (97, I, J, R) _
                      refine az_E.sn 1 (pc' := 55) (L' := [.ref 32, .ref 26, .int v2, .int v3, .ref 34, .int v5, .int x_2, .retAddr 0]) (S' := [.int (I (26 + 1) (((I 5 x_2.toNatClampNeg) * (10 : Int32)) + (I 5 v2.toNatClampNeg)).toNatClampNeg)]) (σ' := (97, I, J, R)) rfl ?_
                      exact az_E.forget (L := [.ref 32, .ref 26, .int v2, .int v3, .ref 34, .int v5, .int x_2, .retAddr 0]) ⟨rfl, rfl, rfl, rfl, rfl, rfl, rfl, trivial, trivial⟩ (re_Fi_relax_55_26_34_5 (I := I) (J := J) (R := R) hR_26_3 h hQ)
set_option maxRecDepth 100000 in
set_option maxHeartbeats 4000000 in
theorem re_Fi_relax_3_26_34_5 {ex : az_X} {I : Nat → Nat → Int32} {J : Nat → Nat → Int64} {R : Nat → Nat → Option Nat} {v2 : Int32} {v3 : Int32} {v5 : Int32} (hR_26_3 : R 26 3 = some 5) {x : (Nat → Nat → Int32)} (h : rs_Fi_relax_3 26 34 I v2 v3 v5 = some x) {Q : Option Value → az_S → Prop} (hQ : Q none (97, x, J, R)) : az_E az_F ex 1 18 3 [.ref 32, .ref 26, .int v2, .int v3, .ref 34, .int v5, .retAddr 0, .retAddr 0] [] (97, I, J, R) Q := by
  unfold rs_Fi_relax_3 at h
  refine az_lp_E (G := fun s => az_E az_F ex 1 18 3 [.ref 32, .ref 26, .int v2, .int v3, .ref 34, .int s.1, .retAddr 0, .retAddr 0] [] (97, s.2, J, R) Q) (H := fun x => Q none (97, x, J, R)) (fun s o hb ho => ?_) _ _ _ h hQ
  exact re_Fi_relax_3_b_26_34_5 hR_26_3 hb ho
set_option maxRecDepth 100000 in
set_option maxHeartbeats 4000000 in
theorem re_Fi_relax_26_34_5 {ex : az_X} {I : Nat → Nat → Int32} {J : Nat → Nat → Int64} {R : Nat → Nat → Option Nat} {a2 : Int32} {a3 : Int32} (hR_26_3 : R 26 3 = some 5) {o : (Nat → Nat → Int32)} (h : rs_Fi_relax 26 34 I a2 a3 = some o) {Q : Option Value → az_S → Prop} (hQ : Q none (97, o, J, R)) : az_E az_F ex 1 18 0 [.ref 32, .ref 26, .int a2, .int a3, .ref 34, .retAddr 0, .retAddr 0, .retAddr 0] [] (97, I, J, R) Q := by
  unfold rs_Fi_relax at h
  refine az_E.sn 2 (pc' := 3) (L' := [.ref 32, .ref 26, .int a2, .int a3, .ref 34, .int (0 : Int32), .retAddr 0, .retAddr 0]) (S' := []) (σ' := (97, I, J, R)) rfl ?_
  exact az_E.forget (L := [.ref 32, .ref 26, .int a2, .int a3, .ref 34, .int (0 : Int32), .retAddr 0, .retAddr 0]) ⟨rfl, rfl, rfl, rfl, rfl, rfl, trivial, trivial, trivial⟩ (re_Fi_relax_3_26_34_5 (I := I) (J := J) (R := R) hR_26_3 h hQ)
set_option maxRecDepth 100000 in
set_option maxHeartbeats 4000000 in
theorem re_Fi_spread_149_26_34_5 {ex : az_X} {I : Nat → Nat → Int32} {J : Nat → Nat → Int64} {R : Nat → Nat → Option Nat} {v3 : Int32} {v4 : Int32} {v6 : Int32} {v7 : Int32} (hR_26_3 : R 26 3 = some 5) {x : ((Int32 × (Nat → Nat → Int32)) ⊕ ((Nat → Nat → Int32)))} (h : rs_Fi_spread_149 26 34 I v3 v4 v6 v7 = some x) {Q : Option Value → az_S → Prop} (hQ : Sum.elim (fun s => az_E az_F ex 2 17 40 [.ref 32, .ref 26, .retAddr 0, .int v3, .int v4, .ref 34, .int s.1, .retAddr 0, .retAddr 0, .retAddr 0, .retAddr 0] [] (97, s.2, J, R) Q) (fun x => Q none (97, x, J, R)) x) : az_E az_F ex 2 17 149 [.ref 32, .ref 26, .retAddr 0, .int v3, .int v4, .ref 34, .int v6, .int v7, .retAddr 0, .retAddr 0, .retAddr 0] [] (97, I, J, R) Q := by
  unfold rs_Fi_spread_149 at h
  refine az_E.sn 4 (pc' := 156) (L' := [.ref 32, .ref 26, .retAddr 0, .int v3, .int v4, .ref 34, .int v6, .int v7, .retAddr 0, .retAddr 0, .retAddr 0]) (S' := [.int (-1 : Int32), .int v7, .ref 36]) (σ' := (97, I, J, R)) rfl ?_
  by_cases hc_9 : v7 < 0 ∨ 100 ≤ v7.toNatClampNeg
  · rw [if_pos hc_9] at h; cases h
  · rw [if_neg hc_9] at h
    refine az_E.o (o := az_si az_F (97, I, J, R) 36 v7 (-1 : Int32)) (pc' := 157) (L' := [.ref 32, .ref 26, .retAddr 0, .int v3, .int v4, .ref 34, .int v6, .int v7, .retAddr 0, .retAddr 0, .retAddr 0]) (S' := []) (x := (97, (az_u I 36 v7.toNatClampNeg (-1 : Int32)), J, R)) rfl (if_neg hc_9) ?_
    refine az_E.sn 2 (pc' := 40) (L' := [.ref 32, .ref 26, .retAddr 0, .int v3, .int v4, .ref 34, .int (v6 + (1 : Int32)), .int v7, .retAddr 0, .retAddr 0, .retAddr 0]) (S' := []) (σ' := (97, (az_u I 36 v7.toNatClampNeg (-1 : Int32)), J, R)) rfl ?_
    have h := Option.some.inj h
    subst h
    exact az_E.forget (L := [.ref 32, .ref 26, .retAddr 0, .int v3, .int v4, .ref 34, .int (v6 + (1 : Int32)), .retAddr 0, .retAddr 0, .retAddr 0, .retAddr 0]) ⟨rfl, rfl, trivial, rfl, rfl, rfl, rfl, trivial, trivial, trivial, trivial, trivial⟩ hQ
set_option maxRecDepth 100000 in
set_option maxHeartbeats 4000000 in
theorem re_Fi_spread_74_b_26_34_5 {ex : az_X} {I : Nat → Nat → Int32} {J : Nat → Nat → Int64} {R : Nat → Nat → Option Nat} {v3 : Int32} {v4 : Int32} {v6 : Int32} {v7 : Int32} {v8 : Int32} {v9 : Int32} (hR_26_3 : R 26 3 = some 5) {x : ((Int32 × Int32 × (Nat → Nat → Int32)) ⊕ (((Int32 × (Nat → Nat → Int32)) ⊕ ((Nat → Nat → Int32)))))} (h : rs_Fi_spread_74_b 26 34 v3 v4 v6 v7 v8 v9 I = some x) {Q : Option Value → az_S → Prop} (hQ : Sum.elim (fun s => az_E az_F ex 2 17 74 [.ref 32, .ref 26, .retAddr 0, .int v3, .int v4, .ref 34, .int v6, .int v7, .int s.1, .int s.2.1, .retAddr 0] [] (97, s.2.2, J, R) Q) (fun x => Sum.elim (fun s => az_E az_F ex 2 17 40 [.ref 32, .ref 26, .retAddr 0, .int v3, .int v4, .ref 34, .int s.1, .retAddr 0, .retAddr 0, .retAddr 0, .retAddr 0] [] (97, s.2, J, R) Q) (fun x => Q none (97, x, J, R)) x) x) : az_E az_F ex 2 17 74 [.ref 32, .ref 26, .retAddr 0, .int v3, .int v4, .ref 34, .int v6, .int v7, .int v8, .int v9, .retAddr 0] [] (97, I, J, R) Q := by
  unfold rs_Fi_spread_74_b at h
  refine az_E.sn 2 (pc' := 79) (L' := [.ref 32, .ref 26, .retAddr 0, .int v3, .int v4, .ref 34, .int v6, .int v7, .int v8, .int v9, .retAddr 0]) (S' := [.int (577 : Int32), .int v9]) (σ' := (97, I, J, R)) rfl ?_
  refine az_E.br (c := (577 : Int32) ≤ v9) (tt := 149) (ff := 82) (L' := [.ref 32, .ref 26, .retAddr 0, .int v3, .int v4, .ref 34, .int v6, .int v7, .int v8, .int v9, .retAddr 0]) (S' := []) (σ' := (97, I, J, R)) rfl (fun hc_8 => ?_) (fun hc_8 => ?_)
  · rw [if_pos hc_8] at h
    obtain ⟨x, hx, rfl⟩ := Option.map_eq_some_iff.mp h
    exact az_E.forget (L := [.ref 32, .ref 26, .retAddr 0, .int v3, .int v4, .ref 34, .int v6, .int v7, .retAddr 0, .retAddr 0, .retAddr 0]) ⟨rfl, rfl, trivial, rfl, rfl, rfl, rfl, rfl, trivial, trivial, trivial, trivial⟩ (re_Fi_spread_149_26_34_5 (I := I) (J := J) (R := R) hR_26_3 hx hQ)
  · rw [if_neg hc_8] at h
    refine az_E.sn 1 (pc' := 84) (L' := [.ref 32, .ref 26, .retAddr 0, .int v3, .int v4, .ref 34, .int v6, .int v7, .int v8, .int v9, .retAddr 0]) (S' := [.int v8]) (σ' := (97, I, J, R)) rfl ?_
    refine az_E.br (c := v8 < 0) (tt := 149) (ff := 87) (L' := [.ref 32, .ref 26, .retAddr 0, .int v3, .int v4, .ref 34, .int v6, .int v7, .int v8, .int v9, .retAddr 0]) (S' := []) (σ' := (97, I, J, R)) rfl (fun hc_10 => ?_) (fun hc_10 => ?_)
    · rw [if_pos hc_10] at h
      obtain ⟨x, hx, rfl⟩ := Option.map_eq_some_iff.mp h
      exact az_E.forget (L := [.ref 32, .ref 26, .retAddr 0, .int v3, .int v4, .ref 34, .int v6, .int v7, .retAddr 0, .retAddr 0, .retAddr 0]) ⟨rfl, rfl, trivial, rfl, rfl, rfl, rfl, rfl, trivial, trivial, trivial, trivial⟩ (re_Fi_spread_149_26_34_5 (I := I) (J := J) (R := R) hR_26_3 hx hQ)
    · rw [if_neg hc_10] at h
      refine az_E.sn 3 (pc' := 93) (L' := [.ref 32, .ref 26, .retAddr 0, .int v3, .int v4, .ref 34, .int v6, .int v7, .int v8, .int v9, .retAddr 0]) (S' := [.int v8, .ref 38]) (σ' := (97, I, J, R)) rfl ?_
      by_cases hc_11 : v8 < 0 ∨ 577 ≤ v8.toNatClampNeg
      · rw [if_pos hc_11] at h; cases h
      · rw [if_neg hc_11] at h
        refine az_E.oi (o := az_ai az_F ex (97, I, J, R) 38 v8) (pc' := 94) (L' := [.ref 32, .ref 26, .retAddr 0, .int v3, .int v4, .ref 34, .int v6, .int v7, .int v8, .int v9, .retAddr 0]) (S' := []) (σ' := (97, I, J, R)) (x := (I 38 v8.toNatClampNeg)) rfl (if_neg hc_11) ?_
        refine az_E.sn 4 (pc' := 102) (L' := [.ref 32, .ref 26, .retAddr 0, .int v3, .int v4, .ref 34, .int v6, .int v7, .int v8, .int v9, .int (I 38 v8.toNatClampNeg)]) (S' := [.int v8, .ref 37]) (σ' := (97, I, J, R)) rfl ?_
        by_cases hc_12 : v8 < 0 ∨ 577 ≤ v8.toNatClampNeg
        · rw [if_pos hc_12] at h; cases h
        · rw [if_neg hc_12] at h
          refine az_E.oi (o := az_ai az_F ex (97, I, J, R) 37 v8) (pc' := 103) (L' := [.ref 32, .ref 26, .retAddr 0, .int v3, .int v4, .ref 34, .int v6, .int v7, .int v8, .int v9, .int (I 38 v8.toNatClampNeg)]) (S' := []) (σ' := (97, I, J, R)) (x := (I 37 v8.toNatClampNeg)) rfl (if_neg hc_12) ?_
          refine az_E.sn 9 (pc' := 119) (L' := [.ref 32, .ref 26, .retAddr 0, .int v3, .int v4, .ref 34, .int v6, .int v7, .int (I 37 v8.toNatClampNeg), .int v9, .int (I 38 v8.toNatClampNeg)]) (S' := [.int (I 38 v8.toNatClampNeg), .ref 34]) (σ' := (97, (az_u I 32 8 ((I 32 8) - (1 : Int32))), J, R)) rfl ?_
          by_cases hc_13 : (I 38 v8.toNatClampNeg) < 0 ∨ 144 ≤ (I 38 v8.toNatClampNeg).toNatClampNeg
          · rw [if_pos hc_13] at h; cases h
          · rw [if_neg hc_13] at h
            refine az_E.oi (o := az_ai az_F ex (97, (az_u I 32 8 ((I 32 8) - (1 : Int32))), J, R) 34 (I 38 v8.toNatClampNeg)) (pc' := 120) (L' := [.ref 32, .ref 26, .retAddr 0, .int v3, .int v4, .ref 34, .int v6, .int v7, .int (I 37 v8.toNatClampNeg), .int v9, .int (I 38 v8.toNatClampNeg)]) (S' := []) (σ' := (97, (az_u I 32 8 ((I 32 8) - (1 : Int32))), J, R)) (x := (I 34 (I 38 v8.toNatClampNeg).toNatClampNeg)) rfl (if_neg hc_13) ?_
            refine az_E.sn 1 (pc' := 122) (L' := [.ref 32, .ref 26, .retAddr 0, .int v3, .int v4, .ref 34, .int v6, .int v7, .int (I 37 v8.toNatClampNeg), .int v9, .int (I 38 v8.toNatClampNeg)]) (S' := [.int v6, .int (I 34 (I 38 v8.toNatClampNeg).toNatClampNeg)]) (σ' := (97, (az_u I 32 8 ((I 32 8) - (1 : Int32))), J, R)) rfl ?_
            refine az_E.br (c := (I 34 (I 38 v8.toNatClampNeg).toNatClampNeg) = v6) (tt := 125) (ff := 143) (L' := [.ref 32, .ref 26, .retAddr 0, .int v3, .int v4, .ref 34, .int v6, .int v7, .int (I 37 v8.toNatClampNeg), .int v9, .int (I 38 v8.toNatClampNeg)]) (S' := []) (σ' := (97, (az_u I 32 8 ((I 32 8) - (1 : Int32))), J, R)) rfl (fun hc_14 => ?_) (fun hc_14 => ?_)
            · rw [if_pos hc_14] at h
              refine az_E.sn 2 (pc' := 129) (L' := [.ref 32, .ref 26, .retAddr 0, .int v3, .int v4, .ref 34, .int v6, .int v7, .int (I 37 v8.toNatClampNeg), .int v9, .int (I 38 v8.toNatClampNeg)]) (S' := [.int v4, .int (I 38 v8.toNatClampNeg)]) (σ' := (97, (az_u I 32 8 ((I 32 8) - (1 : Int32))), J, R)) rfl ?_
              refine az_E.br (c := (I 38 v8.toNatClampNeg) = v4) (tt := 132) (ff := 133) (L' := [.ref 32, .ref 26, .retAddr 0, .int v3, .int v4, .ref 34, .int v6, .int v7, .int (I 37 v8.toNatClampNeg), .int v9, .int (I 38 v8.toNatClampNeg)]) (S' := []) (σ' := (97, (az_u I 32 8 ((I 32 8) - (1 : Int32))), J, R)) rfl (fun hc_15 => ?_) (fun hc_15 => ?_)
              · rw [if_pos hc_15] at h
                have h := Option.some.inj h
                subst h
                exact az_E.ret (v := none) (σ' := (97, (az_u I 32 8 ((I 32 8) - (1 : Int32))), J, R)) rfl hQ
              · rw [if_neg hc_15] at h
                refine az_E.sn 5 (pc' := 140) (L' := [.ref 32, .ref 26, .retAddr 0, .int v3, .int v4, .ref 34, .int v6, .int v7, .int (I 37 v8.toNatClampNeg), .int v9, .int (I 38 v8.toNatClampNeg)]) (S' := [.ref 34, .int v3, .int (I 38 v8.toNatClampNeg), .ref 26, .ref 32]) (σ' := (97, (az_u I 32 8 ((I 32 8) - (1 : Int32))), J, R)) rfl ?_
                cases hx_17 : rs_Fi_relax 26 34 (az_u I 32 8 ((I 32 8) - (1 : Int32))) (I 38 v8.toNatClampNeg) v3 with
                | none => rw [hx_17] at h; cases h
                | some I_16 =>
                  rw [hx_17] at h
                  dsimp only at h
                  refine az_E.call (d := 1) (k' := 18) (vs := [.ref 32, .ref 26, .int (I 38 v8.toNatClampNeg), .int v3, .ref 34]) (pc' := 143) (S' := []) (Q1 := fun v s => v = none ∧ s = (97, I_16, J, R)) rfl (az_E.deep (by omega) (re_Fi_relax_26_34_5 (J := J) (R := R) hR_26_3 hx_17 ⟨rfl, rfl⟩)) (fun v s hq => ?_)
                  obtain ⟨rfl, rfl⟩ := hq
                  show az_E az_F ex 2 17 143 [.ref 32, .ref 26, .retAddr 0, .int v3, .int v4, .ref 34, .int v6, .int v7, .int (I 37 v8.toNatClampNeg), .int v9, .int (I 38 v8.toNatClampNeg)] [] (97, I_16, J, R) _
                  refine az_E.sn 2 (pc' := 74) (L' := [.ref 32, .ref 26, .retAddr 0, .int v3, .int v4, .ref 34, .int v6, .int v7, .int (I 37 v8.toNatClampNeg), .int (v9 + (1 : Int32)), .int (I 38 v8.toNatClampNeg)]) (S' := []) (σ' := (97, I_16, J, R)) rfl ?_
                  have h := Option.some.inj h
                  subst h
                  exact az_E.forget (L := [.ref 32, .ref 26, .retAddr 0, .int v3, .int v4, .ref 34, .int v6, .int v7, .int (I 37 v8.toNatClampNeg), .int (v9 + (1 : Int32)), .retAddr 0]) ⟨rfl, rfl, trivial, rfl, rfl, rfl, rfl, rfl, rfl, rfl, trivial, trivial⟩ hQ
            · rw [if_neg hc_14] at h
              refine az_E.sn 2 (pc' := 74) (L' := [.ref 32, .ref 26, .retAddr 0, .int v3, .int v4, .ref 34, .int v6, .int v7, .int (I 37 v8.toNatClampNeg), .int (v9 + (1 : Int32)), .int (I 38 v8.toNatClampNeg)]) (S' := []) (σ' := (97, (az_u I 32 8 ((I 32 8) - (1 : Int32))), J, R)) rfl ?_
              have h := Option.some.inj h
              subst h
              exact az_E.forget (L := [.ref 32, .ref 26, .retAddr 0, .int v3, .int v4, .ref 34, .int v6, .int v7, .int (I 37 v8.toNatClampNeg), .int (v9 + (1 : Int32)), .retAddr 0]) ⟨rfl, rfl, trivial, rfl, rfl, rfl, rfl, rfl, rfl, rfl, trivial, trivial⟩ hQ
set_option maxRecDepth 100000 in
set_option maxHeartbeats 4000000 in
theorem re_Fi_spread_74_26_34_5 {ex : az_X} {I : Nat → Nat → Int32} {J : Nat → Nat → Int64} {R : Nat → Nat → Option Nat} {v3 : Int32} {v4 : Int32} {v6 : Int32} {v7 : Int32} {v8 : Int32} {v9 : Int32} (hR_26_3 : R 26 3 = some 5) {x : ((Int32 × (Nat → Nat → Int32)) ⊕ ((Nat → Nat → Int32)))} (h : rs_Fi_spread_74 26 34 I v3 v4 v6 v7 v8 v9 = some x) {Q : Option Value → az_S → Prop} (hQ : Sum.elim (fun s => az_E az_F ex 2 17 40 [.ref 32, .ref 26, .retAddr 0, .int v3, .int v4, .ref 34, .int s.1, .retAddr 0, .retAddr 0, .retAddr 0, .retAddr 0] [] (97, s.2, J, R) Q) (fun x => Q none (97, x, J, R)) x) : az_E az_F ex 2 17 74 [.ref 32, .ref 26, .retAddr 0, .int v3, .int v4, .ref 34, .int v6, .int v7, .int v8, .int v9, .retAddr 0] [] (97, I, J, R) Q := by
  unfold rs_Fi_spread_74 at h
  refine az_lp_E (G := fun s => az_E az_F ex 2 17 74 [.ref 32, .ref 26, .retAddr 0, .int v3, .int v4, .ref 34, .int v6, .int v7, .int s.1, .int s.2.1, .retAddr 0] [] (97, s.2.2, J, R) Q) (H := fun x => Sum.elim (fun s => az_E az_F ex 2 17 40 [.ref 32, .ref 26, .retAddr 0, .int v3, .int v4, .ref 34, .int s.1, .retAddr 0, .retAddr 0, .retAddr 0, .retAddr 0] [] (97, s.2, J, R) Q) (fun x => Q none (97, x, J, R)) x) (fun s o hb ho => ?_) _ _ _ h hQ
  exact re_Fi_spread_74_b_26_34_5 hR_26_3 hb ho
set_option maxRecDepth 100000 in
set_option maxHeartbeats 4000000 in
theorem re_Fi_spread_40_b_26_34_5 {ex : az_X} {I : Nat → Nat → Int32} {J : Nat → Nat → Int64} {R : Nat → Nat → Option Nat} {v3 : Int32} {v4 : Int32} {v6 : Int32} (hR_26_3 : R 26 3 = some 5) {x : ((Int32 × (Nat → Nat → Int32)) ⊕ ((Nat → Nat → Int32)))} (h : rs_Fi_spread_40_b 26 34 v3 v4 v6 I = some x) {Q : Option Value → az_S → Prop} (hQ : Sum.elim (fun s => az_E az_F ex 2 17 40 [.ref 32, .ref 26, .retAddr 0, .int v3, .int v4, .ref 34, .int s.1, .retAddr 0, .retAddr 0, .retAddr 0, .retAddr 0] [] (97, s.2, J, R) Q) (fun x => Q none (97, x, J, R)) x) : az_E az_F ex 2 17 40 [.ref 32, .ref 26, .retAddr 0, .int v3, .int v4, .ref 34, .int v6, .retAddr 0, .retAddr 0, .retAddr 0, .retAddr 0] [] (97, I, J, R) Q := by
  unfold rs_Fi_spread_40_b at h
  refine az_E.sn 2 (pc' := 45) (L' := [.ref 32, .ref 26, .retAddr 0, .int v3, .int v4, .ref 34, .int v6, .retAddr 0, .retAddr 0, .retAddr 0, .retAddr 0]) (S' := [.int (14256 : Int32), .int v6]) (σ' := (97, I, J, R)) rfl ?_
  refine az_E.br (c := (14256 : Int32) ≤ v6) (tt := 163) (ff := 48) (L' := [.ref 32, .ref 26, .retAddr 0, .int v3, .int v4, .ref 34, .int v6, .retAddr 0, .retAddr 0, .retAddr 0, .retAddr 0]) (S' := []) (σ' := (97, I, J, R)) rfl (fun hc_4 => ?_) (fun hc_4 => ?_)
  · rw [if_pos hc_4] at h
    have h := Option.some.inj h
    subst h
    exact az_E.ret (v := none) (σ' := (97, I, J, R)) rfl hQ
  · rw [if_neg hc_4] at h
    refine az_E.sn 2 (pc' := 52) (L' := [.ref 32, .ref 26, .retAddr 0, .int v3, .int v4, .ref 34, .int v6, .retAddr 0, .retAddr 0, .retAddr 0, .retAddr 0]) (S' := [.int (I 32 8)]) (σ' := (97, I, J, R)) rfl ?_
    refine az_E.br (c := (I 32 8) ≤ 0) (tt := 163) (ff := 55) (L' := [.ref 32, .ref 26, .retAddr 0, .int v3, .int v4, .ref 34, .int v6, .retAddr 0, .retAddr 0, .retAddr 0, .retAddr 0]) (S' := []) (σ' := (97, I, J, R)) rfl (fun hc_5 => ?_) (fun hc_5 => ?_)
    · rw [if_pos hc_5] at h
      have h := Option.some.inj h
      subst h
      exact az_E.ret (v := none) (σ' := (97, I, J, R)) rfl hQ
    · rw [if_neg hc_5] at h
      refine az_E.sn 2 (pc' := 59) (L' := [.ref 32, .ref 26, .retAddr 0, .int v3, .int v4, .ref 34, .int v6, .retAddr 0, .retAddr 0, .retAddr 0, .retAddr 0]) (S' := [.int (100 : Int32), .int v6]) (σ' := (97, I, J, R)) rfl ?_
      have hd_6 : ¬ ((100 : Int32) = 0) := by decide
      refine az_E.dv (c := (100 : Int32) = 0) (pc' := 60) (L' := [.ref 32, .ref 26, .retAddr 0, .int v3, .int v4, .ref 34, .int v6, .retAddr 0, .retAddr 0, .retAddr 0, .retAddr 0]) (S' := [.int (v6 - v6 / (100 : Int32) * (100 : Int32))]) (σ' := (97, I, J, R)) rfl hd_6 ?_
      refine az_E.sn 4 (pc' := 68) (L' := [.ref 32, .ref 26, .retAddr 0, .int v3, .int v4, .ref 34, .int v6, .int (v6 - v6 / (100 : Int32) * (100 : Int32)), .retAddr 0, .retAddr 0, .retAddr 0]) (S' := [.int (v6 - v6 / (100 : Int32) * (100 : Int32)), .ref 36]) (σ' := (97, I, J, R)) rfl ?_
      by_cases hc_7 : (v6 - v6 / (100 : Int32) * (100 : Int32)) < 0 ∨ 100 ≤ (v6 - v6 / (100 : Int32) * (100 : Int32)).toNatClampNeg
      · rw [if_pos hc_7] at h; cases h
      · rw [if_neg hc_7] at h
        refine az_E.oi (o := az_ai az_F ex (97, I, J, R) 36 (v6 - v6 / (100 : Int32) * (100 : Int32))) (pc' := 69) (L' := [.ref 32, .ref 26, .retAddr 0, .int v3, .int v4, .ref 34, .int v6, .int (v6 - v6 / (100 : Int32) * (100 : Int32)), .retAddr 0, .retAddr 0, .retAddr 0]) (S' := []) (σ' := (97, I, J, R)) (x := (I 36 (v6 - v6 / (100 : Int32) * (100 : Int32)).toNatClampNeg)) rfl (if_neg hc_7) ?_
        refine az_E.sn 3 (pc' := 74) (L' := [.ref 32, .ref 26, .retAddr 0, .int v3, .int v4, .ref 34, .int v6, .int (v6 - v6 / (100 : Int32) * (100 : Int32)), .int (I 36 (v6 - v6 / (100 : Int32) * (100 : Int32)).toNatClampNeg), .int (0 : Int32), .retAddr 0]) (S' := []) (σ' := (97, I, J, R)) rfl ?_
        exact az_E.forget (L := [.ref 32, .ref 26, .retAddr 0, .int v3, .int v4, .ref 34, .int v6, .int (v6 - v6 / (100 : Int32) * (100 : Int32)), .int (I 36 (v6 - v6 / (100 : Int32) * (100 : Int32)).toNatClampNeg), .int (0 : Int32), .retAddr 0]) ⟨rfl, rfl, trivial, rfl, rfl, rfl, rfl, rfl, rfl, rfl, trivial, trivial⟩ (re_Fi_spread_74_26_34_5 (I := I) (J := J) (R := R) hR_26_3 h hQ)
set_option maxRecDepth 100000 in
set_option maxHeartbeats 4000000 in
theorem re_Fi_spread_40_26_34_5 {ex : az_X} {I : Nat → Nat → Int32} {J : Nat → Nat → Int64} {R : Nat → Nat → Option Nat} {v3 : Int32} {v4 : Int32} {v6 : Int32} (hR_26_3 : R 26 3 = some 5) {x : (Nat → Nat → Int32)} (h : rs_Fi_spread_40 26 34 I v3 v4 v6 = some x) {Q : Option Value → az_S → Prop} (hQ : Q none (97, x, J, R)) : az_E az_F ex 2 17 40 [.ref 32, .ref 26, .retAddr 0, .int v3, .int v4, .ref 34, .int v6, .retAddr 0, .retAddr 0, .retAddr 0, .retAddr 0] [] (97, I, J, R) Q := by
  unfold rs_Fi_spread_40 at h
  refine az_lp_E (G := fun s => az_E az_F ex 2 17 40 [.ref 32, .ref 26, .retAddr 0, .int v3, .int v4, .ref 34, .int s.1, .retAddr 0, .retAddr 0, .retAddr 0, .retAddr 0] [] (97, s.2, J, R) Q) (H := fun x => Q none (97, x, J, R)) (fun s o hb ho => ?_) _ _ _ h hQ
  exact re_Fi_spread_40_b_26_34_5 hR_26_3 hb ho
set_option maxRecDepth 100000 in
set_option maxHeartbeats 4000000 in
theorem re_Fi_spread_26_34_5 {ex : az_X} {I : Nat → Nat → Int32} {J : Nat → Nat → Int64} {R : Nat → Nat → Option Nat} {a2 : Int32} {a3 : Int32} {a4 : Int32} (hR_26_3 : R 26 3 = some 5) {o : (Nat → Nat → Int32)} (h : rs_Fi_spread 26 34 I a2 a3 a4 = some o) {Q : Option Value → az_S → Prop} (hQ : Q none (97, o, J, R)) : az_E az_F ex 2 17 0 [.ref 32, .ref 26, .int a2, .int a3, .int a4, .ref 34, .retAddr 0, .retAddr 0, .retAddr 0, .retAddr 0, .retAddr 0] [] (97, I, J, R) Q := by
  unfold rs_Fi_spread at h
  refine az_E.sn 2 (pc' := 5) (L' := [.ref 32, .ref 26, .int a2, .int a3, .int a4, .ref 34, .retAddr 0, .retAddr 0, .retAddr 0, .retAddr 0, .retAddr 0]) (S' := [.int (14256 : Int32), .ref 34]) (σ' := (97, I, J, R)) rfl ?_
  refine az_E.call (d := 1) (k' := 257) (vs := [.ref 34, .int (14256 : Int32)]) (pc' := 8) (S' := []) (Q1 := fun v s => v = none ∧ s = (97, (az_ur I 34 (az_fill 144 (14256 : Int32) (I 34))), J, R)) rfl (az_E.deep (by omega) (re_fillI (r := 34) rfl ⟨rfl, rfl⟩)) (fun v s hq => ?_)
  obtain ⟨rfl, rfl⟩ := hq
  show az_E az_F ex 2 17 8 [.ref 32, .ref 26, .int a2, .int a3, .int a4, .ref 34, .retAddr 0, .retAddr 0, .retAddr 0, .retAddr 0, .retAddr 0] [] (97, (az_ur I 34 (az_fill 144 (14256 : Int32) (I 34))), J, R) _
  refine az_E.sn 3 (pc' := 13) (L' := [.ref 32, .ref 26, .int a2, .int a3, .int a4, .ref 34, .retAddr 0, .retAddr 0, .retAddr 0, .retAddr 0, .retAddr 0]) (S' := [.int (-1 : Int32), .ref 36]) (σ' := (97, (az_ur I 34 (az_fill 144 (14256 : Int32) (I 34))), J, R)) rfl ?_
  refine az_E.call (d := 1) (k' := 257) (vs := [.ref 36, .int (-1 : Int32)]) (pc' := 16) (S' := []) (Q1 := fun v s => v = none ∧ s = (97, (az_ur (az_ur I 34 (az_fill 144 (14256 : Int32) (I 34))) 36 (az_fill 100 (-1 : Int32) ((az_ur I 34 (az_fill 144 (14256 : Int32) (I 34))) 36))), J, R)) rfl (az_E.deep (by omega) (re_fillI (r := 36) rfl ⟨rfl, rfl⟩)) (fun v s hq => ?_)
  obtain ⟨rfl, rfl⟩ := hq
  show az_E az_F ex 2 17 16 [.ref 32, .ref 26, .int a2, .int a3, .int a4, .ref 34, .retAddr 0, .retAddr 0, .retAddr 0, .retAddr 0, .retAddr 0] [] (97, (az_ur (az_ur I 34 (az_fill 144 (14256 : Int32) (I 34))) 36 (az_fill 100 (-1 : Int32) ((az_ur I 34 (az_fill 144 (14256 : Int32) (I 34))) 36))), J, R) _
  refine az_E.sn 9 (pc' := 30) (L' := [.ref 32, .ref 26, .int a2, .int a3, .int a4, .ref 34, .retAddr 0, .retAddr 0, .retAddr 0, .retAddr 0, .retAddr 0]) (S' := [.int (0 : Int32), .int a2, .ref 34]) (σ' := (97, (az_u (az_u (az_ur (az_ur I 34 (az_fill 144 (14256 : Int32) (I 34))) 36 (az_fill 100 (-1 : Int32) ((az_ur I 34 (az_fill 144 (14256 : Int32) (I 34))) 36))) 32 7 (0 : Int32)) 32 8 (0 : Int32)), J, R)) rfl ?_
  by_cases hc_1 : a2 < 0 ∨ 144 ≤ a2.toNatClampNeg
  · rw [if_pos hc_1] at h; cases h
  · rw [if_neg hc_1] at h
    refine az_E.o (o := az_si az_F (97, (az_u (az_u (az_ur (az_ur I 34 (az_fill 144 (14256 : Int32) (I 34))) 36 (az_fill 100 (-1 : Int32) ((az_ur I 34 (az_fill 144 (14256 : Int32) (I 34))) 36))) 32 7 (0 : Int32)) 32 8 (0 : Int32)), J, R) 34 a2 (0 : Int32)) (pc' := 31) (L' := [.ref 32, .ref 26, .int a2, .int a3, .int a4, .ref 34, .retAddr 0, .retAddr 0, .retAddr 0, .retAddr 0, .retAddr 0]) (S' := []) (x := (97, (az_u (az_u (az_u (az_ur (az_ur I 34 (az_fill 144 (14256 : Int32) (I 34))) 36 (az_fill 100 (-1 : Int32) ((az_ur I 34 (az_fill 144 (14256 : Int32) (I 34))) 36))) 32 7 (0 : Int32)) 32 8 (0 : Int32)) 34 a2.toNatClampNeg (0 : Int32)), J, R)) rfl (if_neg hc_1) ?_
    refine az_E.sn 3 (pc' := 34) (L' := [.ref 32, .ref 26, .int a2, .int a3, .int a4, .ref 34, .retAddr 0, .retAddr 0, .retAddr 0, .retAddr 0, .retAddr 0]) (S' := [.int (0 : Int32), .int a2, .ref 32]) (σ' := (97, (az_u (az_u (az_u (az_ur (az_ur I 34 (az_fill 144 (14256 : Int32) (I 34))) 36 (az_fill 100 (-1 : Int32) ((az_ur I 34 (az_fill 144 (14256 : Int32) (I 34))) 36))) 32 7 (0 : Int32)) 32 8 (0 : Int32)) 34 a2.toNatClampNeg (0 : Int32)), J, R)) rfl ?_
    cases hx_3 : rs_Fi_enter (az_u (az_u (az_u (az_ur (az_ur I 34 (az_fill 144 (14256 : Int32) (I 34))) 36 (az_fill 100 (-1 : Int32) ((az_ur I 34 (az_fill 144 (14256 : Int32) (I 34))) 36))) 32 7 (0 : Int32)) 32 8 (0 : Int32)) 34 a2.toNatClampNeg (0 : Int32)) a2 (0 : Int32) with
    | none => rw [hx_3] at h; cases h
    | some I_2 =>
      rw [hx_3] at h
      dsimp only at h
      refine az_E.call (d := 1) (k' := 19) (vs := [.ref 32, .int a2, .int (0 : Int32)]) (pc' := 37) (S' := []) (Q1 := fun v s => v = none ∧ s = (97, I_2, J, R)) rfl (az_E.deep (by omega) (re_Fi_enter (J := J) (R := R)  hx_3 ⟨rfl, rfl⟩)) (fun v s hq => ?_)
      obtain ⟨rfl, rfl⟩ := hq
      show az_E az_F ex 2 17 37 [.ref 32, .ref 26, .int a2, .int a3, .int a4, .ref 34, .retAddr 0, .retAddr 0, .retAddr 0, .retAddr 0, .retAddr 0] [] (97, I_2, J, R) _
      refine az_E.sn 2 (pc' := 40) (L' := [.ref 32, .ref 26, .int a2, .int a3, .int a4, .ref 34, .int (0 : Int32), .retAddr 0, .retAddr 0, .retAddr 0, .retAddr 0]) (S' := []) (σ' := (97, I_2, J, R)) rfl ?_
      exact az_E.forget (L := [.ref 32, .ref 26, .retAddr 0, .int a3, .int a4, .ref 34, .int (0 : Int32), .retAddr 0, .retAddr 0, .retAddr 0, .retAddr 0]) ⟨rfl, rfl, trivial, rfl, rfl, rfl, rfl, trivial, trivial, trivial, trivial, trivial⟩ (re_Fi_spread_40_26_34_5 (I := I_2) (J := J) (R := R) hR_26_3 h hQ)
set_option maxRecDepth 100000 in
set_option maxHeartbeats 4000000 in
theorem re_X_meet_171_16_21 {ex : az_X} {I : Nat → Nat → Int32} {J : Nat → Nat → Int64} {R : Nat → Nat → Option Nat} {v3 : Int32} {v4 : Int32} {v5 : Int32} (hR_3_2 : R 3 2 = some 16) (hR_3_3 : R 3 3 = some 21) {x : Int32 × (Nat → Nat → Int32)} (h : rs_X_meet_171 21 16 I v3 v4 v5 = some x) {Q : Option Value → az_S → Prop} (hQ : ∀ R' : Nat → Nat → Option Nat, R' 3 2 = some 16 → R' 3 3 = some 21 → Q (some (.int x.1)) (97, x.2, J, R')) : az_E az_F ex 6 97 171 [.retAddr 0, .retAddr 0, .retAddr 0, .int v3, .int v4, .int v5, .retAddr 0, .retAddr 0] [] (97, I, J, (az_u (az_u (az_u (az_u R 26 2 (some 16)) 26 3 (some 5)) 26 2 (some 16)) 26 3 (some 5))) Q := by
  unfold rs_X_meet_171 at h
  refine az_E.sn 1 (pc' := 172) (L' := [.retAddr 0, .retAddr 0, .retAddr 0, .int v3, .int v4, .int v5, .retAddr 0, .retAddr 0]) (S' := [.int v3]) (σ' := (97, I, J, (az_u (az_u (az_u (az_u R 26 2 (some 16)) 26 3 (some 5)) 26 2 (some 16)) 26 3 (some 5)))) rfl ?_
  refine az_E.br (c := v3 = 0) (tt := 175) (ff := 180) (L' := [.retAddr 0, .retAddr 0, .retAddr 0, .int v3, .int v4, .int v5, .retAddr 0, .retAddr 0]) (S' := []) (σ' := (97, I, J, (az_u (az_u (az_u (az_u R 26 2 (some 16)) 26 3 (some 5)) 26 2 (some 16)) 26 3 (some 5)))) rfl (fun hc_23 => ?_) (fun hc_23 => ?_)
  · rw [if_pos hc_23] at h
    refine az_E.sn 2 (pc' := 182) (L' := [.retAddr 0, .retAddr 0, .retAddr 0, .int v3, .int v4, .int v5, .retAddr 0, .retAddr 0]) (S' := [.int v4]) (σ' := (97, I, J, (az_u (az_u (az_u (az_u R 26 2 (some 16)) 26 3 (some 5)) 26 2 (some 16)) 26 3 (some 5)))) rfl ?_
    have h := Option.some.inj h
    subst h
    exact az_E.ret (v := some (.int v4)) (σ' := (97, I, J, (az_u (az_u (az_u (az_u R 26 2 (some 16)) 26 3 (some 5)) 26 2 (some 16)) 26 3 (some 5)))) rfl (hQ _ hR_3_2 hR_3_3)
  · rw [if_neg hc_23] at h
    refine az_E.sn 1 (pc' := 182) (L' := [.retAddr 0, .retAddr 0, .retAddr 0, .int v3, .int v4, .int v5, .retAddr 0, .retAddr 0]) (S' := [.int v5]) (σ' := (97, I, J, (az_u (az_u (az_u (az_u R 26 2 (some 16)) 26 3 (some 5)) 26 2 (some 16)) 26 3 (some 5)))) rfl ?_
    have h := Option.some.inj h
    subst h
    exact az_E.ret (v := some (.int v5)) (σ' := (97, I, J, (az_u (az_u (az_u (az_u R 26 2 (some 16)) 26 3 (some 5)) 26 2 (some 16)) 26 3 (some 5)))) rfl (hQ _ hR_3_2 hR_3_3)
set_option maxRecDepth 100000 in
set_option maxHeartbeats 4000000 in
theorem re_X_meet_117_b_16_21 {ex : az_X} {I : Nat → Nat → Int32} {J : Nat → Nat → Int64} {R : Nat → Nat → Option Nat} {v3 : Int32} {v4 : Int32} {v5 : Int32} {v6 : Int32} (hR_3_2 : R 3 2 = some 16) (hR_3_3 : R 3 3 = some 21) {x : ((Int32 × Int32 × Int32) ⊕ (Int32 × (Nat → Nat → Int32)))} (h : rs_X_meet_117_b 21 16 I v3 v4 v5 v6 = some x) {Q : Option Value → az_S → Prop} (hQ : Sum.elim (fun s => az_E az_F ex 6 97 117 [.ref 3, .retAddr 0, .retAddr 0, .int v3, .int s.1, .int s.2.1, .int s.2.2, .retAddr 0] [] (97, I, J, (az_u (az_u (az_u (az_u R 26 2 (some 16)) 26 3 (some 5)) 26 2 (some 16)) 26 3 (some 5))) Q) (fun x => ∀ R' : Nat → Nat → Option Nat, R' 3 2 = some 16 → R' 3 3 = some 21 → Q (some (.int x.1)) (97, x.2, J, R')) x) : az_E az_F ex 6 97 117 [.ref 3, .retAddr 0, .retAddr 0, .int v3, .int v4, .int v5, .int v6, .retAddr 0] [] (97, I, J, (az_u (az_u (az_u (az_u R 26 2 (some 16)) 26 3 (some 5)) 26 2 (some 16)) 26 3 (some 5))) Q := by
  unfold rs_X_meet_117_b at h
  refine az_E.sn 2 (pc' := 122) (L' := [.ref 3, .retAddr 0, .retAddr 0, .int v3, .int v4, .int v5, .int v6, .retAddr 0]) (S' := [.int (144 : Int32), .int v6]) (σ' := (97, I, J, (az_u (az_u (az_u (az_u R 26 2 (some 16)) 26 3 (some 5)) 26 2 (some 16)) 26 3 (some 5)))) rfl ?_
  refine az_E.br (c := (144 : Int32) ≤ v6) (tt := 171) (ff := 125) (L' := [.ref 3, .retAddr 0, .retAddr 0, .int v3, .int v4, .int v5, .int v6, .retAddr 0]) (S' := []) (σ' := (97, I, J, (az_u (az_u (az_u (az_u R 26 2 (some 16)) 26 3 (some 5)) 26 2 (some 16)) 26 3 (some 5)))) rfl (fun hc_22 => ?_) (fun hc_22 => ?_)
  · rw [if_pos hc_22] at h
    obtain ⟨x, hx, rfl⟩ := Option.map_eq_some_iff.mp h
    exact az_E.forget (L := [.retAddr 0, .retAddr 0, .retAddr 0, .int v3, .int v4, .int v5, .retAddr 0, .retAddr 0]) ⟨trivial, trivial, trivial, rfl, rfl, rfl, trivial, trivial, trivial⟩ (re_X_meet_171_16_21 (I := I) (J := J) (R := R) hR_3_2 hR_3_3 hx hQ)
  · rw [if_neg hc_22] at h
    refine az_E.sn 4 (pc' := 134) (L' := [.ref 3, .retAddr 0, .retAddr 0, .int v3, .int v4, .int v5, .int v6, .retAddr 0]) (S' := [.int v6, .ref 33]) (σ' := (97, I, J, (az_u (az_u (az_u (az_u R 26 2 (some 16)) 26 3 (some 5)) 26 2 (some 16)) 26 3 (some 5)))) rfl ?_
    by_cases hc_24 : v6 < 0 ∨ 144 ≤ v6.toNatClampNeg
    · rw [if_pos hc_24] at h; cases h
    · rw [if_neg hc_24] at h
      refine az_E.oi (o := az_ai az_F ex (97, I, J, (az_u (az_u (az_u (az_u R 26 2 (some 16)) 26 3 (some 5)) 26 2 (some 16)) 26 3 (some 5))) 33 v6) (pc' := 135) (L' := [.ref 3, .retAddr 0, .retAddr 0, .int v3, .int v4, .int v5, .int v6, .retAddr 0]) (S' := []) (σ' := (97, I, J, (az_u (az_u (az_u (az_u R 26 2 (some 16)) 26 3 (some 5)) 26 2 (some 16)) 26 3 (some 5)))) (x := (I 33 v6.toNatClampNeg)) rfl (if_neg hc_24) ?_
      refine az_E.sn 4 (pc' := 144) (L' := [.ref 3, .retAddr 0, .retAddr 0, .int v3, .int v4, .int v5, .int v6, .retAddr 0]) (S' := [.int v6, .ref 34, .int (I 33 v6.toNatClampNeg)]) (σ' := (97, I, J, (az_u (az_u (az_u (az_u R 26 2 (some 16)) 26 3 (some 5)) 26 2 (some 16)) 26 3 (some 5)))) rfl ?_
      by_cases hc_25 : v6 < 0 ∨ 144 ≤ v6.toNatClampNeg
      · rw [if_pos hc_25] at h; cases h
      · rw [if_neg hc_25] at h
        refine az_E.oi (o := az_ai az_F ex (97, I, J, (az_u (az_u (az_u (az_u R 26 2 (some 16)) 26 3 (some 5)) 26 2 (some 16)) 26 3 (some 5))) 34 v6) (pc' := 145) (L' := [.ref 3, .retAddr 0, .retAddr 0, .int v3, .int v4, .int v5, .int v6, .retAddr 0]) (S' := [.int (I 33 v6.toNatClampNeg)]) (σ' := (97, I, J, (az_u (az_u (az_u (az_u R 26 2 (some 16)) 26 3 (some 5)) 26 2 (some 16)) 26 3 (some 5)))) (x := (I 34 v6.toNatClampNeg)) rfl (if_neg hc_25) ?_
        refine az_E.sn 4 (pc' := 154) (L' := [.ref 3, .retAddr 0, .retAddr 0, .int v3, .int v4, .int v5, .int v6, .int (if (I 33 v6.toNatClampNeg) < (I 34 v6.toNatClampNeg) then (I 34 v6.toNatClampNeg) else (I 33 v6.toNatClampNeg))]) (S' := [.int v5, .int (if (I 33 v6.toNatClampNeg) < (I 34 v6.toNatClampNeg) then (I 34 v6.toNatClampNeg) else (I 33 v6.toNatClampNeg))]) (σ' := (97, I, J, (az_u (az_u (az_u (az_u R 26 2 (some 16)) 26 3 (some 5)) 26 2 (some 16)) 26 3 (some 5)))) rfl ?_
        refine az_E.br (c := v5 ≤ (if (I 33 v6.toNatClampNeg) < (I 34 v6.toNatClampNeg) then (I 34 v6.toNatClampNeg) else (I 33 v6.toNatClampNeg))) (tt := 165) (ff := 157) (L' := [.ref 3, .retAddr 0, .retAddr 0, .int v3, .int v4, .int v5, .int v6, .int (if (I 33 v6.toNatClampNeg) < (I 34 v6.toNatClampNeg) then (I 34 v6.toNatClampNeg) else (I 33 v6.toNatClampNeg))]) (S' := []) (σ' := (97, I, J, (az_u (az_u (az_u (az_u R 26 2 (some 16)) 26 3 (some 5)) 26 2 (some 16)) 26 3 (some 5)))) rfl (fun hc_26 => ?_) (fun hc_26 => ?_)
        · rw [if_pos hc_26] at h
          refine az_E.sn 2 (pc' := 117) (L' := [.ref 3, .retAddr 0, .retAddr 0, .int v3, .int v4, .int v5, .int (v6 + (1 : Int32)), .int (if (I 33 v6.toNatClampNeg) < (I 34 v6.toNatClampNeg) then (I 34 v6.toNatClampNeg) else (I 33 v6.toNatClampNeg))]) (S' := []) (σ' := (97, I, J, (az_u (az_u (az_u (az_u R 26 2 (some 16)) 26 3 (some 5)) 26 2 (some 16)) 26 3 (some 5)))) rfl ?_
          have h := Option.some.inj h
          subst h
          exact az_E.forget (L := [.ref 3, .retAddr 0, .retAddr 0, .int v3, .int v4, .int v5, .int (v6 + (1 : Int32)), .retAddr 0]) ⟨rfl, trivial, trivial, rfl, rfl, rfl, rfl, trivial, trivial⟩ hQ
        · rw [if_neg hc_26] at h
          refine az_E.sn 6 (pc' := 117) (L' := [.ref 3, .retAddr 0, .retAddr 0, .int v3, .int v6, .int (if (I 33 v6.toNatClampNeg) < (I 34 v6.toNatClampNeg) then (I 34 v6.toNatClampNeg) else (I 33 v6.toNatClampNeg)), .int (v6 + (1 : Int32)), .int (if (I 33 v6.toNatClampNeg) < (I 34 v6.toNatClampNeg) then (I 34 v6.toNatClampNeg) else (I 33 v6.toNatClampNeg))]) (S' := []) (σ' := (97, I, J, (az_u (az_u (az_u (az_u R 26 2 (some 16)) 26 3 (some 5)) 26 2 (some 16)) 26 3 (some 5)))) rfl ?_
          have h := Option.some.inj h
          subst h
          exact az_E.forget (L := [.ref 3, .retAddr 0, .retAddr 0, .int v3, .int v6, .int (if (I 33 v6.toNatClampNeg) < (I 34 v6.toNatClampNeg) then (I 34 v6.toNatClampNeg) else (I 33 v6.toNatClampNeg)), .int (v6 + (1 : Int32)), .retAddr 0]) ⟨rfl, trivial, trivial, rfl, rfl, rfl, rfl, trivial, trivial⟩ hQ
set_option maxRecDepth 100000 in
set_option maxHeartbeats 4000000 in
theorem re_X_meet_117_16_21 {ex : az_X} {I : Nat → Nat → Int32} {J : Nat → Nat → Int64} {R : Nat → Nat → Option Nat} {v3 : Int32} {v4 : Int32} {v5 : Int32} {v6 : Int32} (hR_3_2 : R 3 2 = some 16) (hR_3_3 : R 3 3 = some 21) {x : Int32 × (Nat → Nat → Int32)} (h : rs_X_meet_117 21 16 I v3 v4 v5 v6 = some x) {Q : Option Value → az_S → Prop} (hQ : ∀ R' : Nat → Nat → Option Nat, R' 3 2 = some 16 → R' 3 3 = some 21 → Q (some (.int x.1)) (97, x.2, J, R')) : az_E az_F ex 6 97 117 [.ref 3, .retAddr 0, .retAddr 0, .int v3, .int v4, .int v5, .int v6, .retAddr 0] [] (97, I, J, (az_u (az_u (az_u (az_u R 26 2 (some 16)) 26 3 (some 5)) 26 2 (some 16)) 26 3 (some 5))) Q := by
  unfold rs_X_meet_117 at h
  refine az_lp_E (G := fun s => az_E az_F ex 6 97 117 [.ref 3, .retAddr 0, .retAddr 0, .int v3, .int s.1, .int s.2.1, .int s.2.2, .retAddr 0] [] (97, I, J, (az_u (az_u (az_u (az_u R 26 2 (some 16)) 26 3 (some 5)) 26 2 (some 16)) 26 3 (some 5))) Q) (H := fun x => ∀ R' : Nat → Nat → Option Nat, R' 3 2 = some 16 → R' 3 3 = some 21 → Q (some (.int x.1)) (97, x.2, J, R')) (fun s o hb ho => ?_) _ _ _ h hQ
  exact re_X_meet_117_b_16_21 hR_3_2 hR_3_3 hb ho
set_option maxRecDepth 100000 in
set_option maxHeartbeats 4000000 in
theorem re_X_meet_16_21 {ex : az_X} {I : Nat → Nat → Int32} {J : Nat → Nat → Int64} {R : Nat → Nat → Option Nat} {a1 : Int32} {a2 : Int32} {a3 : Int32} (hR_3_2 : R 3 2 = some 16) (hR_3_3 : R 3 3 = some 21) {o : Int32 × (Nat → Nat → Int32)} (h : rs_X_meet 21 16 I a1 a2 a3 = some o) {Q : Option Value → az_S → Prop} (hQ : ∀ R' : Nat → Nat → Option Nat, R' 3 2 = some 16 → R' 3 3 = some 21 → Q (some (.int o.1)) (97, o.2, J, R')) : az_E az_F ex 6 97 0 [.ref 3, .int a1, .int a2, .int a3, .retAddr 0, .retAddr 0, .retAddr 0, .retAddr 0] [] (97, I, J, R) Q := by
  unfold rs_X_meet at h
  refine az_E.sn 1 (pc' := 1) (L' := [.ref 3, .int a1, .int a2, .int a3, .retAddr 0, .retAddr 0, .retAddr 0, .retAddr 0]) (S' := [.int a1]) (σ' := (97, I, J, R)) rfl ?_
  cases hx_2 : rs_X_isFromTo a1 with
  | none => rw [hx_2] at h; cases h
  | some x_1 =>
    rw [hx_2] at h
    dsimp only at h
    refine az_E.call (d := 5) (k' := 134) (vs := [.int a1]) (pc' := 4) (S' := []) (Q1 := fun v s => v = some (.int x_1) ∧ s = (97, I, J, R)) rfl (az_E.deep (by omega) (re_X_isFromTo (J := J) (R := R)  hx_2 ⟨rfl, rfl⟩)) (fun v s hq => ?_)
    obtain ⟨rfl, rfl⟩ := hq
    show az_E az_F ex 6 97 4 [.ref 3, .int a1, .int a2, .int a3, .retAddr 0, .retAddr 0, .retAddr 0, .retAddr 0] [.int x_1] (97, I, J, R) _
    refine az_E.br (c := x_1 = 0) (tt := 22) (ff := 7) (L' := [.ref 3, .int a1, .int a2, .int a3, .retAddr 0, .retAddr 0, .retAddr 0, .retAddr 0]) (S' := []) (σ' := (97, I, J, R)) rfl (fun hc_3 => ?_) (fun hc_3 => ?_)
    · rw [if_pos hc_3] at h
      refine az_E.sn 1 (pc' := 23) (L' := [.ref 3, .int a1, .int a2, .int a3, .retAddr 0, .retAddr 0, .retAddr 0, .retAddr 0]) (S' := [.int (-1 : Int32)]) (σ' := (97, I, J, R)) rfl ?_
      have h := Option.some.inj h
      subst h
      exact az_E.ret (v := some (.int (-1 : Int32))) (σ' := (97, I, J, R)) rfl (hQ _ hR_3_2 hR_3_3)
    · rw [if_neg hc_3] at h
      refine az_E.sn 2 (pc' := 9) (L' := [.ref 3, .int a1, .int a2, .int a3, .retAddr 0, .retAddr 0, .retAddr 0, .retAddr 0]) (S' := [.int a2, .ref 3]) (σ' := (97, I, J, R)) rfl ?_
      cases hx_5 : rs_X_areTwoWalkers I a2 with
      | none => rw [hx_5] at h; cases h
      | some x_4 =>
        rw [hx_5] at h
        dsimp only at h
        refine az_E.call (d := 5) (k' := 140) (vs := [.ref 3, .int a2]) (pc' := 12) (S' := []) (Q1 := fun v s => v = some (.int x_4) ∧ s = (97, I, J, R)) rfl (az_E.deep (by omega) (re_X_areTwoWalkers (J := J) (R := R)  hx_5 ⟨rfl, rfl⟩)) (fun v s hq => ?_)
        obtain ⟨rfl, rfl⟩ := hq
        show az_E az_F ex 6 97 12 [.ref 3, .int a1, .int a2, .int a3, .retAddr 0, .retAddr 0, .retAddr 0, .retAddr 0] [.int x_4] (97, I, J, R) _
        refine az_E.br (c := x_4 = 0) (tt := 22) (ff := 15) (L' := [.ref 3, .int a1, .int a2, .int a3, .retAddr 0, .retAddr 0, .retAddr 0, .retAddr 0]) (S' := []) (σ' := (97, I, J, R)) rfl (fun hc_6 => ?_) (fun hc_6 => ?_)
        · rw [if_pos hc_6] at h
          refine az_E.sn 1 (pc' := 23) (L' := [.ref 3, .int a1, .int a2, .int a3, .retAddr 0, .retAddr 0, .retAddr 0, .retAddr 0]) (S' := [.int (-1 : Int32)]) (σ' := (97, I, J, R)) rfl ?_
          have h := Option.some.inj h
          subst h
          exact az_E.ret (v := some (.int (-1 : Int32))) (σ' := (97, I, J, R)) rfl (hQ _ hR_3_2 hR_3_3)
        · rw [if_neg hc_6] at h
          refine az_E.sn 1 (pc' := 16) (L' := [.ref 3, .int a1, .int a2, .int a3, .retAddr 0, .retAddr 0, .retAddr 0, .retAddr 0]) (S' := [.int a3]) (σ' := (97, I, J, R)) rfl ?_
          refine az_E.call (d := 5) (k' := 132) (vs := [.int a3]) (pc' := 19) (S' := []) rfl ?_ (fun _ _ hq => hq)
          show az_E az_F ex 5 132 0 [.int a3] [] (97, I, J, R) _
          refine az_E.sn 1 (pc' := 1) (L' := [.int a3]) (S' := [.int a3]) (σ' := (97, I, J, R)) rfl ?_
          refine az_E.br (c := a3 = 0) (tt := 9) (ff := 4) (L' := [.int a3]) (S' := []) (σ' := (97, I, J, R)) rfl (fun hc_7 => ?_) (fun hc_7 => ?_)
          · rw [if_pos hc_7] at h
            refine az_E.sn 2 (pc' := 14) (L' := [.int a3]) (S' := [.int (1 : Int32)]) (σ' := (97, I, J, R)) rfl ?_
            refine az_E.ret (v := some (.int (1 : Int32))) (σ' := (97, I, J, R)) rfl ?_
            show az_E az_F ex 6 97 19 [.ref 3, .int a1, .int a2, .int a3, .retAddr 0, .retAddr 0, .retAddr 0, .retAddr 0] [.int (1 : Int32)] (97, I, J, R) _
            refine az_E.br (c := (1 : Int32) = 0) (tt := 22) (ff := 24) (L' := [.ref 3, .int a1, .int a2, .int a3, .retAddr 0, .retAddr 0, .retAddr 0, .retAddr 0]) (S' := []) (σ' := (97, I, J, R)) rfl (fun hn => absurd hn (by decide)) (fun _ => ?_)
            refine az_E.sn 3 (pc' := 28) (L' := [.ref 3, .int a1, .int a2, .int a3, .retAddr 0, .retAddr 0, .retAddr 0, .retAddr 0]) (S' := [.int (10 : Int32), .int a2, .ref 3]) (σ' := (97, I, J, R)) rfl ?_
            have hd_8 : ¬ ((10 : Int32) = 0) := by decide
            refine az_E.dv (c := (10 : Int32) = 0) (pc' := 29) (L' := [.ref 3, .int a1, .int a2, .int a3, .retAddr 0, .retAddr 0, .retAddr 0, .retAddr 0]) (S' := [.int (a2 / (10 : Int32)), .ref 3]) (σ' := (97, I, J, R)) rfl hd_8 ?_
            cases hx_10 : rs_X_setPace 16 I (a2 / (10 : Int32)) with
            | none => rw [hx_10] at h; cases h
            | some I_9 =>
              rw [hx_10] at h
              dsimp only at h
              refine az_E.call (d := 5) (k' := 144) (vs := [.ref 3, .int (a2 / (10 : Int32))]) (pc' := 32) (S' := []) (Q1 := fun v s => v = none ∧ s = (97, I_9, J, (az_u (az_u R 26 2 (some 16)) 26 3 (some 5)))) rfl (az_E.deep (by omega) (re_X_setPace_16 (J := J) (R := R) hR_3_2 hx_10 ⟨rfl, rfl⟩)) (fun v s hq => ?_)
              obtain ⟨rfl, rfl⟩ := hq
              show az_E az_F ex 6 97 32 [.ref 3, .int a1, .int a2, .int a3, .retAddr 0, .retAddr 0, .retAddr 0, .retAddr 0] [] (97, I_9, J, (az_u (az_u R 26 2 (some 16)) 26 3 (some 5))) _
              refine az_E.sn 5 (pc' := 41) (L' := [.ref 3, .int a1, .int a2, .int a3, .retAddr 0, .retAddr 0, .retAddr 0, .retAddr 0]) (S' := [.int a1, .ref 26, .ref 32]) (σ' := (97, I_9, J, (az_u (az_u R 26 2 (some 16)) 26 3 (some 5)))) rfl ?_
              refine az_E.call (d := 5) (k' := 135) (vs := [.int a1]) (pc' := 44) (S' := [.ref 26, .ref 32]) rfl ?_ (fun _ _ hq => hq)
              show az_E az_F ex 5 135 0 [.int a1] [] (97, I_9, J, (az_u (az_u R 26 2 (some 16)) 26 3 (some 5))) _
              refine az_E.sn 2 (pc' := 4) (L' := [.int a1]) (S' := [.int (1000 : Int32), .int a1]) (σ' := (97, I_9, J, (az_u (az_u R 26 2 (some 16)) 26 3 (some 5)))) rfl ?_
              have hd_11 : ¬ ((1000 : Int32) = 0) := by decide
              refine az_E.dv (c := (1000 : Int32) = 0) (pc' := 5) (L' := [.int a1]) (S' := [.int (a1 / (1000 : Int32))]) (σ' := (97, I_9, J, (az_u (az_u R 26 2 (some 16)) 26 3 (some 5)))) rfl hd_11 ?_
              refine az_E.ret (v := some (.int (a1 / (1000 : Int32)))) (σ' := (97, I_9, J, (az_u (az_u R 26 2 (some 16)) 26 3 (some 5)))) rfl ?_
              show az_E az_F ex 6 97 44 [.ref 3, .int a1, .int a2, .int a3, .retAddr 0, .retAddr 0, .retAddr 0, .retAddr 0] [.int (a1 / (1000 : Int32)), .ref 26, .ref 32] (97, I_9, J, (az_u (az_u R 26 2 (some 16)) 26 3 (some 5))) _
              refine az_E.sn 5 (pc' := 53) (L' := [.ref 3, .int a1, .int a2, .int a3, .retAddr 0, .retAddr 0, .retAddr 0, .retAddr 0]) (S' := [.ref 33, .int (-1 : Int32), .int (0 : Int32), .int (a1 / (1000 : Int32)), .ref 26, .ref 32]) (σ' := (97, I_9, J, (az_u (az_u R 26 2 (some 16)) 26 3 (some 5)))) rfl ?_
              cases hx_13 : rs_Fi_spread 26 33 I_9 (a1 / (1000 : Int32)) (0 : Int32) (-1 : Int32) with
              | none => rw [hx_13] at h; cases h
              | some I_12 =>
                rw [hx_13] at h
                dsimp only at h
                refine az_E.call (d := 5) (k' := 17) (vs := [.ref 32, .ref 26, .int (a1 / (1000 : Int32)), .int (0 : Int32), .int (-1 : Int32), .ref 33]) (pc' := 56) (S' := []) (Q1 := fun v s => v = none ∧ s = (97, I_12, J, (az_u (az_u R 26 2 (some 16)) 26 3 (some 5)))) rfl (az_E.deep (by omega) (re_Fi_spread_26_33_5 (J := J) (R := (az_u (az_u R 26 2 (some 16)) 26 3 (some 5))) rfl hx_13 ⟨rfl, rfl⟩)) (fun v s hq => ?_)
                obtain ⟨rfl, rfl⟩ := hq
                show az_E az_F ex 6 97 56 [.ref 3, .int a1, .int a2, .int a3, .retAddr 0, .retAddr 0, .retAddr 0, .retAddr 0] [] (97, I_12, J, (az_u (az_u R 26 2 (some 16)) 26 3 (some 5))) _
                refine az_E.sn 3 (pc' := 60) (L' := [.ref 3, .int a1, .int a2, .int a3, .retAddr 0, .retAddr 0, .retAddr 0, .retAddr 0]) (S' := [.int (10 : Int32), .int a2, .ref 3]) (σ' := (97, I_12, J, (az_u (az_u R 26 2 (some 16)) 26 3 (some 5)))) rfl ?_
                have hd_14 : ¬ ((10 : Int32) = 0) := by decide
                refine az_E.dv (c := (10 : Int32) = 0) (pc' := 61) (L' := [.ref 3, .int a1, .int a2, .int a3, .retAddr 0, .retAddr 0, .retAddr 0, .retAddr 0]) (S' := [.int (a2 - a2 / (10 : Int32) * (10 : Int32)), .ref 3]) (σ' := (97, I_12, J, (az_u (az_u R 26 2 (some 16)) 26 3 (some 5)))) rfl hd_14 ?_
                cases hx_16 : rs_X_setPace 16 I_12 (a2 - a2 / (10 : Int32) * (10 : Int32)) with
                | none => rw [hx_16] at h; cases h
                | some I_15 =>
                  rw [hx_16] at h
                  dsimp only at h
                  refine az_E.call (d := 5) (k' := 144) (vs := [.ref 3, .int (a2 - a2 / (10 : Int32) * (10 : Int32))]) (pc' := 64) (S' := []) (Q1 := fun v s => v = none ∧ s = (97, I_15, J, (az_u (az_u (az_u (az_u R 26 2 (some 16)) 26 3 (some 5)) 26 2 (some 16)) 26 3 (some 5)))) rfl (az_E.deep (by omega) (re_X_setPace_16 (J := J) (R := (az_u (az_u R 26 2 (some 16)) 26 3 (some 5))) hR_3_2 hx_16 ⟨rfl, rfl⟩)) (fun v s hq => ?_)
                  obtain ⟨rfl, rfl⟩ := hq
                  show az_E az_F ex 6 97 64 [.ref 3, .int a1, .int a2, .int a3, .retAddr 0, .retAddr 0, .retAddr 0, .retAddr 0] [] (97, I_15, J, (az_u (az_u (az_u (az_u R 26 2 (some 16)) 26 3 (some 5)) 26 2 (some 16)) 26 3 (some 5))) _
                  refine az_E.sn 5 (pc' := 73) (L' := [.ref 3, .int a1, .int a2, .int a3, .retAddr 0, .retAddr 0, .retAddr 0, .retAddr 0]) (S' := [.int a1, .ref 26, .ref 32]) (σ' := (97, I_15, J, (az_u (az_u (az_u (az_u R 26 2 (some 16)) 26 3 (some 5)) 26 2 (some 16)) 26 3 (some 5)))) rfl ?_
                  refine az_E.call (d := 5) (k' := 136) (vs := [.int a1]) (pc' := 76) (S' := [.ref 26, .ref 32]) rfl ?_ (fun _ _ hq => hq)
                  show az_E az_F ex 5 136 0 [.int a1] [] (97, I_15, J, (az_u (az_u (az_u (az_u R 26 2 (some 16)) 26 3 (some 5)) 26 2 (some 16)) 26 3 (some 5))) _
                  refine az_E.sn 2 (pc' := 4) (L' := [.int a1]) (S' := [.int (1000 : Int32), .int a1]) (σ' := (97, I_15, J, (az_u (az_u (az_u (az_u R 26 2 (some 16)) 26 3 (some 5)) 26 2 (some 16)) 26 3 (some 5)))) rfl ?_
                  have hd_17 : ¬ ((1000 : Int32) = 0) := by decide
                  refine az_E.dv (c := (1000 : Int32) = 0) (pc' := 5) (L' := [.int a1]) (S' := [.int (a1 - a1 / (1000 : Int32) * (1000 : Int32))]) (σ' := (97, I_15, J, (az_u (az_u (az_u (az_u R 26 2 (some 16)) 26 3 (some 5)) 26 2 (some 16)) 26 3 (some 5)))) rfl hd_17 ?_
                  refine az_E.ret (v := some (.int (a1 - a1 / (1000 : Int32) * (1000 : Int32)))) (σ' := (97, I_15, J, (az_u (az_u (az_u (az_u R 26 2 (some 16)) 26 3 (some 5)) 26 2 (some 16)) 26 3 (some 5)))) rfl ?_
                  show az_E az_F ex 6 97 76 [.ref 3, .int a1, .int a2, .int a3, .retAddr 0, .retAddr 0, .retAddr 0, .retAddr 0] [.int (a1 - a1 / (1000 : Int32) * (1000 : Int32)), .ref 26, .ref 32] (97, I_15, J, (az_u (az_u (az_u (az_u R 26 2 (some 16)) 26 3 (some 5)) 26 2 (some 16)) 26 3 (some 5))) _
                  refine az_E.sn 5 (pc' := 85) (L' := [.ref 3, .int a1, .int a2, .int a3, .retAddr 0, .retAddr 0, .retAddr 0, .retAddr 0]) (S' := [.ref 34, .int (-1 : Int32), .int (0 : Int32), .int (a1 - a1 / (1000 : Int32) * (1000 : Int32)), .ref 26, .ref 32]) (σ' := (97, I_15, J, (az_u (az_u (az_u (az_u R 26 2 (some 16)) 26 3 (some 5)) 26 2 (some 16)) 26 3 (some 5)))) rfl ?_
                  cases hx_19 : rs_Fi_spread 26 34 I_15 (a1 - a1 / (1000 : Int32) * (1000 : Int32)) (0 : Int32) (-1 : Int32) with
                  | none => rw [hx_19] at h; cases h
                  | some I_18 =>
                    rw [hx_19] at h
                    dsimp only at h
                    refine az_E.call (d := 5) (k' := 17) (vs := [.ref 32, .ref 26, .int (a1 - a1 / (1000 : Int32) * (1000 : Int32)), .int (0 : Int32), .int (-1 : Int32), .ref 34]) (pc' := 88) (S' := []) (Q1 := fun v s => v = none ∧ s = (97, I_18, J, (az_u (az_u (az_u (az_u R 26 2 (some 16)) 26 3 (some 5)) 26 2 (some 16)) 26 3 (some 5)))) rfl (az_E.deep (by omega) (re_Fi_spread_26_34_5 (J := J) (R := (az_u (az_u (az_u (az_u R 26 2 (some 16)) 26 3 (some 5)) 26 2 (some 16)) 26 3 (some 5))) rfl hx_19 ⟨rfl, rfl⟩)) (fun v s hq => ?_)
                    obtain ⟨rfl, rfl⟩ := hq
                    show az_E az_F ex 6 97 88 [.ref 3, .int a1, .int a2, .int a3, .retAddr 0, .retAddr 0, .retAddr 0, .retAddr 0] [] (97, I_18, J, (az_u (az_u (az_u (az_u R 26 2 (some 16)) 26 3 (some 5)) 26 2 (some 16)) 26 3 (some 5))) _
                    refine az_E.sn 6 (pc' := 99) (L' := [.ref 3, .int a1, .int a2, .int a3, .int (0 : Int32), .retAddr 0, .retAddr 0, .retAddr 0]) (S' := [.int (0 : Int32), .ref 33]) (σ' := (97, I_18, J, (az_u (az_u (az_u (az_u R 26 2 (some 16)) 26 3 (some 5)) 26 2 (some 16)) 26 3 (some 5)))) rfl ?_
                    refine az_E.oi (o := az_ai az_F ex (97, I_18, J, (az_u (az_u (az_u (az_u R 26 2 (some 16)) 26 3 (some 5)) 26 2 (some 16)) 26 3 (some 5))) 33 (0 : Int32)) (pc' := 100) (L' := [.ref 3, .int a1, .int a2, .int a3, .int (0 : Int32), .retAddr 0, .retAddr 0, .retAddr 0]) (S' := []) (σ' := (97, I_18, J, (az_u (az_u (az_u (az_u R 26 2 (some 16)) 26 3 (some 5)) 26 2 (some 16)) 26 3 (some 5)))) (x := (I_18 33 0)) rfl rfl ?_
                    refine az_E.sn 4 (pc' := 108) (L' := [.ref 3, .int a1, .int a2, .int a3, .int (0 : Int32), .retAddr 0, .retAddr 0, .retAddr 0]) (S' := [.int (0 : Int32), .ref 34, .int (I_18 33 0)]) (σ' := (97, I_18, J, (az_u (az_u (az_u (az_u R 26 2 (some 16)) 26 3 (some 5)) 26 2 (some 16)) 26 3 (some 5)))) rfl ?_
                    refine az_E.oi (o := az_ai az_F ex (97, I_18, J, (az_u (az_u (az_u (az_u R 26 2 (some 16)) 26 3 (some 5)) 26 2 (some 16)) 26 3 (some 5))) 34 (0 : Int32)) (pc' := 109) (L' := [.ref 3, .int a1, .int a2, .int a3, .int (0 : Int32), .retAddr 0, .retAddr 0, .retAddr 0]) (S' := [.int (I_18 33 0)]) (σ' := (97, I_18, J, (az_u (az_u (az_u (az_u R 26 2 (some 16)) 26 3 (some 5)) 26 2 (some 16)) 26 3 (some 5)))) (x := (I_18 34 0)) rfl rfl ?_
                    refine az_E.sn 4 (pc' := 117) (L' := [.ref 3, .int a1, .int a2, .int a3, .int (0 : Int32), .int (if (I_18 33 0) < (I_18 34 0) then (I_18 34 0) else (I_18 33 0)), .int (1 : Int32), .retAddr 0]) (S' := []) (σ' := (97, I_18, J, (az_u (az_u (az_u (az_u R 26 2 (some 16)) 26 3 (some 5)) 26 2 (some 16)) 26 3 (some 5)))) rfl ?_
                    exact az_E.forget (L := [.ref 3, .retAddr 0, .retAddr 0, .int a3, .int (0 : Int32), .int (if (I_18 33 0) < (I_18 34 0) then (I_18 34 0) else (I_18 33 0)), .int (1 : Int32), .retAddr 0]) ⟨rfl, trivial, trivial, rfl, rfl, rfl, rfl, trivial, trivial⟩ (re_X_meet_117_16_21 (I := I_18) (J := J) (R := R) hR_3_2 hR_3_3 h hQ)
          · rw [if_neg hc_7] at h
            refine az_E.sn 2 (pc' := 6) (L' := [.int a3]) (S' := [.int (1 : Int32), .int a3]) (σ' := (97, I, J, R)) rfl ?_
            refine az_E.br (c := a3 = (1 : Int32)) (tt := 9) (ff := 13) (L' := [.int a3]) (S' := []) (σ' := (97, I, J, R)) rfl (fun hc_27 => ?_) (fun hc_27 => ?_)
            · rw [if_pos hc_27] at h
              refine az_E.sn 2 (pc' := 14) (L' := [.int a3]) (S' := [.int (1 : Int32)]) (σ' := (97, I, J, R)) rfl ?_
              refine az_E.ret (v := some (.int (1 : Int32))) (σ' := (97, I, J, R)) rfl ?_
              show az_E az_F ex 6 97 19 [.ref 3, .int a1, .int a2, .int a3, .retAddr 0, .retAddr 0, .retAddr 0, .retAddr 0] [.int (1 : Int32)] (97, I, J, R) _
              refine az_E.br (c := (1 : Int32) = 0) (tt := 22) (ff := 24) (L' := [.ref 3, .int a1, .int a2, .int a3, .retAddr 0, .retAddr 0, .retAddr 0, .retAddr 0]) (S' := []) (σ' := (97, I, J, R)) rfl (fun hn => absurd hn (by decide)) (fun _ => ?_)
              refine az_E.sn 3 (pc' := 28) (L' := [.ref 3, .int a1, .int a2, .int a3, .retAddr 0, .retAddr 0, .retAddr 0, .retAddr 0]) (S' := [.int (10 : Int32), .int a2, .ref 3]) (σ' := (97, I, J, R)) rfl ?_
              have hd_28 : ¬ ((10 : Int32) = 0) := by decide
              refine az_E.dv (c := (10 : Int32) = 0) (pc' := 29) (L' := [.ref 3, .int a1, .int a2, .int a3, .retAddr 0, .retAddr 0, .retAddr 0, .retAddr 0]) (S' := [.int (a2 / (10 : Int32)), .ref 3]) (σ' := (97, I, J, R)) rfl hd_28 ?_
              cases hx_30 : rs_X_setPace 16 I (a2 / (10 : Int32)) with
              | none => rw [hx_30] at h; cases h
              | some I_29 =>
                rw [hx_30] at h
                dsimp only at h
                refine az_E.call (d := 5) (k' := 144) (vs := [.ref 3, .int (a2 / (10 : Int32))]) (pc' := 32) (S' := []) (Q1 := fun v s => v = none ∧ s = (97, I_29, J, (az_u (az_u R 26 2 (some 16)) 26 3 (some 5)))) rfl (az_E.deep (by omega) (re_X_setPace_16 (J := J) (R := R) hR_3_2 hx_30 ⟨rfl, rfl⟩)) (fun v s hq => ?_)
                obtain ⟨rfl, rfl⟩ := hq
                show az_E az_F ex 6 97 32 [.ref 3, .int a1, .int a2, .int a3, .retAddr 0, .retAddr 0, .retAddr 0, .retAddr 0] [] (97, I_29, J, (az_u (az_u R 26 2 (some 16)) 26 3 (some 5))) _
                refine az_E.sn 5 (pc' := 41) (L' := [.ref 3, .int a1, .int a2, .int a3, .retAddr 0, .retAddr 0, .retAddr 0, .retAddr 0]) (S' := [.int a1, .ref 26, .ref 32]) (σ' := (97, I_29, J, (az_u (az_u R 26 2 (some 16)) 26 3 (some 5)))) rfl ?_
                refine az_E.call (d := 5) (k' := 135) (vs := [.int a1]) (pc' := 44) (S' := [.ref 26, .ref 32]) rfl ?_ (fun _ _ hq => hq)
                show az_E az_F ex 5 135 0 [.int a1] [] (97, I_29, J, (az_u (az_u R 26 2 (some 16)) 26 3 (some 5))) _
                refine az_E.sn 2 (pc' := 4) (L' := [.int a1]) (S' := [.int (1000 : Int32), .int a1]) (σ' := (97, I_29, J, (az_u (az_u R 26 2 (some 16)) 26 3 (some 5)))) rfl ?_
                have hd_31 : ¬ ((1000 : Int32) = 0) := by decide
                refine az_E.dv (c := (1000 : Int32) = 0) (pc' := 5) (L' := [.int a1]) (S' := [.int (a1 / (1000 : Int32))]) (σ' := (97, I_29, J, (az_u (az_u R 26 2 (some 16)) 26 3 (some 5)))) rfl hd_31 ?_
                refine az_E.ret (v := some (.int (a1 / (1000 : Int32)))) (σ' := (97, I_29, J, (az_u (az_u R 26 2 (some 16)) 26 3 (some 5)))) rfl ?_
                show az_E az_F ex 6 97 44 [.ref 3, .int a1, .int a2, .int a3, .retAddr 0, .retAddr 0, .retAddr 0, .retAddr 0] [.int (a1 / (1000 : Int32)), .ref 26, .ref 32] (97, I_29, J, (az_u (az_u R 26 2 (some 16)) 26 3 (some 5))) _
                refine az_E.sn 5 (pc' := 53) (L' := [.ref 3, .int a1, .int a2, .int a3, .retAddr 0, .retAddr 0, .retAddr 0, .retAddr 0]) (S' := [.ref 33, .int (-1 : Int32), .int (0 : Int32), .int (a1 / (1000 : Int32)), .ref 26, .ref 32]) (σ' := (97, I_29, J, (az_u (az_u R 26 2 (some 16)) 26 3 (some 5)))) rfl ?_
                cases hx_33 : rs_Fi_spread 26 33 I_29 (a1 / (1000 : Int32)) (0 : Int32) (-1 : Int32) with
                | none => rw [hx_33] at h; cases h
                | some I_32 =>
                  rw [hx_33] at h
                  dsimp only at h
                  refine az_E.call (d := 5) (k' := 17) (vs := [.ref 32, .ref 26, .int (a1 / (1000 : Int32)), .int (0 : Int32), .int (-1 : Int32), .ref 33]) (pc' := 56) (S' := []) (Q1 := fun v s => v = none ∧ s = (97, I_32, J, (az_u (az_u R 26 2 (some 16)) 26 3 (some 5)))) rfl (az_E.deep (by omega) (re_Fi_spread_26_33_5 (J := J) (R := (az_u (az_u R 26 2 (some 16)) 26 3 (some 5))) rfl hx_33 ⟨rfl, rfl⟩)) (fun v s hq => ?_)
                  obtain ⟨rfl, rfl⟩ := hq
                  show az_E az_F ex 6 97 56 [.ref 3, .int a1, .int a2, .int a3, .retAddr 0, .retAddr 0, .retAddr 0, .retAddr 0] [] (97, I_32, J, (az_u (az_u R 26 2 (some 16)) 26 3 (some 5))) _
                  refine az_E.sn 3 (pc' := 60) (L' := [.ref 3, .int a1, .int a2, .int a3, .retAddr 0, .retAddr 0, .retAddr 0, .retAddr 0]) (S' := [.int (10 : Int32), .int a2, .ref 3]) (σ' := (97, I_32, J, (az_u (az_u R 26 2 (some 16)) 26 3 (some 5)))) rfl ?_
                  have hd_34 : ¬ ((10 : Int32) = 0) := by decide
                  refine az_E.dv (c := (10 : Int32) = 0) (pc' := 61) (L' := [.ref 3, .int a1, .int a2, .int a3, .retAddr 0, .retAddr 0, .retAddr 0, .retAddr 0]) (S' := [.int (a2 - a2 / (10 : Int32) * (10 : Int32)), .ref 3]) (σ' := (97, I_32, J, (az_u (az_u R 26 2 (some 16)) 26 3 (some 5)))) rfl hd_34 ?_
                  cases hx_36 : rs_X_setPace 16 I_32 (a2 - a2 / (10 : Int32) * (10 : Int32)) with
                  | none => rw [hx_36] at h; cases h
                  | some I_35 =>
                    rw [hx_36] at h
                    dsimp only at h
                    refine az_E.call (d := 5) (k' := 144) (vs := [.ref 3, .int (a2 - a2 / (10 : Int32) * (10 : Int32))]) (pc' := 64) (S' := []) (Q1 := fun v s => v = none ∧ s = (97, I_35, J, (az_u (az_u (az_u (az_u R 26 2 (some 16)) 26 3 (some 5)) 26 2 (some 16)) 26 3 (some 5)))) rfl (az_E.deep (by omega) (re_X_setPace_16 (J := J) (R := (az_u (az_u R 26 2 (some 16)) 26 3 (some 5))) hR_3_2 hx_36 ⟨rfl, rfl⟩)) (fun v s hq => ?_)
                    obtain ⟨rfl, rfl⟩ := hq
                    show az_E az_F ex 6 97 64 [.ref 3, .int a1, .int a2, .int a3, .retAddr 0, .retAddr 0, .retAddr 0, .retAddr 0] [] (97, I_35, J, (az_u (az_u (az_u (az_u R 26 2 (some 16)) 26 3 (some 5)) 26 2 (some 16)) 26 3 (some 5))) _
                    refine az_E.sn 5 (pc' := 73) (L' := [.ref 3, .int a1, .int a2, .int a3, .retAddr 0, .retAddr 0, .retAddr 0, .retAddr 0]) (S' := [.int a1, .ref 26, .ref 32]) (σ' := (97, I_35, J, (az_u (az_u (az_u (az_u R 26 2 (some 16)) 26 3 (some 5)) 26 2 (some 16)) 26 3 (some 5)))) rfl ?_
                    refine az_E.call (d := 5) (k' := 136) (vs := [.int a1]) (pc' := 76) (S' := [.ref 26, .ref 32]) rfl ?_ (fun _ _ hq => hq)
                    show az_E az_F ex 5 136 0 [.int a1] [] (97, I_35, J, (az_u (az_u (az_u (az_u R 26 2 (some 16)) 26 3 (some 5)) 26 2 (some 16)) 26 3 (some 5))) _
                    refine az_E.sn 2 (pc' := 4) (L' := [.int a1]) (S' := [.int (1000 : Int32), .int a1]) (σ' := (97, I_35, J, (az_u (az_u (az_u (az_u R 26 2 (some 16)) 26 3 (some 5)) 26 2 (some 16)) 26 3 (some 5)))) rfl ?_
                    have hd_37 : ¬ ((1000 : Int32) = 0) := by decide
                    refine az_E.dv (c := (1000 : Int32) = 0) (pc' := 5) (L' := [.int a1]) (S' := [.int (a1 - a1 / (1000 : Int32) * (1000 : Int32))]) (σ' := (97, I_35, J, (az_u (az_u (az_u (az_u R 26 2 (some 16)) 26 3 (some 5)) 26 2 (some 16)) 26 3 (some 5)))) rfl hd_37 ?_
                    refine az_E.ret (v := some (.int (a1 - a1 / (1000 : Int32) * (1000 : Int32)))) (σ' := (97, I_35, J, (az_u (az_u (az_u (az_u R 26 2 (some 16)) 26 3 (some 5)) 26 2 (some 16)) 26 3 (some 5)))) rfl ?_
                    show az_E az_F ex 6 97 76 [.ref 3, .int a1, .int a2, .int a3, .retAddr 0, .retAddr 0, .retAddr 0, .retAddr 0] [.int (a1 - a1 / (1000 : Int32) * (1000 : Int32)), .ref 26, .ref 32] (97, I_35, J, (az_u (az_u (az_u (az_u R 26 2 (some 16)) 26 3 (some 5)) 26 2 (some 16)) 26 3 (some 5))) _
                    refine az_E.sn 5 (pc' := 85) (L' := [.ref 3, .int a1, .int a2, .int a3, .retAddr 0, .retAddr 0, .retAddr 0, .retAddr 0]) (S' := [.ref 34, .int (-1 : Int32), .int (0 : Int32), .int (a1 - a1 / (1000 : Int32) * (1000 : Int32)), .ref 26, .ref 32]) (σ' := (97, I_35, J, (az_u (az_u (az_u (az_u R 26 2 (some 16)) 26 3 (some 5)) 26 2 (some 16)) 26 3 (some 5)))) rfl ?_
                    cases hx_39 : rs_Fi_spread 26 34 I_35 (a1 - a1 / (1000 : Int32) * (1000 : Int32)) (0 : Int32) (-1 : Int32) with
                    | none => rw [hx_39] at h; cases h
                    | some I_38 =>
                      rw [hx_39] at h
                      dsimp only at h
                      refine az_E.call (d := 5) (k' := 17) (vs := [.ref 32, .ref 26, .int (a1 - a1 / (1000 : Int32) * (1000 : Int32)), .int (0 : Int32), .int (-1 : Int32), .ref 34]) (pc' := 88) (S' := []) (Q1 := fun v s => v = none ∧ s = (97, I_38, J, (az_u (az_u (az_u (az_u R 26 2 (some 16)) 26 3 (some 5)) 26 2 (some 16)) 26 3 (some 5)))) rfl (az_E.deep (by omega) (re_Fi_spread_26_34_5 (J := J) (R := (az_u (az_u (az_u (az_u R 26 2 (some 16)) 26 3 (some 5)) 26 2 (some 16)) 26 3 (some 5))) rfl hx_39 ⟨rfl, rfl⟩)) (fun v s hq => ?_)
                      obtain ⟨rfl, rfl⟩ := hq
                      show az_E az_F ex 6 97 88 [.ref 3, .int a1, .int a2, .int a3, .retAddr 0, .retAddr 0, .retAddr 0, .retAddr 0] [] (97, I_38, J, (az_u (az_u (az_u (az_u R 26 2 (some 16)) 26 3 (some 5)) 26 2 (some 16)) 26 3 (some 5))) _
                      refine az_E.sn 6 (pc' := 99) (L' := [.ref 3, .int a1, .int a2, .int a3, .int (0 : Int32), .retAddr 0, .retAddr 0, .retAddr 0]) (S' := [.int (0 : Int32), .ref 33]) (σ' := (97, I_38, J, (az_u (az_u (az_u (az_u R 26 2 (some 16)) 26 3 (some 5)) 26 2 (some 16)) 26 3 (some 5)))) rfl ?_
                      refine az_E.oi (o := az_ai az_F ex (97, I_38, J, (az_u (az_u (az_u (az_u R 26 2 (some 16)) 26 3 (some 5)) 26 2 (some 16)) 26 3 (some 5))) 33 (0 : Int32)) (pc' := 100) (L' := [.ref 3, .int a1, .int a2, .int a3, .int (0 : Int32), .retAddr 0, .retAddr 0, .retAddr 0]) (S' := []) (σ' := (97, I_38, J, (az_u (az_u (az_u (az_u R 26 2 (some 16)) 26 3 (some 5)) 26 2 (some 16)) 26 3 (some 5)))) (x := (I_38 33 0)) rfl rfl ?_
                      refine az_E.sn 4 (pc' := 108) (L' := [.ref 3, .int a1, .int a2, .int a3, .int (0 : Int32), .retAddr 0, .retAddr 0, .retAddr 0]) (S' := [.int (0 : Int32), .ref 34, .int (I_38 33 0)]) (σ' := (97, I_38, J, (az_u (az_u (az_u (az_u R 26 2 (some 16)) 26 3 (some 5)) 26 2 (some 16)) 26 3 (some 5)))) rfl ?_
                      refine az_E.oi (o := az_ai az_F ex (97, I_38, J, (az_u (az_u (az_u (az_u R 26 2 (some 16)) 26 3 (some 5)) 26 2 (some 16)) 26 3 (some 5))) 34 (0 : Int32)) (pc' := 109) (L' := [.ref 3, .int a1, .int a2, .int a3, .int (0 : Int32), .retAddr 0, .retAddr 0, .retAddr 0]) (S' := [.int (I_38 33 0)]) (σ' := (97, I_38, J, (az_u (az_u (az_u (az_u R 26 2 (some 16)) 26 3 (some 5)) 26 2 (some 16)) 26 3 (some 5)))) (x := (I_38 34 0)) rfl rfl ?_
                      refine az_E.sn 4 (pc' := 117) (L' := [.ref 3, .int a1, .int a2, .int a3, .int (0 : Int32), .int (if (I_38 33 0) < (I_38 34 0) then (I_38 34 0) else (I_38 33 0)), .int (1 : Int32), .retAddr 0]) (S' := []) (σ' := (97, I_38, J, (az_u (az_u (az_u (az_u R 26 2 (some 16)) 26 3 (some 5)) 26 2 (some 16)) 26 3 (some 5)))) rfl ?_
                      exact az_E.forget (L := [.ref 3, .retAddr 0, .retAddr 0, .int a3, .int (0 : Int32), .int (if (I_38 33 0) < (I_38 34 0) then (I_38 34 0) else (I_38 33 0)), .int (1 : Int32), .retAddr 0]) ⟨rfl, trivial, trivial, rfl, rfl, rfl, rfl, trivial, trivial⟩ (re_X_meet_117_16_21 (I := I_38) (J := J) (R := R) hR_3_2 hR_3_3 h hQ)
            · rw [if_neg hc_27] at h
              refine az_E.sn 1 (pc' := 14) (L' := [.int a3]) (S' := [.int (0 : Int32)]) (σ' := (97, I, J, R)) rfl ?_
              refine az_E.ret (v := some (.int (0 : Int32))) (σ' := (97, I, J, R)) rfl ?_
              show az_E az_F ex 6 97 19 [.ref 3, .int a1, .int a2, .int a3, .retAddr 0, .retAddr 0, .retAddr 0, .retAddr 0] [.int (0 : Int32)] (97, I, J, R) _
              refine az_E.br (c := (0 : Int32) = 0) (tt := 22) (ff := 24) (L' := [.ref 3, .int a1, .int a2, .int a3, .retAddr 0, .retAddr 0, .retAddr 0, .retAddr 0]) (S' := []) (σ' := (97, I, J, R)) rfl (fun _ => ?_) (fun hn => absurd (by decide) hn)
              refine az_E.sn 1 (pc' := 23) (L' := [.ref 3, .int a1, .int a2, .int a3, .retAddr 0, .retAddr 0, .retAddr 0, .retAddr 0]) (S' := [.int (-1 : Int32)]) (σ' := (97, I, J, R)) rfl ?_
              have h := Option.some.inj h
              subst h
              exact az_E.ret (v := some (.int (-1 : Int32))) (σ' := (97, I, J, R)) rfl (hQ _ hR_3_2 hR_3_3)
set_option maxRecDepth 100000 in
set_option maxHeartbeats 4000000 in
theorem re_M_meet_169 {ex : az_X} {I : Nat → Nat → Int32} {J : Nat → Nat → Int64} {R : Nat → Nat → Option Nat} {v3 : Int32} {v4 : Int32} {v5 : Int32} {x : Int32 × (Nat → Nat → Int32)} (h : rs_M_meet_169 I v3 v4 v5 = some x) {Q : Option Value → az_S → Prop} (hQ : Q (some (.int x.1)) (97, x.2, J, R)) : az_E az_F ex 125 205 169 [.retAddr 0, .retAddr 0, .retAddr 0, .int v3, .int v4, .int v5, .retAddr 0, .retAddr 0] [] (97, I, J, R) Q := by
  unfold rs_M_meet_169 at h
  refine az_E.sn 1 (pc' := 170) (L' := [.retAddr 0, .retAddr 0, .retAddr 0, .int v3, .int v4, .int v5, .retAddr 0, .retAddr 0]) (S' := [.int v3]) (σ' := (97, I, J, R)) rfl ?_
  refine az_E.br (c := v3 = 0) (tt := 173) (ff := 178) (L' := [.retAddr 0, .retAddr 0, .retAddr 0, .int v3, .int v4, .int v5, .retAddr 0, .retAddr 0]) (S' := []) (σ' := (97, I, J, R)) rfl (fun hc_23 => ?_) (fun hc_23 => ?_)
  · rw [if_pos hc_23] at h
    refine az_E.sn 2 (pc' := 180) (L' := [.retAddr 0, .retAddr 0, .retAddr 0, .int v3, .int v4, .int v5, .retAddr 0, .retAddr 0]) (S' := [.int v4]) (σ' := (97, I, J, R)) rfl ?_
    have h := Option.some.inj h
    subst h
    exact az_E.ret (v := some (.int v4)) (σ' := (97, I, J, R)) rfl hQ
  · rw [if_neg hc_23] at h
    refine az_E.sn 1 (pc' := 180) (L' := [.retAddr 0, .retAddr 0, .retAddr 0, .int v3, .int v4, .int v5, .retAddr 0, .retAddr 0]) (S' := [.int v5]) (σ' := (97, I, J, R)) rfl ?_
    have h := Option.some.inj h
    subst h
    exact az_E.ret (v := some (.int v5)) (σ' := (97, I, J, R)) rfl hQ
set_option maxRecDepth 100000 in
set_option maxHeartbeats 4000000 in
theorem re_M_meet_146 {ex : az_X} {I : Nat → Nat → Int32} {J : Nat → Nat → Int64} {R : Nat → Nat → Option Nat} {v3 : Int32} {v4 : Int32} {v5 : Int32} {v6 : Int32} {s0 : Int32} {x : ((Int32 × Int32 × Int32) ⊕ (Int32 × (Nat → Nat → Int32)))} (h : rs_M_meet_146 I v3 v4 v5 v6 s0 = some x) {Q : Option Value → az_S → Prop} (hQ : Sum.elim (fun s => az_E az_F ex 125 205 104 [.ref 73, .retAddr 0, .retAddr 0, .int v3, .int s.1, .int s.2.1, .int s.2.2, .retAddr 0] [] (97, I, J, R) Q) (fun x => Q (some (.int x.1)) (97, x.2, J, R)) x) : az_E az_F ex 125 205 146 [.ref 73, .retAddr 0, .retAddr 0, .int v3, .int v4, .int v5, .int v6, .retAddr 0] [.int s0] (97, I, J, R) Q := by
  unfold rs_M_meet_146 at h
  refine az_E.sn 3 (pc' := 152) (L' := [.ref 73, .retAddr 0, .retAddr 0, .int v3, .int v4, .int v5, .int v6, .int s0]) (S' := [.int v5, .int s0]) (σ' := (97, I, J, R)) rfl ?_
  refine az_E.br (c := v5 ≤ s0) (tt := 163) (ff := 155) (L' := [.ref 73, .retAddr 0, .retAddr 0, .int v3, .int v4, .int v5, .int v6, .int s0]) (S' := []) (σ' := (97, I, J, R)) rfl (fun hc_28 => ?_) (fun hc_28 => ?_)
  · rw [if_pos hc_28] at h
    refine az_E.sn 2 (pc' := 104) (L' := [.ref 73, .retAddr 0, .retAddr 0, .int v3, .int v4, .int v5, .int (v6 + (1 : Int32)), .int s0]) (S' := []) (σ' := (97, I, J, R)) rfl ?_
    have h := Option.some.inj h
    subst h
    exact az_E.forget (L := [.ref 73, .retAddr 0, .retAddr 0, .int v3, .int v4, .int v5, .int (v6 + (1 : Int32)), .retAddr 0]) ⟨rfl, trivial, trivial, rfl, rfl, rfl, rfl, trivial, trivial⟩ hQ
  · rw [if_neg hc_28] at h
    refine az_E.sn 6 (pc' := 104) (L' := [.ref 73, .retAddr 0, .retAddr 0, .int v3, .int v6, .int s0, .int (v6 + (1 : Int32)), .int s0]) (S' := []) (σ' := (97, I, J, R)) rfl ?_
    have h := Option.some.inj h
    subst h
    exact az_E.forget (L := [.ref 73, .retAddr 0, .retAddr 0, .int v3, .int v6, .int s0, .int (v6 + (1 : Int32)), .retAddr 0]) ⟨rfl, trivial, trivial, rfl, rfl, rfl, rfl, trivial, trivial⟩ hQ
set_option maxRecDepth 100000 in
set_option maxHeartbeats 4000000 in
theorem re_M_meet_104_b {ex : az_X} {I : Nat → Nat → Int32} {J : Nat → Nat → Int64} {R : Nat → Nat → Option Nat} {v3 : Int32} {v4 : Int32} {v5 : Int32} {v6 : Int32} {x : ((Int32 × Int32 × Int32) ⊕ (Int32 × (Nat → Nat → Int32)))} (h : rs_M_meet_104_b I v3 v4 v5 v6 = some x) {Q : Option Value → az_S → Prop} (hQ : Sum.elim (fun s => az_E az_F ex 125 205 104 [.ref 73, .retAddr 0, .retAddr 0, .int v3, .int s.1, .int s.2.1, .int s.2.2, .retAddr 0] [] (97, I, J, R) Q) (fun x => Q (some (.int x.1)) (97, x.2, J, R)) x) : az_E az_F ex 125 205 104 [.ref 73, .retAddr 0, .retAddr 0, .int v3, .int v4, .int v5, .int v6, .retAddr 0] [] (97, I, J, R) Q := by
  unfold rs_M_meet_104_b at h
  refine az_E.sn 2 (pc' := 109) (L' := [.ref 73, .retAddr 0, .retAddr 0, .int v3, .int v4, .int v5, .int v6, .retAddr 0]) (S' := [.int (144 : Int32), .int v6]) (σ' := (97, I, J, R)) rfl ?_
  refine az_E.br (c := (144 : Int32) ≤ v6) (tt := 169) (ff := 112) (L' := [.ref 73, .retAddr 0, .retAddr 0, .int v3, .int v4, .int v5, .int v6, .retAddr 0]) (S' := []) (σ' := (97, I, J, R)) rfl (fun hc_22 => ?_) (fun hc_22 => ?_)
  · rw [if_pos hc_22] at h
    obtain ⟨x, hx, rfl⟩ := Option.map_eq_some_iff.mp h
    exact az_E.forget (L := [.retAddr 0, .retAddr 0, .retAddr 0, .int v3, .int v4, .int v5, .retAddr 0, .retAddr 0]) ⟨trivial, trivial, trivial, rfl, rfl, rfl, trivial, trivial, trivial⟩ (re_M_meet_169 (I := I) (J := J) (R := R)  hx hQ)
  · rw [if_neg hc_22] at h
    refine az_E.sn 3 (pc' := 118) (L' := [.ref 73, .retAddr 0, .retAddr 0, .int v3, .int v4, .int v5, .int v6, .retAddr 0]) (S' := [.int v6, .ref 87]) (σ' := (97, I, J, R)) rfl ?_
    by_cases hc_24 : v6 < 0 ∨ 144 ≤ v6.toNatClampNeg
    · rw [if_pos hc_24] at h; cases h
    · rw [if_neg hc_24] at h
      refine az_E.oi (o := az_ai az_F ex (97, I, J, R) 87 v6) (pc' := 119) (L' := [.ref 73, .retAddr 0, .retAddr 0, .int v3, .int v4, .int v5, .int v6, .retAddr 0]) (S' := []) (σ' := (97, I, J, R)) (x := (I 87 v6.toNatClampNeg)) rfl (if_neg hc_24) ?_
      refine az_E.sn 3 (pc' := 125) (L' := [.ref 73, .retAddr 0, .retAddr 0, .int v3, .int v4, .int v5, .int v6, .retAddr 0]) (S' := [.int v6, .ref 84, .int (I 87 v6.toNatClampNeg)]) (σ' := (97, I, J, R)) rfl ?_
      by_cases hc_25 : v6 < 0 ∨ 144 ≤ v6.toNatClampNeg
      · rw [if_pos hc_25] at h; cases h
      · rw [if_neg hc_25] at h
        refine az_E.oi (o := az_ai az_F ex (97, I, J, R) 84 v6) (pc' := 126) (L' := [.ref 73, .retAddr 0, .retAddr 0, .int v3, .int v4, .int v5, .int v6, .retAddr 0]) (S' := [.int (I 87 v6.toNatClampNeg)]) (σ' := (97, I, J, R)) (x := (I 84 v6.toNatClampNeg)) rfl (if_neg hc_25) ?_
        refine az_E.br (c := (I 87 v6.toNatClampNeg) ≤ (I 84 v6.toNatClampNeg)) (tt := 139) (ff := 129) (L' := [.ref 73, .retAddr 0, .retAddr 0, .int v3, .int v4, .int v5, .int v6, .retAddr 0]) (S' := []) (σ' := (97, I, J, R)) rfl (fun hc_26 => ?_) (fun hc_26 => ?_)
        · rw [if_pos hc_26] at h
          refine az_E.sn 3 (pc' := 145) (L' := [.ref 73, .retAddr 0, .retAddr 0, .int v3, .int v4, .int v5, .int v6, .retAddr 0]) (S' := [.int v6, .ref 84]) (σ' := (97, I, J, R)) rfl ?_
          by_cases hc_27 : v6 < 0 ∨ 144 ≤ v6.toNatClampNeg
          · rw [if_pos hc_27] at h; cases h
          · rw [if_neg hc_27] at h
            refine az_E.oi (o := az_ai az_F ex (97, I, J, R) 84 v6) (pc' := 146) (L' := [.ref 73, .retAddr 0, .retAddr 0, .int v3, .int v4, .int v5, .int v6, .retAddr 0]) (S' := []) (σ' := (97, I, J, R)) (x := (I 84 v6.toNatClampNeg)) rfl (if_neg hc_27) ?_
            exact az_E.forget (L := [.ref 73, .retAddr 0, .retAddr 0, .int v3, .int v4, .int v5, .int v6, .retAddr 0]) ⟨rfl, trivial, trivial, rfl, rfl, rfl, rfl, trivial, trivial⟩ (re_M_meet_146 (I := I) (J := J) (R := R)  h hQ)
        · rw [if_neg hc_26] at h
          refine az_E.sn 3 (pc' := 135) (L' := [.ref 73, .retAddr 0, .retAddr 0, .int v3, .int v4, .int v5, .int v6, .retAddr 0]) (S' := [.int v6, .ref 87]) (σ' := (97, I, J, R)) rfl ?_
          by_cases hc_29 : v6 < 0 ∨ 144 ≤ v6.toNatClampNeg
          · rw [if_pos hc_29] at h; cases h
          · rw [if_neg hc_29] at h
            refine az_E.oi (o := az_ai az_F ex (97, I, J, R) 87 v6) (pc' := 136) (L' := [.ref 73, .retAddr 0, .retAddr 0, .int v3, .int v4, .int v5, .int v6, .retAddr 0]) (S' := []) (σ' := (97, I, J, R)) (x := (I 87 v6.toNatClampNeg)) rfl (if_neg hc_29) ?_
            refine az_E.sn 1 (pc' := 146) (L' := [.ref 73, .retAddr 0, .retAddr 0, .int v3, .int v4, .int v5, .int v6, .retAddr 0]) (S' := [.int (I 87 v6.toNatClampNeg)]) (σ' := (97, I, J, R)) rfl ?_
            exact az_E.forget (L := [.ref 73, .retAddr 0, .retAddr 0, .int v3, .int v4, .int v5, .int v6, .retAddr 0]) ⟨rfl, trivial, trivial, rfl, rfl, rfl, rfl, trivial, trivial⟩ (re_M_meet_146 (I := I) (J := J) (R := R)  h hQ)
set_option maxRecDepth 100000 in
set_option maxHeartbeats 4000000 in
theorem re_M_meet_104 {ex : az_X} {I : Nat → Nat → Int32} {J : Nat → Nat → Int64} {R : Nat → Nat → Option Nat} {v3 : Int32} {v4 : Int32} {v5 : Int32} {v6 : Int32} {x : Int32 × (Nat → Nat → Int32)} (h : rs_M_meet_104 I v3 v4 v5 v6 = some x) {Q : Option Value → az_S → Prop} (hQ : Q (some (.int x.1)) (97, x.2, J, R)) : az_E az_F ex 125 205 104 [.ref 73, .retAddr 0, .retAddr 0, .int v3, .int v4, .int v5, .int v6, .retAddr 0] [] (97, I, J, R) Q := by
  unfold rs_M_meet_104 at h
  refine az_lp_E (G := fun s => az_E az_F ex 125 205 104 [.ref 73, .retAddr 0, .retAddr 0, .int v3, .int s.1, .int s.2.1, .int s.2.2, .retAddr 0] [] (97, I, J, R) Q) (H := fun x => Q (some (.int x.1)) (97, x.2, J, R)) (fun s o hb ho => ?_) _ _ _ h hQ
  exact re_M_meet_104_b  hb ho
set_option maxRecDepth 100000 in
set_option maxHeartbeats 4000000 in
theorem re_M_meet_76 {ex : az_X} {I : Nat → Nat → Int32} {J : Nat → Nat → Int64} {R : Nat → Nat → Option Nat} {v1 : Int32} {v2 : Int32} {v3 : Int32} {x : Int32 × (Nat → Nat → Int32)} (h : rs_M_meet_76 I v1 v2 v3 = some x) {Q : Option Value → az_S → Prop} (hQ : Q (some (.int x.1)) (97, x.2, J, R)) : az_E az_F ex 125 205 76 [.ref 73, .int v1, .int v2, .int v3, .retAddr 0, .retAddr 0, .retAddr 0, .retAddr 0] [] (97, I, J, R) Q := by
  unfold rs_M_meet_76 at h
  refine az_E.sn 3 (pc' := 80) (L' := [.ref 73, .int v1, .int v2, .int v3, .retAddr 0, .retAddr 0, .retAddr 0, .retAddr 0]) (S' := [.int (10 : Int32), .int v2, .ref 73]) (σ' := (97, I, J, R)) rfl ?_
  have hd_16 : ¬ ((10 : Int32) = 0) := by decide
  refine az_E.dv (c := (10 : Int32) = 0) (pc' := 81) (L' := [.ref 73, .int v1, .int v2, .int v3, .retAddr 0, .retAddr 0, .retAddr 0, .retAddr 0]) (S' := [.int (v2 - v2 / (10 : Int32) * (10 : Int32)), .ref 73]) (σ' := (97, I, J, R)) rfl hd_16 ?_
  cases hx_18 : rs_M_asksFor I (v2 - v2 / (10 : Int32) * (10 : Int32)) with
  | none => rw [hx_18] at h; cases h
  | some I_17 =>
    rw [hx_18] at h
    dsimp only at h
    refine az_E.call (d := 124) (k' := 190) (vs := [.ref 73, .int (v2 - v2 / (10 : Int32) * (10 : Int32))]) (pc' := 84) (S' := []) (Q1 := fun v s => v = none ∧ s = (97, I_17, J, R)) rfl (az_E.deep (by omega) (re_M_asksFor (J := J) (R := R)  hx_18 ⟨rfl, rfl⟩)) (fun v s hq => ?_)
    obtain ⟨rfl, rfl⟩ := hq
    show az_E az_F ex 125 205 84 [.ref 73, .int v1, .int v2, .int v3, .retAddr 0, .retAddr 0, .retAddr 0, .retAddr 0] [] (97, I_17, J, R) _
    refine az_E.sn 3 (pc' := 89) (L' := [.ref 73, .int v1, .int v2, .int v3, .retAddr 0, .retAddr 0, .retAddr 0, .retAddr 0]) (S' := [.int (1000 : Int32), .int v1, .ref 73]) (σ' := (97, I_17, J, R)) rfl ?_
    have hd_19 : ¬ ((1000 : Int32) = 0) := by decide
    refine az_E.dv (c := (1000 : Int32) = 0) (pc' := 90) (L' := [.ref 73, .int v1, .int v2, .int v3, .retAddr 0, .retAddr 0, .retAddr 0, .retAddr 0]) (S' := [.int (v1 - v1 / (1000 : Int32) * (1000 : Int32)), .ref 73]) (σ' := (97, I_17, J, R)) rfl hd_19 ?_
    refine az_E.sn 1 (pc' := 91) (L' := [.ref 73, .int v1, .int v2, .int v3, .retAddr 0, .retAddr 0, .retAddr 0, .retAddr 0]) (S' := [.int (1 : Int32), .int (v1 - v1 / (1000 : Int32) * (1000 : Int32)), .ref 73]) (σ' := (97, I_17, J, R)) rfl ?_
    cases hx_21 : rs_M_asksMinutes I_17 (v1 - v1 / (1000 : Int32) * (1000 : Int32)) (1 : Int32) with
    | none => rw [hx_21] at h; cases h
    | some I_20 =>
      rw [hx_21] at h
      dsimp only at h
      refine az_E.call (d := 124) (k' := 194) (vs := [.ref 73, .int (v1 - v1 / (1000 : Int32) * (1000 : Int32)), .int (1 : Int32)]) (pc' := 94) (S' := []) (Q1 := fun v s => v = none ∧ s = (97, I_20, J, R)) rfl (az_E.deep (by omega) (re_M_asksMinutes (J := J) (R := R)  hx_21 ⟨rfl, rfl⟩)) (fun v s hq => ?_)
      obtain ⟨rfl, rfl⟩ := hq
      show az_E az_F ex 125 205 94 [.ref 73, .int v1, .int v2, .int v3, .retAddr 0, .retAddr 0, .retAddr 0, .retAddr 0] [] (97, I_20, J, R) _
      refine az_E.sn 6 (pc' := 104) (L' := [.ref 73, .int v1, .int v2, .int v3, .int (0 : Int32), .int (1000000 : Int32), .int (0 : Int32), .retAddr 0]) (S' := []) (σ' := (97, I_20, J, R)) rfl ?_
      exact az_E.forget (L := [.ref 73, .retAddr 0, .retAddr 0, .int v3, .int (0 : Int32), .int (1000000 : Int32), .int (0 : Int32), .retAddr 0]) ⟨rfl, trivial, trivial, rfl, rfl, rfl, rfl, trivial, trivial⟩ (re_M_meet_104 (I := I_20) (J := J) (R := R)  h hQ)
set_option maxRecDepth 100000 in
set_option maxHeartbeats 4000000 in
theorem re_M_meet_48_b {ex : az_X} {I : Nat → Nat → Int32} {J : Nat → Nat → Int64} {R : Nat → Nat → Option Nat} {v1 : Int32} {v2 : Int32} {v3 : Int32} {v4 : Int32} {x : ((Int32 × (Nat → Nat → Int32)) ⊕ (Int32 × (Nat → Nat → Int32)))} (h : rs_M_meet_48_b v1 v2 v3 v4 I = some x) {Q : Option Value → az_S → Prop} (hQ : Sum.elim (fun s => az_E az_F ex 125 205 48 [.ref 73, .int v1, .int v2, .int v3, .int s.1, .retAddr 0, .retAddr 0, .retAddr 0] [] (97, s.2, J, R) Q) (fun x => Q (some (.int x.1)) (97, x.2, J, R)) x) : az_E az_F ex 125 205 48 [.ref 73, .int v1, .int v2, .int v3, .int v4, .retAddr 0, .retAddr 0, .retAddr 0] [] (97, I, J, R) Q := by
  unfold rs_M_meet_48_b at h
  refine az_E.sn 2 (pc' := 53) (L' := [.ref 73, .int v1, .int v2, .int v3, .int v4, .retAddr 0, .retAddr 0, .retAddr 0]) (S' := [.int (144 : Int32), .int v4]) (σ' := (97, I, J, R)) rfl ?_
  refine az_E.br (c := (144 : Int32) ≤ v4) (tt := 76) (ff := 56) (L' := [.ref 73, .int v1, .int v2, .int v3, .int v4, .retAddr 0, .retAddr 0, .retAddr 0]) (S' := []) (σ' := (97, I, J, R)) rfl (fun hc_15 => ?_) (fun hc_15 => ?_)
  · rw [if_pos hc_15] at h
    obtain ⟨x, hx, rfl⟩ := Option.map_eq_some_iff.mp h
    exact az_E.forget (L := [.ref 73, .int v1, .int v2, .int v3, .retAddr 0, .retAddr 0, .retAddr 0, .retAddr 0]) ⟨rfl, rfl, rfl, rfl, trivial, trivial, trivial, trivial, trivial⟩ (re_M_meet_76 (I := I) (J := J) (R := R)  hx hQ)
  · rw [if_neg hc_15] at h
    refine az_E.sn 6 (pc' := 68) (L' := [.ref 73, .int v1, .int v2, .int v3, .int v4, .retAddr 0, .retAddr 0, .retAddr 0]) (S' := [.int v4, .ref 84, .int v4, .ref 87]) (σ' := (97, I, J, R)) rfl ?_
    by_cases hc_30 : v4 < 0 ∨ 144 ≤ v4.toNatClampNeg
    · rw [if_pos hc_30] at h; cases h
    · rw [if_neg hc_30] at h
      refine az_E.oi (o := az_ai az_F ex (97, I, J, R) 84 v4) (pc' := 69) (L' := [.ref 73, .int v1, .int v2, .int v3, .int v4, .retAddr 0, .retAddr 0, .retAddr 0]) (S' := [.int v4, .ref 87]) (σ' := (97, I, J, R)) (x := (I 84 v4.toNatClampNeg)) rfl (if_neg hc_30) ?_
      by_cases hc_31 : v4 < 0 ∨ 144 ≤ v4.toNatClampNeg
      · rw [if_pos hc_31] at h; cases h
      · rw [if_neg hc_31] at h
        refine az_E.o (o := az_si az_F (97, I, J, R) 87 v4 (I 84 v4.toNatClampNeg)) (pc' := 70) (L' := [.ref 73, .int v1, .int v2, .int v3, .int v4, .retAddr 0, .retAddr 0, .retAddr 0]) (S' := []) (x := (97, (az_u I 87 v4.toNatClampNeg (I 84 v4.toNatClampNeg)), J, R)) rfl (if_neg hc_31) ?_
        refine az_E.sn 2 (pc' := 48) (L' := [.ref 73, .int v1, .int v2, .int v3, .int (v4 + (1 : Int32)), .retAddr 0, .retAddr 0, .retAddr 0]) (S' := []) (σ' := (97, (az_u I 87 v4.toNatClampNeg (I 84 v4.toNatClampNeg)), J, R)) rfl ?_
        have h := Option.some.inj h
        subst h
        exact az_E.forget (L := [.ref 73, .int v1, .int v2, .int v3, .int (v4 + (1 : Int32)), .retAddr 0, .retAddr 0, .retAddr 0]) ⟨rfl, rfl, rfl, rfl, rfl, trivial, trivial, trivial, trivial⟩ hQ
set_option maxRecDepth 100000 in
set_option maxHeartbeats 4000000 in
theorem re_M_meet_48 {ex : az_X} {I : Nat → Nat → Int32} {J : Nat → Nat → Int64} {R : Nat → Nat → Option Nat} {v1 : Int32} {v2 : Int32} {v3 : Int32} {v4 : Int32} {x : Int32 × (Nat → Nat → Int32)} (h : rs_M_meet_48 I v1 v2 v3 v4 = some x) {Q : Option Value → az_S → Prop} (hQ : Q (some (.int x.1)) (97, x.2, J, R)) : az_E az_F ex 125 205 48 [.ref 73, .int v1, .int v2, .int v3, .int v4, .retAddr 0, .retAddr 0, .retAddr 0] [] (97, I, J, R) Q := by
  unfold rs_M_meet_48 at h
  refine az_lp_E (G := fun s => az_E az_F ex 125 205 48 [.ref 73, .int v1, .int v2, .int v3, .int s.1, .retAddr 0, .retAddr 0, .retAddr 0] [] (97, s.2, J, R) Q) (H := fun x => Q (some (.int x.1)) (97, x.2, J, R)) (fun s o hb ho => ?_) _ _ _ h hQ
  exact re_M_meet_48_b  hb ho
set_option maxRecDepth 100000 in
set_option maxHeartbeats 4000000 in
theorem re_M_meet {ex : az_X} {I : Nat → Nat → Int32} {J : Nat → Nat → Int64} {R : Nat → Nat → Option Nat} {a1 : Int32} {a2 : Int32} {a3 : Int32} {o : Int32 × (Nat → Nat → Int32)} (h : rs_M_meet I a1 a2 a3 = some o) {Q : Option Value → az_S → Prop} (hQ : Q (some (.int o.1)) (97, o.2, J, R)) : az_E az_F ex 125 205 0 [.ref 73, .int a1, .int a2, .int a3, .retAddr 0, .retAddr 0, .retAddr 0, .retAddr 0] [] (97, I, J, R) Q := by
  unfold rs_M_meet at h
  refine az_E.sn 1 (pc' := 1) (L' := [.ref 73, .int a1, .int a2, .int a3, .retAddr 0, .retAddr 0, .retAddr 0, .retAddr 0]) (S' := [.int a1]) (σ' := (97, I, J, R)) rfl ?_
  cases hx_2 : rs_M_isFt a1 with
  | none => rw [hx_2] at h; cases h
  | some x_1 =>
    rw [hx_2] at h
    dsimp only at h
    refine az_E.call (d := 124) (k' := 163) (vs := [.int a1]) (pc' := 4) (S' := []) (Q1 := fun v s => v = some (.int x_1) ∧ s = (97, I, J, R)) rfl (az_E.deep (by omega) (re_M_isFt (J := J) (R := R)  hx_2 ⟨rfl, rfl⟩)) (fun v s hq => ?_)
    obtain ⟨rfl, rfl⟩ := hq
    show az_E az_F ex 125 205 4 [.ref 73, .int a1, .int a2, .int a3, .retAddr 0, .retAddr 0, .retAddr 0, .retAddr 0] [.int x_1] (97, I, J, R) _
    refine az_E.br (c := x_1 = 0) (tt := 25) (ff := 7) (L' := [.ref 73, .int a1, .int a2, .int a3, .retAddr 0, .retAddr 0, .retAddr 0, .retAddr 0]) (S' := []) (σ' := (97, I, J, R)) rfl (fun hc_3 => ?_) (fun hc_3 => ?_)
    · rw [if_pos hc_3] at h
      refine az_E.sn 1 (pc' := 26) (L' := [.ref 73, .int a1, .int a2, .int a3, .retAddr 0, .retAddr 0, .retAddr 0, .retAddr 0]) (S' := [.int (-1 : Int32)]) (σ' := (97, I, J, R)) rfl ?_
      have h := Option.some.inj h
      subst h
      exact az_E.ret (v := some (.int (-1 : Int32))) (σ' := (97, I, J, R)) rfl hQ
    · rw [if_neg hc_3] at h
      refine az_E.sn 2 (pc' := 9) (L' := [.ref 73, .int a1, .int a2, .int a3, .retAddr 0, .retAddr 0, .retAddr 0, .retAddr 0]) (S' := [.int a2, .ref 73]) (σ' := (97, I, J, R)) rfl ?_
      cases hx_5 : rs_M_isAb I a2 with
      | none => rw [hx_5] at h; cases h
      | some x_4 =>
        rw [hx_5] at h
        dsimp only at h
        refine az_E.call (d := 124) (k' := 165) (vs := [.ref 73, .int a2]) (pc' := 12) (S' := []) (Q1 := fun v s => v = some (.int x_4) ∧ s = (97, I, J, R)) rfl (az_E.deep (by omega) (re_M_isAb (J := J) (R := R)  hx_5 ⟨rfl, rfl⟩)) (fun v s hq => ?_)
        obtain ⟨rfl, rfl⟩ := hq
        show az_E az_F ex 125 205 12 [.ref 73, .int a1, .int a2, .int a3, .retAddr 0, .retAddr 0, .retAddr 0, .retAddr 0] [.int x_4] (97, I, J, R) _
        refine az_E.br (c := x_4 = 0) (tt := 25) (ff := 15) (L' := [.ref 73, .int a1, .int a2, .int a3, .retAddr 0, .retAddr 0, .retAddr 0, .retAddr 0]) (S' := []) (σ' := (97, I, J, R)) rfl (fun hc_6 => ?_) (fun hc_6 => ?_)
        · rw [if_pos hc_6] at h
          refine az_E.sn 1 (pc' := 26) (L' := [.ref 73, .int a1, .int a2, .int a3, .retAddr 0, .retAddr 0, .retAddr 0, .retAddr 0]) (S' := [.int (-1 : Int32)]) (σ' := (97, I, J, R)) rfl ?_
          have h := Option.some.inj h
          subst h
          exact az_E.ret (v := some (.int (-1 : Int32))) (σ' := (97, I, J, R)) rfl hQ
        · rw [if_neg hc_6] at h
          refine az_E.sn 4 (pc' := 19) (L' := [.ref 73, .int a1, .int a2, .int a3, .retAddr 0, .retAddr 0, .retAddr 0, .retAddr 0]) (S' := [.long (1 : Int64), .long (0 : Int64), .long a3.toInt64]) (σ' := (97, I, J, R)) rfl ?_
          refine az_E.call (d := 124) (k' := 154) (vs := [.long a3.toInt64, .long (0 : Int64), .long (1 : Int64)]) (pc' := 22) (S' := []) rfl ?_ (fun _ _ hq => hq)
          show az_E az_F ex 124 154 0 [.long a3.toInt64, .retAddr 0, .long (0 : Int64), .retAddr 0, .long (1 : Int64), .retAddr 0] [] (97, I, J, R) _
          refine az_E.sn 3 (pc' := 3) (L' := [.long a3.toInt64, .retAddr 0, .long (0 : Int64), .retAddr 0, .long (1 : Int64), .retAddr 0]) (S' := [.int (lg_cmp a3.toInt64 (0 : Int64))]) (σ' := (97, I, J, R)) rfl ?_
          refine az_E.br (c := (lg_cmp a3.toInt64 (0 : Int64)) < 0) (tt := 17) (ff := 6) (L' := [.long a3.toInt64, .retAddr 0, .long (0 : Int64), .retAddr 0, .long (1 : Int64), .retAddr 0]) (S' := []) (σ' := (97, I, J, R)) rfl (fun hc_7 => ?_) (fun hc_7 => ?_)
          · rw [if_pos hc_7] at h
            refine az_E.sn 1 (pc' := 18) (L' := [.long a3.toInt64, .retAddr 0, .long (0 : Int64), .retAddr 0, .long (1 : Int64), .retAddr 0]) (S' := [.int (0 : Int32)]) (σ' := (97, I, J, R)) rfl ?_
            refine az_E.ret (v := some (.int (0 : Int32))) (σ' := (97, I, J, R)) rfl ?_
            show az_E az_F ex 125 205 22 [.ref 73, .int a1, .int a2, .int a3, .retAddr 0, .retAddr 0, .retAddr 0, .retAddr 0] [.int (0 : Int32)] (97, I, J, R) _
            refine az_E.br (c := (0 : Int32) = 0) (tt := 25) (ff := 27) (L' := [.ref 73, .int a1, .int a2, .int a3, .retAddr 0, .retAddr 0, .retAddr 0, .retAddr 0]) (S' := []) (σ' := (97, I, J, R)) rfl (fun _ => ?_) (fun hn => absurd (by decide) hn)
            refine az_E.sn 1 (pc' := 26) (L' := [.ref 73, .int a1, .int a2, .int a3, .retAddr 0, .retAddr 0, .retAddr 0, .retAddr 0]) (S' := [.int (-1 : Int32)]) (σ' := (97, I, J, R)) rfl ?_
            have h := Option.some.inj h
            subst h
            exact az_E.ret (v := some (.int (-1 : Int32))) (σ' := (97, I, J, R)) rfl hQ
          · rw [if_neg hc_7] at h
            refine az_E.sn 3 (pc' := 10) (L' := [.long a3.toInt64, .retAddr 0, .long (0 : Int64), .retAddr 0, .long (1 : Int64), .retAddr 0]) (S' := [.int (lg_cmp a3.toInt64 (1 : Int64))]) (σ' := (97, I, J, R)) rfl ?_
            refine az_E.br (c := 0 < (lg_cmp a3.toInt64 (1 : Int64))) (tt := 17) (ff := 13) (L' := [.long a3.toInt64, .retAddr 0, .long (0 : Int64), .retAddr 0, .long (1 : Int64), .retAddr 0]) (S' := []) (σ' := (97, I, J, R)) rfl (fun hc_8 => ?_) (fun hc_8 => ?_)
            · rw [if_pos hc_8] at h
              refine az_E.sn 1 (pc' := 18) (L' := [.long a3.toInt64, .retAddr 0, .long (0 : Int64), .retAddr 0, .long (1 : Int64), .retAddr 0]) (S' := [.int (0 : Int32)]) (σ' := (97, I, J, R)) rfl ?_
              refine az_E.ret (v := some (.int (0 : Int32))) (σ' := (97, I, J, R)) rfl ?_
              show az_E az_F ex 125 205 22 [.ref 73, .int a1, .int a2, .int a3, .retAddr 0, .retAddr 0, .retAddr 0, .retAddr 0] [.int (0 : Int32)] (97, I, J, R) _
              refine az_E.br (c := (0 : Int32) = 0) (tt := 25) (ff := 27) (L' := [.ref 73, .int a1, .int a2, .int a3, .retAddr 0, .retAddr 0, .retAddr 0, .retAddr 0]) (S' := []) (σ' := (97, I, J, R)) rfl (fun _ => ?_) (fun hn => absurd (by decide) hn)
              refine az_E.sn 1 (pc' := 26) (L' := [.ref 73, .int a1, .int a2, .int a3, .retAddr 0, .retAddr 0, .retAddr 0, .retAddr 0]) (S' := [.int (-1 : Int32)]) (σ' := (97, I, J, R)) rfl ?_
              have h := Option.some.inj h
              subst h
              exact az_E.ret (v := some (.int (-1 : Int32))) (σ' := (97, I, J, R)) rfl hQ
            · rw [if_neg hc_8] at h
              refine az_E.sn 2 (pc' := 18) (L' := [.long a3.toInt64, .retAddr 0, .long (0 : Int64), .retAddr 0, .long (1 : Int64), .retAddr 0]) (S' := [.int (1 : Int32)]) (σ' := (97, I, J, R)) rfl ?_
              refine az_E.ret (v := some (.int (1 : Int32))) (σ' := (97, I, J, R)) rfl ?_
              show az_E az_F ex 125 205 22 [.ref 73, .int a1, .int a2, .int a3, .retAddr 0, .retAddr 0, .retAddr 0, .retAddr 0] [.int (1 : Int32)] (97, I, J, R) _
              refine az_E.br (c := (1 : Int32) = 0) (tt := 25) (ff := 27) (L' := [.ref 73, .int a1, .int a2, .int a3, .retAddr 0, .retAddr 0, .retAddr 0, .retAddr 0]) (S' := []) (σ' := (97, I, J, R)) rfl (fun hn => absurd hn (by decide)) (fun _ => ?_)
              refine az_E.sn 3 (pc' := 31) (L' := [.ref 73, .int a1, .int a2, .int a3, .retAddr 0, .retAddr 0, .retAddr 0, .retAddr 0]) (S' := [.int (10 : Int32), .int a2, .ref 73]) (σ' := (97, I, J, R)) rfl ?_
              have hd_9 : ¬ ((10 : Int32) = 0) := by decide
              refine az_E.dv (c := (10 : Int32) = 0) (pc' := 32) (L' := [.ref 73, .int a1, .int a2, .int a3, .retAddr 0, .retAddr 0, .retAddr 0, .retAddr 0]) (S' := [.int (a2 / (10 : Int32)), .ref 73]) (σ' := (97, I, J, R)) rfl hd_9 ?_
              cases hx_11 : rs_M_asksFor I (a2 / (10 : Int32)) with
              | none => rw [hx_11] at h; cases h
              | some I_10 =>
                rw [hx_11] at h
                dsimp only at h
                refine az_E.call (d := 124) (k' := 190) (vs := [.ref 73, .int (a2 / (10 : Int32))]) (pc' := 35) (S' := []) (Q1 := fun v s => v = none ∧ s = (97, I_10, J, R)) rfl (az_E.deep (by omega) (re_M_asksFor (J := J) (R := R)  hx_11 ⟨rfl, rfl⟩)) (fun v s hq => ?_)
                obtain ⟨rfl, rfl⟩ := hq
                show az_E az_F ex 125 205 35 [.ref 73, .int a1, .int a2, .int a3, .retAddr 0, .retAddr 0, .retAddr 0, .retAddr 0] [] (97, I_10, J, R) _
                refine az_E.sn 3 (pc' := 40) (L' := [.ref 73, .int a1, .int a2, .int a3, .retAddr 0, .retAddr 0, .retAddr 0, .retAddr 0]) (S' := [.int (1000 : Int32), .int a1, .ref 73]) (σ' := (97, I_10, J, R)) rfl ?_
                have hd_12 : ¬ ((1000 : Int32) = 0) := by decide
                refine az_E.dv (c := (1000 : Int32) = 0) (pc' := 41) (L' := [.ref 73, .int a1, .int a2, .int a3, .retAddr 0, .retAddr 0, .retAddr 0, .retAddr 0]) (S' := [.int (a1 / (1000 : Int32)), .ref 73]) (σ' := (97, I_10, J, R)) rfl hd_12 ?_
                refine az_E.sn 1 (pc' := 42) (L' := [.ref 73, .int a1, .int a2, .int a3, .retAddr 0, .retAddr 0, .retAddr 0, .retAddr 0]) (S' := [.int (1 : Int32), .int (a1 / (1000 : Int32)), .ref 73]) (σ' := (97, I_10, J, R)) rfl ?_
                cases hx_14 : rs_M_asksMinutes I_10 (a1 / (1000 : Int32)) (1 : Int32) with
                | none => rw [hx_14] at h; cases h
                | some I_13 =>
                  rw [hx_14] at h
                  dsimp only at h
                  refine az_E.call (d := 124) (k' := 194) (vs := [.ref 73, .int (a1 / (1000 : Int32)), .int (1 : Int32)]) (pc' := 45) (S' := []) (Q1 := fun v s => v = none ∧ s = (97, I_13, J, R)) rfl (az_E.deep (by omega) (re_M_asksMinutes (J := J) (R := R)  hx_14 ⟨rfl, rfl⟩)) (fun v s hq => ?_)
                  obtain ⟨rfl, rfl⟩ := hq
                  show az_E az_F ex 125 205 45 [.ref 73, .int a1, .int a2, .int a3, .retAddr 0, .retAddr 0, .retAddr 0, .retAddr 0] [] (97, I_13, J, R) _
                  refine az_E.sn 2 (pc' := 48) (L' := [.ref 73, .int a1, .int a2, .int a3, .int (0 : Int32), .retAddr 0, .retAddr 0, .retAddr 0]) (S' := []) (σ' := (97, I_13, J, R)) rfl ?_
                  exact az_E.forget (L := [.ref 73, .int a1, .int a2, .int a3, .int (0 : Int32), .retAddr 0, .retAddr 0, .retAddr 0]) ⟨rfl, rfl, rfl, rfl, rfl, trivial, trivial, trivial, trivial⟩ (re_M_meet_48 (I := I_13) (J := J) (R := R)  h hQ)
set_option maxRecDepth 100000 in
set_option maxHeartbeats 4000000 in
theorem re_Pa_withLoad_26_16 {ex : az_X} {I : Nat → Nat → Int32} {J : Nat → Nat → Int64} {R : Nat → Nat → Option Nat} {a1 : Int32} (hR_26_2 : R 26 2 = some 16) {o : (Nat → Nat → Int32)} (h : rs_Pa_withLoad 26 16 I a1 = some o) {Q : Option Value → az_S → Prop} (hQ : Q none (97, o, J, R)) : az_E az_F ex 4 45 0 [.ref 26, .int a1] [] (97, I, J, R) Q := by
  unfold rs_Pa_withLoad at h
  refine az_E.sn 4 (pc' := 6) (L' := [.ref 26, .int a1]) (S' := [.ref 26]) (σ' := (97, (az_u I 26 5 a1), J, R)) rfl ?_
  cases hx_2 : rs_Pa_fill 26 16 (az_u I 26 5 a1) with
  | none => rw [hx_2] at h; cases h
  | some I_1 =>
    rw [hx_2] at h
    dsimp only at h
    refine az_E.call (d := 3) (k' := 50) (vs := [.ref 26]) (pc' := 9) (S' := []) (Q1 := fun v s => v = none ∧ s = (97, I_1, J, R)) rfl (az_E.deep (by omega) (re_Pa_fill_26_16 (J := J) (R := R) hR_26_2 hx_2 ⟨rfl, rfl⟩)) (fun v s hq => ?_)
    obtain ⟨rfl, rfl⟩ := hq
    show az_E az_F ex 4 45 9 [.ref 26, .int a1] [] (97, I_1, J, R) _
    have h := Option.some.inj h
    subst h
    exact az_E.ret (v := none) (σ' := (97, I_1, J, R)) rfl hQ
set_option maxRecDepth 100000 in
set_option maxHeartbeats 4000000 in
theorem re_X_carry_37_b_16_21 {ex : az_X} {I : Nat → Nat → Int32} {J : Nat → Nat → Int64} {R : Nat → Nat → Option Nat} {v1 : Int32} {v3 : Int32} {v4 : Int32} (hR_3_2 : R 3 2 = some 16) (hR_3_3 : R 3 3 = some 21) {x : ((Int32 × (Nat → Nat → Int32)) ⊕ (Int32 × (Nat → Nat → Int32)))} (h : rs_X_carry_37_b 21 16 v1 v3 v4 I = some x) {Q : Option Value → az_S → Prop} (hQ : Sum.elim (fun s => az_E az_F ex 6 98 37 [.ref 3, .int v1, .retAddr 0, .int v3, .int s.1] [] (97, s.2, J, (az_u (az_u R 26 2 (some 16)) 26 3 (some 5))) Q) (fun x => ∀ R' : Nat → Nat → Option Nat, R' 3 2 = some 16 → R' 3 3 = some 21 → Q (some (.int x.1)) (97, x.2, J, R')) x) : az_E az_F ex 6 98 37 [.ref 3, .int v1, .retAddr 0, .int v3, .int v4] [] (97, I, J, (az_u (az_u R 26 2 (some 16)) 26 3 (some 5))) Q := by
  unfold rs_X_carry_37_b at h
  refine az_E.sn 1 (pc' := 39) (L' := [.ref 3, .int v1, .retAddr 0, .int v3, .int v4]) (S' := [.int v4]) (σ' := (97, I, J, (az_u (az_u R 26 2 (some 16)) 26 3 (some 5)))) rfl ?_
  refine az_E.br (c := v4 < 0) (tt := 83) (ff := 42) (L' := [.ref 3, .int v1, .retAddr 0, .int v3, .int v4]) (S' := []) (σ' := (97, I, J, (az_u (az_u R 26 2 (some 16)) 26 3 (some 5)))) rfl (fun hc_10 => ?_) (fun hc_10 => ?_)
  · rw [if_pos hc_10] at h
    refine az_E.sn 1 (pc' := 85) (L' := [.ref 3, .int v1, .retAddr 0, .int v3, .int v4]) (S' := [.int (-2 : Int32)]) (σ' := (97, I, J, (az_u (az_u R 26 2 (some 16)) 26 3 (some 5)))) rfl ?_
    have h := Option.some.inj h
    subst h
    try simp only [Sum.elim_inl, Sum.elim_inr] at hQ
    exact az_E.ret (v := some (.int (-2 : Int32))) (σ' := (97, I, J, (az_u (az_u R 26 2 (some 16)) 26 3 (some 5)))) rfl (hQ _ hR_3_2 hR_3_3)
  · rw [if_neg hc_10] at h
    refine az_E.sn 3 (pc' := 48) (L' := [.ref 3, .int v1, .retAddr 0, .int v3, .int v4]) (S' := [.int v4, .ref 26]) (σ' := (97, I, J, (az_u (az_u R 26 2 (some 16)) 26 3 (some 5)))) rfl ?_
    cases hx_12 : rs_Pa_withLoad 26 16 I v4 with
    | none => rw [hx_12] at h; cases h
    | some I_11 =>
      rw [hx_12] at h
      dsimp only at h
      refine az_E.call (d := 5) (k' := 45) (vs := [.ref 26, .int v4]) (pc' := 51) (S' := []) (Q1 := fun v s => v = none ∧ s = (97, I_11, J, (az_u (az_u R 26 2 (some 16)) 26 3 (some 5)))) rfl (az_E.deep (by omega) (re_Pa_withLoad_26_16 (J := J) (R := (az_u (az_u R 26 2 (some 16)) 26 3 (some 5))) rfl hx_12 ⟨rfl, rfl⟩)) (fun v s hq => ?_)
      obtain ⟨rfl, rfl⟩ := hq
      show az_E az_F ex 6 98 51 [.ref 3, .int v1, .retAddr 0, .int v3, .int v4] [] (97, I_11, J, (az_u (az_u R 26 2 (some 16)) 26 3 (some 5))) _
      refine az_E.sn 5 (pc' := 60) (L' := [.ref 3, .int v1, .retAddr 0, .int v3, .int v4]) (S' := [.int v1, .ref 26, .ref 32]) (σ' := (97, I_11, J, (az_u (az_u R 26 2 (some 16)) 26 3 (some 5)))) rfl ?_
      refine az_E.call (d := 5) (k' := 135) (vs := [.int v1]) (pc' := 63) (S' := [.ref 26, .ref 32]) rfl ?_ (fun _ _ hq => hq)
      show az_E az_F ex 5 135 0 [.int v1] [] (97, I_11, J, (az_u (az_u R 26 2 (some 16)) 26 3 (some 5))) _
      refine az_E.sn 2 (pc' := 4) (L' := [.int v1]) (S' := [.int (1000 : Int32), .int v1]) (σ' := (97, I_11, J, (az_u (az_u R 26 2 (some 16)) 26 3 (some 5)))) rfl ?_
      have hd_13 : ¬ ((1000 : Int32) = 0) := by decide
      refine az_E.dv (c := (1000 : Int32) = 0) (pc' := 5) (L' := [.int v1]) (S' := [.int (v1 / (1000 : Int32))]) (σ' := (97, I_11, J, (az_u (az_u R 26 2 (some 16)) 26 3 (some 5)))) rfl hd_13 ?_
      refine az_E.ret (v := some (.int (v1 / (1000 : Int32)))) (σ' := (97, I_11, J, (az_u (az_u R 26 2 (some 16)) 26 3 (some 5)))) rfl ?_
      show az_E az_F ex 6 98 63 [.ref 3, .int v1, .retAddr 0, .int v3, .int v4] [.int (v1 / (1000 : Int32)), .ref 26, .ref 32] (97, I_11, J, (az_u (az_u R 26 2 (some 16)) 26 3 (some 5))) _
      refine az_E.sn 1 (pc' := 64) (L' := [.ref 3, .int v1, .retAddr 0, .int v3, .int v4]) (S' := [.int v1, .int (v1 / (1000 : Int32)), .ref 26, .ref 32]) (σ' := (97, I_11, J, (az_u (az_u R 26 2 (some 16)) 26 3 (some 5)))) rfl ?_
      refine az_E.call (d := 5) (k' := 136) (vs := [.int v1]) (pc' := 67) (S' := [.int (v1 / (1000 : Int32)), .ref 26, .ref 32]) rfl ?_ (fun _ _ hq => hq)
      show az_E az_F ex 5 136 0 [.int v1] [] (97, I_11, J, (az_u (az_u R 26 2 (some 16)) 26 3 (some 5))) _
      refine az_E.sn 2 (pc' := 4) (L' := [.int v1]) (S' := [.int (1000 : Int32), .int v1]) (σ' := (97, I_11, J, (az_u (az_u R 26 2 (some 16)) 26 3 (some 5)))) rfl ?_
      have hd_14 : ¬ ((1000 : Int32) = 0) := by decide
      refine az_E.dv (c := (1000 : Int32) = 0) (pc' := 5) (L' := [.int v1]) (S' := [.int (v1 - v1 / (1000 : Int32) * (1000 : Int32))]) (σ' := (97, I_11, J, (az_u (az_u R 26 2 (some 16)) 26 3 (some 5)))) rfl hd_14 ?_
      refine az_E.ret (v := some (.int (v1 - v1 / (1000 : Int32) * (1000 : Int32)))) (σ' := (97, I_11, J, (az_u (az_u R 26 2 (some 16)) 26 3 (some 5)))) rfl ?_
      show az_E az_F ex 6 98 67 [.ref 3, .int v1, .retAddr 0, .int v3, .int v4] [.int (v1 - v1 / (1000 : Int32) * (1000 : Int32)), .int (v1 / (1000 : Int32)), .ref 26, .ref 32] (97, I_11, J, (az_u (az_u R 26 2 (some 16)) 26 3 (some 5))) _
      cases hx_17 : rs_Fi_minutes 26 I_11 (v1 / (1000 : Int32)) (v1 - v1 / (1000 : Int32) * (1000 : Int32)) with
      | none => rw [hx_17] at h; cases h
      | some o =>
        rw [hx_17] at h
        obtain ⟨x_15, I_16⟩ := o
        dsimp only at h
        refine az_E.call (d := 5) (k' := 16) (vs := [.ref 32, .ref 26, .int (v1 / (1000 : Int32)), .int (v1 - v1 / (1000 : Int32) * (1000 : Int32))]) (pc' := 70) (S' := []) (Q1 := fun v s => v = some (.int x_15) ∧ s = (97, I_16, J, (az_u (az_u R 26 2 (some 16)) 26 3 (some 5)))) rfl (az_E.deep (by omega) (re_Fi_minutes_26_5 (J := J) (R := (az_u (az_u R 26 2 (some 16)) 26 3 (some 5))) rfl hx_17 ⟨rfl, rfl⟩)) (fun v s hq => ?_)
        obtain ⟨rfl, rfl⟩ := hq
        show az_E az_F ex 6 98 70 [.ref 3, .int v1, .retAddr 0, .int v3, .int v4] [.int x_15] (97, I_16, J, (az_u (az_u R 26 2 (some 16)) 26 3 (some 5))) _
        refine az_E.sn 1 (pc' := 71) (L' := [.ref 3, .int v1, .retAddr 0, .int v3, .int v4]) (S' := [.int v3, .int x_15]) (σ' := (97, I_16, J, (az_u (az_u R 26 2 (some 16)) 26 3 (some 5)))) rfl ?_
        refine az_E.br (c := v3 < x_15) (tt := 77) (ff := 74) (L' := [.ref 3, .int v1, .retAddr 0, .int v3, .int v4]) (S' := []) (σ' := (97, I_16, J, (az_u (az_u R 26 2 (some 16)) 26 3 (some 5)))) rfl (fun hc_18 => ?_) (fun hc_18 => ?_)
        · rw [if_pos hc_18] at h
          refine az_E.sn 2 (pc' := 37) (L' := [.ref 3, .int v1, .retAddr 0, .int v3, .int (v4 + (-1 : Int32))]) (S' := []) (σ' := (97, I_16, J, (az_u (az_u R 26 2 (some 16)) 26 3 (some 5)))) rfl ?_
          have h := Option.some.inj h
          subst h
          exact az_E.forget (L := [.ref 3, .int v1, .retAddr 0, .int v3, .int (v4 + (-1 : Int32))]) ⟨rfl, rfl, trivial, rfl, rfl, trivial⟩ hQ
        · rw [if_neg hc_18] at h
          refine az_E.sn 1 (pc' := 76) (L' := [.ref 3, .int v1, .retAddr 0, .int v3, .int v4]) (S' := [.int v4]) (σ' := (97, I_16, J, (az_u (az_u R 26 2 (some 16)) 26 3 (some 5)))) rfl ?_
          have h := Option.some.inj h
          subst h
          try simp only [Sum.elim_inl, Sum.elim_inr] at hQ
          exact az_E.ret (v := some (.int v4)) (σ' := (97, I_16, J, (az_u (az_u R 26 2 (some 16)) 26 3 (some 5)))) rfl (hQ _ hR_3_2 hR_3_3)
set_option maxRecDepth 100000 in
set_option maxHeartbeats 4000000 in
theorem re_X_carry_37_16_21 {ex : az_X} {I : Nat → Nat → Int32} {J : Nat → Nat → Int64} {R : Nat → Nat → Option Nat} {v1 : Int32} {v3 : Int32} {v4 : Int32} (hR_3_2 : R 3 2 = some 16) (hR_3_3 : R 3 3 = some 21) {x : Int32 × (Nat → Nat → Int32)} (h : rs_X_carry_37 21 16 I v1 v3 v4 = some x) {Q : Option Value → az_S → Prop} (hQ : ∀ R' : Nat → Nat → Option Nat, R' 3 2 = some 16 → R' 3 3 = some 21 → Q (some (.int x.1)) (97, x.2, J, R')) : az_E az_F ex 6 98 37 [.ref 3, .int v1, .retAddr 0, .int v3, .int v4] [] (97, I, J, (az_u (az_u R 26 2 (some 16)) 26 3 (some 5))) Q := by
  unfold rs_X_carry_37 at h
  refine az_lp_E (G := fun s => az_E az_F ex 6 98 37 [.ref 3, .int v1, .retAddr 0, .int v3, .int s.1] [] (97, s.2, J, (az_u (az_u R 26 2 (some 16)) 26 3 (some 5))) Q) (H := fun x => ∀ R' : Nat → Nat → Option Nat, R' 3 2 = some 16 → R' 3 3 = some 21 → Q (some (.int x.1)) (97, x.2, J, R')) (fun s o hb ho => ?_) _ _ _ h hQ
  exact re_X_carry_37_b_16_21 hR_3_2 hR_3_3 hb ho
set_option maxRecDepth 100000 in
set_option maxHeartbeats 4000000 in
theorem re_X_carry_16_21 {ex : az_X} {I : Nat → Nat → Int32} {J : Nat → Nat → Int64} {R : Nat → Nat → Option Nat} {a1 : Int32} {a2 : Int32} {a3 : Int32} (hR_3_2 : R 3 2 = some 16) (hR_3_3 : R 3 3 = some 21) {o : Int32 × (Nat → Nat → Int32)} (h : rs_X_carry 21 16 I a1 a2 a3 = some o) {Q : Option Value → az_S → Prop} (hQ : ∀ R' : Nat → Nat → Option Nat, R' 3 2 = some 16 → R' 3 3 = some 21 → Q (some (.int o.1)) (97, o.2, J, R')) : az_E az_F ex 6 98 0 [.ref 3, .int a1, .int a2, .int a3, .retAddr 0] [] (97, I, J, R) Q := by
  unfold rs_X_carry at h
  refine az_E.sn 1 (pc' := 1) (L' := [.ref 3, .int a1, .int a2, .int a3, .retAddr 0]) (S' := [.int a1]) (σ' := (97, I, J, R)) rfl ?_
  cases hx_2 : rs_X_isFromTo a1 with
  | none => rw [hx_2] at h; cases h
  | some x_1 =>
    rw [hx_2] at h
    dsimp only at h
    refine az_E.call (d := 5) (k' := 134) (vs := [.int a1]) (pc' := 4) (S' := []) (Q1 := fun v s => v = some (.int x_1) ∧ s = (97, I, J, R)) rfl (az_E.deep (by omega) (re_X_isFromTo (J := J) (R := R)  hx_2 ⟨rfl, rfl⟩)) (fun v s hq => ?_)
    obtain ⟨rfl, rfl⟩ := hq
    show az_E az_F ex 6 98 4 [.ref 3, .int a1, .int a2, .int a3, .retAddr 0] [.int x_1] (97, I, J, R) _
    refine az_E.br (c := x_1 = 0) (tt := 26) (ff := 7) (L' := [.ref 3, .int a1, .int a2, .int a3, .retAddr 0]) (S' := []) (σ' := (97, I, J, R)) rfl (fun hc_3 => ?_) (fun hc_3 => ?_)
    · rw [if_pos hc_3] at h
      refine az_E.sn 1 (pc' := 27) (L' := [.ref 3, .int a1, .int a2, .int a3, .retAddr 0]) (S' := [.int (-1 : Int32)]) (σ' := (97, I, J, R)) rfl ?_
      have h := Option.some.inj h
      subst h
      exact az_E.ret (v := some (.int (-1 : Int32))) (σ' := (97, I, J, R)) rfl (hQ _ hR_3_2 hR_3_3)
    · rw [if_neg hc_3] at h
      refine az_E.sn 2 (pc' := 9) (L' := [.ref 3, .int a1, .int a2, .int a3, .retAddr 0]) (S' := [.int a2, .ref 3]) (σ' := (97, I, J, R)) rfl ?_
      refine az_E.call (d := 5) (k' := 138) (vs := [.ref 3, .int a2]) (pc' := 12) (S' := []) rfl ?_ (fun _ _ hq => hq)
      show az_E az_F ex 5 138 0 [.ref 3, .int a2] [] (97, I, J, R) _
      refine az_E.sn 7 (pc' := 11) (L' := [.ref 3, .int a2]) (S' := [.int ((I 4 9) - (1 : Int32)), .int (0 : Int32), .int a2]) (σ' := (97, I, J, R)) rfl ?_
      refine az_E.call (d := 4) (k' := 131) (vs := [.int a2, .int (0 : Int32), .int ((I 4 9) - (1 : Int32))]) (pc' := 14) (S' := []) rfl ?_ (fun _ _ hq => hq)
      show az_E az_F ex 4 131 0 [.int a2, .int (0 : Int32), .int ((I 4 9) - (1 : Int32))] [] (97, I, J, R) _
      refine az_E.sn 2 (pc' := 2) (L' := [.int a2, .int (0 : Int32), .int ((I 4 9) - (1 : Int32))]) (S' := [.int (0 : Int32), .int a2]) (σ' := (97, I, J, R)) rfl ?_
      refine az_E.br (c := a2 < (0 : Int32)) (tt := 14) (ff := 5) (L' := [.int a2, .int (0 : Int32), .int ((I 4 9) - (1 : Int32))]) (S' := []) (σ' := (97, I, J, R)) rfl (fun hc_4 => ?_) (fun hc_4 => ?_)
      · rw [if_pos hc_4] at h
        refine az_E.sn 1 (pc' := 15) (L' := [.int a2, .int (0 : Int32), .int ((I 4 9) - (1 : Int32))]) (S' := [.int (0 : Int32)]) (σ' := (97, I, J, R)) rfl ?_
        refine az_E.ret (v := some (.int (0 : Int32))) (σ' := (97, I, J, R)) rfl ?_
        show az_E az_F ex 5 138 14 [.ref 3, .int a2] [.int (0 : Int32)] (97, I, J, R) _
        refine az_E.ret (v := some (.int (0 : Int32))) (σ' := (97, I, J, R)) rfl ?_
        show az_E az_F ex 6 98 12 [.ref 3, .int a1, .int a2, .int a3, .retAddr 0] [.int (0 : Int32)] (97, I, J, R) _
        refine az_E.br (c := (0 : Int32) = 0) (tt := 26) (ff := 15) (L' := [.ref 3, .int a1, .int a2, .int a3, .retAddr 0]) (S' := []) (σ' := (97, I, J, R)) rfl (fun _ => ?_) (fun hn => absurd (by decide) hn)
        refine az_E.sn 1 (pc' := 27) (L' := [.ref 3, .int a1, .int a2, .int a3, .retAddr 0]) (S' := [.int (-1 : Int32)]) (σ' := (97, I, J, R)) rfl ?_
        have h := Option.some.inj h
        subst h
        exact az_E.ret (v := some (.int (-1 : Int32))) (σ' := (97, I, J, R)) rfl (hQ _ hR_3_2 hR_3_3)
      · rw [if_neg hc_4] at h
        refine az_E.sn 2 (pc' := 7) (L' := [.int a2, .int (0 : Int32), .int ((I 4 9) - (1 : Int32))]) (S' := [.int ((I 4 9) - (1 : Int32)), .int a2]) (σ' := (97, I, J, R)) rfl ?_
        refine az_E.br (c := ((I 4 9) - (1 : Int32)) < a2) (tt := 14) (ff := 10) (L' := [.int a2, .int (0 : Int32), .int ((I 4 9) - (1 : Int32))]) (S' := []) (σ' := (97, I, J, R)) rfl (fun hc_5 => ?_) (fun hc_5 => ?_)
        · rw [if_pos hc_5] at h
          refine az_E.sn 1 (pc' := 15) (L' := [.int a2, .int (0 : Int32), .int ((I 4 9) - (1 : Int32))]) (S' := [.int (0 : Int32)]) (σ' := (97, I, J, R)) rfl ?_
          refine az_E.ret (v := some (.int (0 : Int32))) (σ' := (97, I, J, R)) rfl ?_
          show az_E az_F ex 5 138 14 [.ref 3, .int a2] [.int (0 : Int32)] (97, I, J, R) _
          refine az_E.ret (v := some (.int (0 : Int32))) (σ' := (97, I, J, R)) rfl ?_
          show az_E az_F ex 6 98 12 [.ref 3, .int a1, .int a2, .int a3, .retAddr 0] [.int (0 : Int32)] (97, I, J, R) _
          refine az_E.br (c := (0 : Int32) = 0) (tt := 26) (ff := 15) (L' := [.ref 3, .int a1, .int a2, .int a3, .retAddr 0]) (S' := []) (σ' := (97, I, J, R)) rfl (fun _ => ?_) (fun hn => absurd (by decide) hn)
          refine az_E.sn 1 (pc' := 27) (L' := [.ref 3, .int a1, .int a2, .int a3, .retAddr 0]) (S' := [.int (-1 : Int32)]) (σ' := (97, I, J, R)) rfl ?_
          have h := Option.some.inj h
          subst h
          exact az_E.ret (v := some (.int (-1 : Int32))) (σ' := (97, I, J, R)) rfl (hQ _ hR_3_2 hR_3_3)
        · rw [if_neg hc_5] at h
          refine az_E.sn 2 (pc' := 15) (L' := [.int a2, .int (0 : Int32), .int ((I 4 9) - (1 : Int32))]) (S' := [.int (1 : Int32)]) (σ' := (97, I, J, R)) rfl ?_
          refine az_E.ret (v := some (.int (1 : Int32))) (σ' := (97, I, J, R)) rfl ?_
          show az_E az_F ex 5 138 14 [.ref 3, .int a2] [.int (1 : Int32)] (97, I, J, R) _
          refine az_E.ret (v := some (.int (1 : Int32))) (σ' := (97, I, J, R)) rfl ?_
          show az_E az_F ex 6 98 12 [.ref 3, .int a1, .int a2, .int a3, .retAddr 0] [.int (1 : Int32)] (97, I, J, R) _
          refine az_E.br (c := (1 : Int32) = 0) (tt := 26) (ff := 15) (L' := [.ref 3, .int a1, .int a2, .int a3, .retAddr 0]) (S' := []) (σ' := (97, I, J, R)) rfl (fun hn => absurd hn (by decide)) (fun _ => ?_)
          refine az_E.sn 3 (pc' := 20) (L' := [.ref 3, .int a1, .int a2, .int a3, .retAddr 0]) (S' := [.int (9999 : Int32), .int (0 : Int32), .int a3]) (σ' := (97, I, J, R)) rfl ?_
          refine az_E.call (d := 5) (k' := 131) (vs := [.int a3, .int (0 : Int32), .int (9999 : Int32)]) (pc' := 23) (S' := []) rfl ?_ (fun _ _ hq => hq)
          show az_E az_F ex 5 131 0 [.int a3, .int (0 : Int32), .int (9999 : Int32)] [] (97, I, J, R) _
          refine az_E.sn 2 (pc' := 2) (L' := [.int a3, .int (0 : Int32), .int (9999 : Int32)]) (S' := [.int (0 : Int32), .int a3]) (σ' := (97, I, J, R)) rfl ?_
          refine az_E.br (c := a3 < (0 : Int32)) (tt := 14) (ff := 5) (L' := [.int a3, .int (0 : Int32), .int (9999 : Int32)]) (S' := []) (σ' := (97, I, J, R)) rfl (fun hc_6 => ?_) (fun hc_6 => ?_)
          · rw [if_pos hc_6] at h
            refine az_E.sn 1 (pc' := 15) (L' := [.int a3, .int (0 : Int32), .int (9999 : Int32)]) (S' := [.int (0 : Int32)]) (σ' := (97, I, J, R)) rfl ?_
            refine az_E.ret (v := some (.int (0 : Int32))) (σ' := (97, I, J, R)) rfl ?_
            show az_E az_F ex 6 98 23 [.ref 3, .int a1, .int a2, .int a3, .retAddr 0] [.int (0 : Int32)] (97, I, J, R) _
            refine az_E.br (c := (0 : Int32) = 0) (tt := 26) (ff := 28) (L' := [.ref 3, .int a1, .int a2, .int a3, .retAddr 0]) (S' := []) (σ' := (97, I, J, R)) rfl (fun _ => ?_) (fun hn => absurd (by decide) hn)
            refine az_E.sn 1 (pc' := 27) (L' := [.ref 3, .int a1, .int a2, .int a3, .retAddr 0]) (S' := [.int (-1 : Int32)]) (σ' := (97, I, J, R)) rfl ?_
            have h := Option.some.inj h
            subst h
            exact az_E.ret (v := some (.int (-1 : Int32))) (σ' := (97, I, J, R)) rfl (hQ _ hR_3_2 hR_3_3)
          · rw [if_neg hc_6] at h
            refine az_E.sn 2 (pc' := 7) (L' := [.int a3, .int (0 : Int32), .int (9999 : Int32)]) (S' := [.int (9999 : Int32), .int a3]) (σ' := (97, I, J, R)) rfl ?_
            refine az_E.br (c := (9999 : Int32) < a3) (tt := 14) (ff := 10) (L' := [.int a3, .int (0 : Int32), .int (9999 : Int32)]) (S' := []) (σ' := (97, I, J, R)) rfl (fun hc_7 => ?_) (fun hc_7 => ?_)
            · rw [if_pos hc_7] at h
              refine az_E.sn 1 (pc' := 15) (L' := [.int a3, .int (0 : Int32), .int (9999 : Int32)]) (S' := [.int (0 : Int32)]) (σ' := (97, I, J, R)) rfl ?_
              refine az_E.ret (v := some (.int (0 : Int32))) (σ' := (97, I, J, R)) rfl ?_
              show az_E az_F ex 6 98 23 [.ref 3, .int a1, .int a2, .int a3, .retAddr 0] [.int (0 : Int32)] (97, I, J, R) _
              refine az_E.br (c := (0 : Int32) = 0) (tt := 26) (ff := 28) (L' := [.ref 3, .int a1, .int a2, .int a3, .retAddr 0]) (S' := []) (σ' := (97, I, J, R)) rfl (fun _ => ?_) (fun hn => absurd (by decide) hn)
              refine az_E.sn 1 (pc' := 27) (L' := [.ref 3, .int a1, .int a2, .int a3, .retAddr 0]) (S' := [.int (-1 : Int32)]) (σ' := (97, I, J, R)) rfl ?_
              have h := Option.some.inj h
              subst h
              exact az_E.ret (v := some (.int (-1 : Int32))) (σ' := (97, I, J, R)) rfl (hQ _ hR_3_2 hR_3_3)
            · rw [if_neg hc_7] at h
              refine az_E.sn 2 (pc' := 15) (L' := [.int a3, .int (0 : Int32), .int (9999 : Int32)]) (S' := [.int (1 : Int32)]) (σ' := (97, I, J, R)) rfl ?_
              refine az_E.ret (v := some (.int (1 : Int32))) (σ' := (97, I, J, R)) rfl ?_
              show az_E az_F ex 6 98 23 [.ref 3, .int a1, .int a2, .int a3, .retAddr 0] [.int (1 : Int32)] (97, I, J, R) _
              refine az_E.br (c := (1 : Int32) = 0) (tt := 26) (ff := 28) (L' := [.ref 3, .int a1, .int a2, .int a3, .retAddr 0]) (S' := []) (σ' := (97, I, J, R)) rfl (fun hn => absurd hn (by decide)) (fun _ => ?_)
              refine az_E.sn 2 (pc' := 30) (L' := [.ref 3, .int a1, .int a2, .int a3, .retAddr 0]) (S' := [.int a2, .ref 3]) (σ' := (97, I, J, R)) rfl ?_
              cases hx_9 : rs_X_setPace 16 I a2 with
              | none => rw [hx_9] at h; cases h
              | some I_8 =>
                rw [hx_9] at h
                dsimp only at h
                refine az_E.call (d := 5) (k' := 144) (vs := [.ref 3, .int a2]) (pc' := 33) (S' := []) (Q1 := fun v s => v = none ∧ s = (97, I_8, J, (az_u (az_u R 26 2 (some 16)) 26 3 (some 5)))) rfl (az_E.deep (by omega) (re_X_setPace_16 (J := J) (R := R) hR_3_2 hx_9 ⟨rfl, rfl⟩)) (fun v s hq => ?_)
                obtain ⟨rfl, rfl⟩ := hq
                show az_E az_F ex 6 98 33 [.ref 3, .int a1, .int a2, .int a3, .retAddr 0] [] (97, I_8, J, (az_u (az_u R 26 2 (some 16)) 26 3 (some 5))) _
                refine az_E.sn 2 (pc' := 37) (L' := [.ref 3, .int a1, .int a2, .int a3, .int (9 : Int32)]) (S' := []) (σ' := (97, I_8, J, (az_u (az_u R 26 2 (some 16)) 26 3 (some 5)))) rfl ?_
                exact az_E.forget (L := [.ref 3, .int a1, .retAddr 0, .int a3, .int (9 : Int32)]) ⟨rfl, rfl, trivial, rfl, rfl, trivial⟩ (re_X_carry_37_16_21 (I := I_8) (J := J) (R := R) hR_3_2 hR_3_3 h hQ)
set_option maxRecDepth 100000 in
set_option maxHeartbeats 4000000 in
theorem re_M_carry_34_b {ex : az_X} {I : Nat → Nat → Int32} {J : Nat → Nat → Int64} {R : Nat → Nat → Option Nat} {v1 : Int32} {v2 : Int32} {v3 : Int32} {v4 : Int32} {x : ((Int32 × (Nat → Nat → Int32)) ⊕ (Int32 × (Nat → Nat → Int32)))} (h : rs_M_carry_34_b v1 v2 v3 v4 I = some x) {Q : Option Value → az_S → Prop} (hQ : Sum.elim (fun s => az_E az_F ex 124 206 34 [.ref 73, .int v1, .int v2, .int v3, .int s.1] [] (97, s.2, J, R) Q) (fun x => Q (some (.int x.1)) (97, x.2, J, R)) x) : az_E az_F ex 124 206 34 [.ref 73, .int v1, .int v2, .int v3, .int v4] [] (97, I, J, R) Q := by
  unfold rs_M_carry_34_b at h
  refine az_E.sn 1 (pc' := 36) (L' := [.ref 73, .int v1, .int v2, .int v3, .int v4]) (S' := [.int v4]) (σ' := (97, I, J, R)) rfl ?_
  refine az_E.br (c := v4 < 0) (tt := 100) (ff := 39) (L' := [.ref 73, .int v1, .int v2, .int v3, .int v4]) (S' := []) (σ' := (97, I, J, R)) rfl (fun hc_8 => ?_) (fun hc_8 => ?_)
  · rw [if_pos hc_8] at h
    refine az_E.sn 1 (pc' := 102) (L' := [.ref 73, .int v1, .int v2, .int v3, .int v4]) (S' := [.int (-2 : Int32)]) (σ' := (97, I, J, R)) rfl ?_
    have h := Option.some.inj h
    subst h
    exact az_E.ret (v := some (.int (-2 : Int32))) (σ' := (97, I, J, R)) rfl hQ
  · rw [if_neg hc_8] at h
    refine az_E.sn 6 (pc' := 49) (L' := [.ref 73, .int v1, .int v2, .int v3, .int v4]) (S' := [.int ((160 : Int32) + v2), .ref 74, .ref 73]) (σ' := (97, I, J, R)) rfl ?_
    by_cases hc_9 : ((160 : Int32) + v2) < 0 ∨ 179 ≤ ((160 : Int32) + v2).toNatClampNeg
    · rw [if_pos hc_9] at h; cases h
    · rw [if_neg hc_9] at h
      refine az_E.oi (o := az_ai az_F ex (97, I, J, R) 74 ((160 : Int32) + v2)) (pc' := 50) (L' := [.ref 73, .int v1, .int v2, .int v3, .int v4]) (S' := [.ref 73]) (σ' := (97, I, J, R)) (x := (I 74 ((160 : Int32) + v2).toNatClampNeg)) rfl (if_neg hc_9) ?_
      refine az_E.sn 6 (pc' := 61) (L' := [.ref 73, .int v1, .int v2, .int v3, .int v4]) (S' := [.int ((172 : Int32) + v2), .ref 74, .int v4, .int (I 74 ((160 : Int32) + v2).toNatClampNeg), .ref 73]) (σ' := (97, I, J, R)) rfl ?_
      by_cases hc_10 : ((172 : Int32) + v2) < 0 ∨ 179 ≤ ((172 : Int32) + v2).toNatClampNeg
      · rw [if_pos hc_10] at h; cases h
      · rw [if_neg hc_10] at h
        refine az_E.oi (o := az_ai az_F ex (97, I, J, R) 74 ((172 : Int32) + v2)) (pc' := 62) (L' := [.ref 73, .int v1, .int v2, .int v3, .int v4]) (S' := [.int v4, .int (I 74 ((160 : Int32) + v2).toNatClampNeg), .ref 73]) (σ' := (97, I, J, R)) (x := (I 74 ((172 : Int32) + v2).toNatClampNeg)) rfl (if_neg hc_10) ?_
        refine az_E.sn 3 (pc' := 69) (L' := [.ref 73, .int v1, .int v2, .int v3, .int v4]) (S' := [.int (178 : Int32), .ref 74, .int (I 74 ((172 : Int32) + v2).toNatClampNeg), .int v4, .int (I 74 ((160 : Int32) + v2).toNatClampNeg), .ref 73]) (σ' := (97, I, J, R)) rfl ?_
        refine az_E.oi (o := az_ai az_F ex (97, I, J, R) 74 (178 : Int32)) (pc' := 70) (L' := [.ref 73, .int v1, .int v2, .int v3, .int v4]) (S' := [.int (I 74 ((172 : Int32) + v2).toNatClampNeg), .int v4, .int (I 74 ((160 : Int32) + v2).toNatClampNeg), .ref 73]) (σ' := (97, I, J, R)) (x := (I 74 178)) rfl rfl ?_
        cases hx_13 : rs_M_asksSteps I (I 74 ((160 : Int32) + v2).toNatClampNeg) v4 (I 74 ((172 : Int32) + v2).toNatClampNeg) (I 74 178) with
        | none => rw [hx_13] at h; cases h
        | some I_12 =>
          rw [hx_13] at h
          dsimp only at h
          refine az_E.call (d := 123) (k' := 189) (vs := [.ref 73, .int (I 74 ((160 : Int32) + v2).toNatClampNeg), .int v4, .int (I 74 ((172 : Int32) + v2).toNatClampNeg), .int (I 74 178)]) (pc' := 73) (S' := []) (Q1 := fun v s => v = none ∧ s = (97, I_12, J, R)) rfl (az_E.deep (by omega) (re_M_asksSteps (J := J) (R := R)  hx_13 ⟨rfl, rfl⟩)) (fun v s hq => ?_)
          obtain ⟨rfl, rfl⟩ := hq
          show az_E az_F ex 124 206 73 [.ref 73, .int v1, .int v2, .int v3, .int v4] [] (97, I_12, J, R) _
          refine az_E.sn 3 (pc' := 78) (L' := [.ref 73, .int v1, .int v2, .int v3, .int v4]) (S' := [.int (1000 : Int32), .int v1, .ref 73]) (σ' := (97, I_12, J, R)) rfl ?_
          have hd_14 : ¬ ((1000 : Int32) = 0) := by decide
          refine az_E.dv (c := (1000 : Int32) = 0) (pc' := 79) (L' := [.ref 73, .int v1, .int v2, .int v3, .int v4]) (S' := [.int (v1 / (1000 : Int32)), .ref 73]) (σ' := (97, I_12, J, R)) rfl hd_14 ?_
          refine az_E.sn 2 (pc' := 83) (L' := [.ref 73, .int v1, .int v2, .int v3, .int v4]) (S' := [.int (1000 : Int32), .int v1, .int (v1 / (1000 : Int32)), .ref 73]) (σ' := (97, I_12, J, R)) rfl ?_
          have hd_15 : ¬ ((1000 : Int32) = 0) := by decide
          refine az_E.dv (c := (1000 : Int32) = 0) (pc' := 84) (L' := [.ref 73, .int v1, .int v2, .int v3, .int v4]) (S' := [.int (v1 - v1 / (1000 : Int32) * (1000 : Int32)), .int (v1 / (1000 : Int32)), .ref 73]) (σ' := (97, I_12, J, R)) rfl hd_15 ?_
          cases hx_18 : rs_M_between I_12 (v1 / (1000 : Int32)) (v1 - v1 / (1000 : Int32) * (1000 : Int32)) with
          | none => rw [hx_18] at h; cases h
          | some o =>
            rw [hx_18] at h
            obtain ⟨x_16, I_17⟩ := o
            dsimp only at h
            refine az_E.call (d := 123) (k' := 195) (vs := [.ref 73, .int (v1 / (1000 : Int32)), .int (v1 - v1 / (1000 : Int32) * (1000 : Int32))]) (pc' := 87) (S' := []) (Q1 := fun v s => v = some (.int x_16) ∧ s = (97, I_17, J, R)) rfl (az_E.deep (by omega) (re_M_between (J := J) (R := R)  hx_18 ⟨rfl, rfl⟩)) (fun v s hq => ?_)
            obtain ⟨rfl, rfl⟩ := hq
            show az_E az_F ex 124 206 87 [.ref 73, .int v1, .int v2, .int v3, .int v4] [.int x_16] (97, I_17, J, R) _
            refine az_E.sn 1 (pc' := 88) (L' := [.ref 73, .int v1, .int v2, .int v3, .int v4]) (S' := [.int v3, .int x_16]) (σ' := (97, I_17, J, R)) rfl ?_
            refine az_E.br (c := v3 < x_16) (tt := 94) (ff := 91) (L' := [.ref 73, .int v1, .int v2, .int v3, .int v4]) (S' := []) (σ' := (97, I_17, J, R)) rfl (fun hc_19 => ?_) (fun hc_19 => ?_)
            · rw [if_pos hc_19] at h
              refine az_E.sn 2 (pc' := 34) (L' := [.ref 73, .int v1, .int v2, .int v3, .int (v4 + (-1 : Int32))]) (S' := []) (σ' := (97, I_17, J, R)) rfl ?_
              have h := Option.some.inj h
              subst h
              exact az_E.forget (L := [.ref 73, .int v1, .int v2, .int v3, .int (v4 + (-1 : Int32))]) ⟨rfl, rfl, rfl, rfl, rfl, trivial⟩ hQ
            · rw [if_neg hc_19] at h
              refine az_E.sn 1 (pc' := 93) (L' := [.ref 73, .int v1, .int v2, .int v3, .int v4]) (S' := [.int v4]) (σ' := (97, I_17, J, R)) rfl ?_
              have h := Option.some.inj h
              subst h
              exact az_E.ret (v := some (.int v4)) (σ' := (97, I_17, J, R)) rfl hQ
set_option maxRecDepth 100000 in
set_option maxHeartbeats 4000000 in
theorem re_M_carry_34 {ex : az_X} {I : Nat → Nat → Int32} {J : Nat → Nat → Int64} {R : Nat → Nat → Option Nat} {v1 : Int32} {v2 : Int32} {v3 : Int32} {v4 : Int32} {x : Int32 × (Nat → Nat → Int32)} (h : rs_M_carry_34 I v1 v2 v3 v4 = some x) {Q : Option Value → az_S → Prop} (hQ : Q (some (.int x.1)) (97, x.2, J, R)) : az_E az_F ex 124 206 34 [.ref 73, .int v1, .int v2, .int v3, .int v4] [] (97, I, J, R) Q := by
  unfold rs_M_carry_34 at h
  refine az_lp_E (G := fun s => az_E az_F ex 124 206 34 [.ref 73, .int v1, .int v2, .int v3, .int s.1] [] (97, s.2, J, R) Q) (H := fun x => Q (some (.int x.1)) (97, x.2, J, R)) (fun s o hb ho => ?_) _ _ _ h hQ
  exact re_M_carry_34_b  hb ho
set_option maxRecDepth 100000 in
set_option maxHeartbeats 4000000 in
theorem re_M_carry {ex : az_X} {I : Nat → Nat → Int32} {J : Nat → Nat → Int64} {R : Nat → Nat → Option Nat} {a1 : Int32} {a2 : Int32} {a3 : Int32} {o : Int32 × (Nat → Nat → Int32)} (h : rs_M_carry I a1 a2 a3 = some o) {Q : Option Value → az_S → Prop} (hQ : Q (some (.int o.1)) (97, o.2, J, R)) : az_E az_F ex 124 206 0 [.ref 73, .int a1, .int a2, .int a3, .retAddr 0] [] (97, I, J, R) Q := by
  unfold rs_M_carry at h
  refine az_E.sn 1 (pc' := 1) (L' := [.ref 73, .int a1, .int a2, .int a3, .retAddr 0]) (S' := [.int a1]) (σ' := (97, I, J, R)) rfl ?_
  cases hx_2 : rs_M_isFt a1 with
  | none => rw [hx_2] at h; cases h
  | some x_1 =>
    rw [hx_2] at h
    dsimp only at h
    refine az_E.call (d := 123) (k' := 163) (vs := [.int a1]) (pc' := 4) (S' := []) (Q1 := fun v s => v = some (.int x_1) ∧ s = (97, I, J, R)) rfl (az_E.deep (by omega) (re_M_isFt (J := J) (R := R)  hx_2 ⟨rfl, rfl⟩)) (fun v s hq => ?_)
    obtain ⟨rfl, rfl⟩ := hq
    show az_E az_F ex 124 206 4 [.ref 73, .int a1, .int a2, .int a3, .retAddr 0] [.int x_1] (97, I, J, R) _
    refine az_E.br (c := x_1 = 0) (tt := 28) (ff := 7) (L' := [.ref 73, .int a1, .int a2, .int a3, .retAddr 0]) (S' := []) (σ' := (97, I, J, R)) rfl (fun hc_3 => ?_) (fun hc_3 => ?_)
    · rw [if_pos hc_3] at h
      refine az_E.sn 1 (pc' := 29) (L' := [.ref 73, .int a1, .int a2, .int a3, .retAddr 0]) (S' := [.int (-1 : Int32)]) (σ' := (97, I, J, R)) rfl ?_
      have h := Option.some.inj h
      subst h
      exact az_E.ret (v := some (.int (-1 : Int32))) (σ' := (97, I, J, R)) rfl hQ
    · rw [if_neg hc_3] at h
      refine az_E.sn 3 (pc' := 10) (L' := [.ref 73, .int a1, .int a2, .int a3, .retAddr 0]) (S' := [.long a2.toInt64, .ref 73]) (σ' := (97, I, J, R)) rfl ?_
      refine az_E.call (d := 123) (k' := 162) (vs := [.ref 73, .long a2.toInt64]) (pc' := 13) (S' := []) rfl ?_ (fun _ _ hq => hq)
      show az_E az_F ex 123 162 0 [.ref 73, .long a2.toInt64, .retAddr 0] [] (97, I, J, R) _
      refine az_E.sn 7 (pc' := 9) (L' := [.ref 73, .long a2.toInt64, .retAddr 0]) (S' := [.long ((I 73 7) - (1 : Int32)).toInt64, .long (0 : Int64), .long a2.toInt64]) (σ' := (97, I, J, R)) rfl ?_
      refine az_E.call (d := 122) (k' := 154) (vs := [.long a2.toInt64, .long (0 : Int64), .long ((I 73 7) - (1 : Int32)).toInt64]) (pc' := 12) (S' := []) rfl ?_ (fun _ _ hq => hq)
      show az_E az_F ex 122 154 0 [.long a2.toInt64, .retAddr 0, .long (0 : Int64), .retAddr 0, .long ((I 73 7) - (1 : Int32)).toInt64, .retAddr 0] [] (97, I, J, R) _
      refine az_E.sn 3 (pc' := 3) (L' := [.long a2.toInt64, .retAddr 0, .long (0 : Int64), .retAddr 0, .long ((I 73 7) - (1 : Int32)).toInt64, .retAddr 0]) (S' := [.int (lg_cmp a2.toInt64 (0 : Int64))]) (σ' := (97, I, J, R)) rfl ?_
      refine az_E.br (c := (lg_cmp a2.toInt64 (0 : Int64)) < 0) (tt := 17) (ff := 6) (L' := [.long a2.toInt64, .retAddr 0, .long (0 : Int64), .retAddr 0, .long ((I 73 7) - (1 : Int32)).toInt64, .retAddr 0]) (S' := []) (σ' := (97, I, J, R)) rfl (fun hc_4 => ?_) (fun hc_4 => ?_)
      · rw [if_pos hc_4] at h
        refine az_E.sn 1 (pc' := 18) (L' := [.long a2.toInt64, .retAddr 0, .long (0 : Int64), .retAddr 0, .long ((I 73 7) - (1 : Int32)).toInt64, .retAddr 0]) (S' := [.int (0 : Int32)]) (σ' := (97, I, J, R)) rfl ?_
        refine az_E.ret (v := some (.int (0 : Int32))) (σ' := (97, I, J, R)) rfl ?_
        show az_E az_F ex 123 162 12 [.ref 73, .long a2.toInt64, .retAddr 0] [.int (0 : Int32)] (97, I, J, R) _
        refine az_E.ret (v := some (.int (0 : Int32))) (σ' := (97, I, J, R)) rfl ?_
        show az_E az_F ex 124 206 13 [.ref 73, .int a1, .int a2, .int a3, .retAddr 0] [.int (0 : Int32)] (97, I, J, R) _
        refine az_E.br (c := (0 : Int32) = 0) (tt := 28) (ff := 16) (L' := [.ref 73, .int a1, .int a2, .int a3, .retAddr 0]) (S' := []) (σ' := (97, I, J, R)) rfl (fun _ => ?_) (fun hn => absurd (by decide) hn)
        refine az_E.sn 1 (pc' := 29) (L' := [.ref 73, .int a1, .int a2, .int a3, .retAddr 0]) (S' := [.int (-1 : Int32)]) (σ' := (97, I, J, R)) rfl ?_
        have h := Option.some.inj h
        subst h
        exact az_E.ret (v := some (.int (-1 : Int32))) (σ' := (97, I, J, R)) rfl hQ
      · rw [if_neg hc_4] at h
        refine az_E.sn 3 (pc' := 10) (L' := [.long a2.toInt64, .retAddr 0, .long (0 : Int64), .retAddr 0, .long ((I 73 7) - (1 : Int32)).toInt64, .retAddr 0]) (S' := [.int (lg_cmp a2.toInt64 ((I 73 7) - (1 : Int32)).toInt64)]) (σ' := (97, I, J, R)) rfl ?_
        refine az_E.br (c := 0 < (lg_cmp a2.toInt64 ((I 73 7) - (1 : Int32)).toInt64)) (tt := 17) (ff := 13) (L' := [.long a2.toInt64, .retAddr 0, .long (0 : Int64), .retAddr 0, .long ((I 73 7) - (1 : Int32)).toInt64, .retAddr 0]) (S' := []) (σ' := (97, I, J, R)) rfl (fun hc_5 => ?_) (fun hc_5 => ?_)
        · rw [if_pos hc_5] at h
          refine az_E.sn 1 (pc' := 18) (L' := [.long a2.toInt64, .retAddr 0, .long (0 : Int64), .retAddr 0, .long ((I 73 7) - (1 : Int32)).toInt64, .retAddr 0]) (S' := [.int (0 : Int32)]) (σ' := (97, I, J, R)) rfl ?_
          refine az_E.ret (v := some (.int (0 : Int32))) (σ' := (97, I, J, R)) rfl ?_
          show az_E az_F ex 123 162 12 [.ref 73, .long a2.toInt64, .retAddr 0] [.int (0 : Int32)] (97, I, J, R) _
          refine az_E.ret (v := some (.int (0 : Int32))) (σ' := (97, I, J, R)) rfl ?_
          show az_E az_F ex 124 206 13 [.ref 73, .int a1, .int a2, .int a3, .retAddr 0] [.int (0 : Int32)] (97, I, J, R) _
          refine az_E.br (c := (0 : Int32) = 0) (tt := 28) (ff := 16) (L' := [.ref 73, .int a1, .int a2, .int a3, .retAddr 0]) (S' := []) (σ' := (97, I, J, R)) rfl (fun _ => ?_) (fun hn => absurd (by decide) hn)
          refine az_E.sn 1 (pc' := 29) (L' := [.ref 73, .int a1, .int a2, .int a3, .retAddr 0]) (S' := [.int (-1 : Int32)]) (σ' := (97, I, J, R)) rfl ?_
          have h := Option.some.inj h
          subst h
          exact az_E.ret (v := some (.int (-1 : Int32))) (σ' := (97, I, J, R)) rfl hQ
        · rw [if_neg hc_5] at h
          refine az_E.sn 2 (pc' := 18) (L' := [.long a2.toInt64, .retAddr 0, .long (0 : Int64), .retAddr 0, .long ((I 73 7) - (1 : Int32)).toInt64, .retAddr 0]) (S' := [.int (1 : Int32)]) (σ' := (97, I, J, R)) rfl ?_
          refine az_E.ret (v := some (.int (1 : Int32))) (σ' := (97, I, J, R)) rfl ?_
          show az_E az_F ex 123 162 12 [.ref 73, .long a2.toInt64, .retAddr 0] [.int (1 : Int32)] (97, I, J, R) _
          refine az_E.ret (v := some (.int (1 : Int32))) (σ' := (97, I, J, R)) rfl ?_
          show az_E az_F ex 124 206 13 [.ref 73, .int a1, .int a2, .int a3, .retAddr 0] [.int (1 : Int32)] (97, I, J, R) _
          refine az_E.br (c := (1 : Int32) = 0) (tt := 28) (ff := 16) (L' := [.ref 73, .int a1, .int a2, .int a3, .retAddr 0]) (S' := []) (σ' := (97, I, J, R)) rfl (fun hn => absurd hn (by decide)) (fun _ => ?_)
          refine az_E.sn 4 (pc' := 22) (L' := [.ref 73, .int a1, .int a2, .int a3, .retAddr 0]) (S' := [.long (9999 : Int64), .long (0 : Int64), .long a3.toInt64]) (σ' := (97, I, J, R)) rfl ?_
          refine az_E.call (d := 123) (k' := 154) (vs := [.long a3.toInt64, .long (0 : Int64), .long (9999 : Int64)]) (pc' := 25) (S' := []) rfl ?_ (fun _ _ hq => hq)
          show az_E az_F ex 123 154 0 [.long a3.toInt64, .retAddr 0, .long (0 : Int64), .retAddr 0, .long (9999 : Int64), .retAddr 0] [] (97, I, J, R) _
          refine az_E.sn 3 (pc' := 3) (L' := [.long a3.toInt64, .retAddr 0, .long (0 : Int64), .retAddr 0, .long (9999 : Int64), .retAddr 0]) (S' := [.int (lg_cmp a3.toInt64 (0 : Int64))]) (σ' := (97, I, J, R)) rfl ?_
          refine az_E.br (c := (lg_cmp a3.toInt64 (0 : Int64)) < 0) (tt := 17) (ff := 6) (L' := [.long a3.toInt64, .retAddr 0, .long (0 : Int64), .retAddr 0, .long (9999 : Int64), .retAddr 0]) (S' := []) (σ' := (97, I, J, R)) rfl (fun hc_6 => ?_) (fun hc_6 => ?_)
          · rw [if_pos hc_6] at h
            refine az_E.sn 1 (pc' := 18) (L' := [.long a3.toInt64, .retAddr 0, .long (0 : Int64), .retAddr 0, .long (9999 : Int64), .retAddr 0]) (S' := [.int (0 : Int32)]) (σ' := (97, I, J, R)) rfl ?_
            refine az_E.ret (v := some (.int (0 : Int32))) (σ' := (97, I, J, R)) rfl ?_
            show az_E az_F ex 124 206 25 [.ref 73, .int a1, .int a2, .int a3, .retAddr 0] [.int (0 : Int32)] (97, I, J, R) _
            refine az_E.br (c := (0 : Int32) = 0) (tt := 28) (ff := 30) (L' := [.ref 73, .int a1, .int a2, .int a3, .retAddr 0]) (S' := []) (σ' := (97, I, J, R)) rfl (fun _ => ?_) (fun hn => absurd (by decide) hn)
            refine az_E.sn 1 (pc' := 29) (L' := [.ref 73, .int a1, .int a2, .int a3, .retAddr 0]) (S' := [.int (-1 : Int32)]) (σ' := (97, I, J, R)) rfl ?_
            have h := Option.some.inj h
            subst h
            exact az_E.ret (v := some (.int (-1 : Int32))) (σ' := (97, I, J, R)) rfl hQ
          · rw [if_neg hc_6] at h
            refine az_E.sn 3 (pc' := 10) (L' := [.long a3.toInt64, .retAddr 0, .long (0 : Int64), .retAddr 0, .long (9999 : Int64), .retAddr 0]) (S' := [.int (lg_cmp a3.toInt64 (9999 : Int64))]) (σ' := (97, I, J, R)) rfl ?_
            refine az_E.br (c := 0 < (lg_cmp a3.toInt64 (9999 : Int64))) (tt := 17) (ff := 13) (L' := [.long a3.toInt64, .retAddr 0, .long (0 : Int64), .retAddr 0, .long (9999 : Int64), .retAddr 0]) (S' := []) (σ' := (97, I, J, R)) rfl (fun hc_7 => ?_) (fun hc_7 => ?_)
            · rw [if_pos hc_7] at h
              refine az_E.sn 1 (pc' := 18) (L' := [.long a3.toInt64, .retAddr 0, .long (0 : Int64), .retAddr 0, .long (9999 : Int64), .retAddr 0]) (S' := [.int (0 : Int32)]) (σ' := (97, I, J, R)) rfl ?_
              refine az_E.ret (v := some (.int (0 : Int32))) (σ' := (97, I, J, R)) rfl ?_
              show az_E az_F ex 124 206 25 [.ref 73, .int a1, .int a2, .int a3, .retAddr 0] [.int (0 : Int32)] (97, I, J, R) _
              refine az_E.br (c := (0 : Int32) = 0) (tt := 28) (ff := 30) (L' := [.ref 73, .int a1, .int a2, .int a3, .retAddr 0]) (S' := []) (σ' := (97, I, J, R)) rfl (fun _ => ?_) (fun hn => absurd (by decide) hn)
              refine az_E.sn 1 (pc' := 29) (L' := [.ref 73, .int a1, .int a2, .int a3, .retAddr 0]) (S' := [.int (-1 : Int32)]) (σ' := (97, I, J, R)) rfl ?_
              have h := Option.some.inj h
              subst h
              exact az_E.ret (v := some (.int (-1 : Int32))) (σ' := (97, I, J, R)) rfl hQ
            · rw [if_neg hc_7] at h
              refine az_E.sn 2 (pc' := 18) (L' := [.long a3.toInt64, .retAddr 0, .long (0 : Int64), .retAddr 0, .long (9999 : Int64), .retAddr 0]) (S' := [.int (1 : Int32)]) (σ' := (97, I, J, R)) rfl ?_
              refine az_E.ret (v := some (.int (1 : Int32))) (σ' := (97, I, J, R)) rfl ?_
              show az_E az_F ex 124 206 25 [.ref 73, .int a1, .int a2, .int a3, .retAddr 0] [.int (1 : Int32)] (97, I, J, R) _
              refine az_E.br (c := (1 : Int32) = 0) (tt := 28) (ff := 30) (L' := [.ref 73, .int a1, .int a2, .int a3, .retAddr 0]) (S' := []) (σ' := (97, I, J, R)) rfl (fun hn => absurd hn (by decide)) (fun _ => ?_)
              refine az_E.sn 2 (pc' := 34) (L' := [.ref 73, .int a1, .int a2, .int a3, .int (9 : Int32)]) (S' := []) (σ' := (97, I, J, R)) rfl ?_
              exact az_E.forget (L := [.ref 73, .int a1, .int a2, .int a3, .int (9 : Int32)]) ⟨rfl, rfl, rfl, rfl, rfl, trivial⟩ (re_M_carry_34 (I := I) (J := J) (R := R)  h hQ)
set_option maxRecDepth 100000 in
set_option maxHeartbeats 4000000 in
theorem re_Pa_withHeart_26_16 {ex : az_X} {I : Nat → Nat → Int32} {J : Nat → Nat → Int64} {R : Nat → Nat → Option Nat} {a1 : Int32} (hR_26_2 : R 26 2 = some 16) {o : (Nat → Nat → Int32)} (h : rs_Pa_withHeart 26 16 I a1 = some o) {Q : Option Value → az_S → Prop} (hQ : Q none (97, o, J, R)) : az_E az_F ex 4 44 0 [.ref 26, .int a1] [] (97, I, J, R) Q := by
  unfold rs_Pa_withHeart at h
  refine az_E.sn 4 (pc' := 6) (L' := [.ref 26, .int a1]) (S' := [.ref 26]) (σ' := (97, (az_u I 26 4 a1), J, R)) rfl ?_
  cases hx_2 : rs_Pa_fill 26 16 (az_u I 26 4 a1) with
  | none => rw [hx_2] at h; cases h
  | some I_1 =>
    rw [hx_2] at h
    dsimp only at h
    refine az_E.call (d := 3) (k' := 50) (vs := [.ref 26]) (pc' := 9) (S' := []) (Q1 := fun v s => v = none ∧ s = (97, I_1, J, R)) rfl (az_E.deep (by omega) (re_Pa_fill_26_16 (J := J) (R := R) hR_26_2 hx_2 ⟨rfl, rfl⟩)) (fun v s hq => ?_)
    obtain ⟨rfl, rfl⟩ := hq
    show az_E az_F ex 4 44 9 [.ref 26, .int a1] [] (97, I_1, J, R) _
    have h := Option.some.inj h
    subst h
    exact az_E.ret (v := none) (σ' := (97, I_1, J, R)) rfl hQ
set_option maxRecDepth 100000 in
set_option maxHeartbeats 4000000 in
theorem re_X_light_38_b_16_21 {ex : az_X} {I : Nat → Nat → Int32} {J : Nat → Nat → Int64} {R : Nat → Nat → Option Nat} {v1 : Int32} {v3 : Int32} {v4 : Int32} (hR_3_2 : R 3 2 = some 16) (hR_3_3 : R 3 3 = some 21) {x : ((Int32 × (Nat → Nat → Int32)) ⊕ (Int32 × (Nat → Nat → Int32)))} (h : rs_X_light_38_b 21 16 v1 v3 v4 I = some x) {Q : Option Value → az_S → Prop} (hQ : Sum.elim (fun s => az_E az_F ex 6 99 38 [.ref 3, .int v1, .retAddr 0, .int v3, .int s.1] [] (97, s.2, J, (az_u (az_u R 26 2 (some 16)) 26 3 (some 5))) Q) (fun x => ∀ R' : Nat → Nat → Option Nat, R' 3 2 = some 16 → R' 3 3 = some 21 → Q (some (.int x.1)) (97, x.2, J, R')) x) : az_E az_F ex 6 99 38 [.ref 3, .int v1, .retAddr 0, .int v3, .int v4] [] (97, I, J, (az_u (az_u R 26 2 (some 16)) 26 3 (some 5))) Q := by
  unfold rs_X_light_38_b at h
  refine az_E.sn 2 (pc' := 42) (L' := [.ref 3, .int v1, .retAddr 0, .int v3, .int v4]) (S' := [.int (9 : Int32), .int v4]) (σ' := (97, I, J, (az_u (az_u R 26 2 (some 16)) 26 3 (some 5)))) rfl ?_
  refine az_E.br (c := (9 : Int32) < v4) (tt := 86) (ff := 45) (L' := [.ref 3, .int v1, .retAddr 0, .int v3, .int v4]) (S' := []) (σ' := (97, I, J, (az_u (az_u R 26 2 (some 16)) 26 3 (some 5)))) rfl (fun hc_10 => ?_) (fun hc_10 => ?_)
  · rw [if_pos hc_10] at h
    refine az_E.sn 1 (pc' := 88) (L' := [.ref 3, .int v1, .retAddr 0, .int v3, .int v4]) (S' := [.int (-99 : Int32)]) (σ' := (97, I, J, (az_u (az_u R 26 2 (some 16)) 26 3 (some 5)))) rfl ?_
    have h := Option.some.inj h
    subst h
    try simp only [Sum.elim_inl, Sum.elim_inr] at hQ
    exact az_E.ret (v := some (.int (-99 : Int32))) (σ' := (97, I, J, (az_u (az_u R 26 2 (some 16)) 26 3 (some 5)))) rfl (hQ _ hR_3_2 hR_3_3)
  · rw [if_neg hc_10] at h
    refine az_E.sn 3 (pc' := 51) (L' := [.ref 3, .int v1, .retAddr 0, .int v3, .int v4]) (S' := [.int v4, .ref 26]) (σ' := (97, I, J, (az_u (az_u R 26 2 (some 16)) 26 3 (some 5)))) rfl ?_
    cases hx_12 : rs_Pa_withHeart 26 16 I v4 with
    | none => rw [hx_12] at h; cases h
    | some I_11 =>
      rw [hx_12] at h
      dsimp only at h
      refine az_E.call (d := 5) (k' := 44) (vs := [.ref 26, .int v4]) (pc' := 54) (S' := []) (Q1 := fun v s => v = none ∧ s = (97, I_11, J, (az_u (az_u R 26 2 (some 16)) 26 3 (some 5)))) rfl (az_E.deep (by omega) (re_Pa_withHeart_26_16 (J := J) (R := (az_u (az_u R 26 2 (some 16)) 26 3 (some 5))) rfl hx_12 ⟨rfl, rfl⟩)) (fun v s hq => ?_)
      obtain ⟨rfl, rfl⟩ := hq
      show az_E az_F ex 6 99 54 [.ref 3, .int v1, .retAddr 0, .int v3, .int v4] [] (97, I_11, J, (az_u (az_u R 26 2 (some 16)) 26 3 (some 5))) _
      refine az_E.sn 5 (pc' := 63) (L' := [.ref 3, .int v1, .retAddr 0, .int v3, .int v4]) (S' := [.int v1, .ref 26, .ref 32]) (σ' := (97, I_11, J, (az_u (az_u R 26 2 (some 16)) 26 3 (some 5)))) rfl ?_
      refine az_E.call (d := 5) (k' := 135) (vs := [.int v1]) (pc' := 66) (S' := [.ref 26, .ref 32]) rfl ?_ (fun _ _ hq => hq)
      show az_E az_F ex 5 135 0 [.int v1] [] (97, I_11, J, (az_u (az_u R 26 2 (some 16)) 26 3 (some 5))) _
      refine az_E.sn 2 (pc' := 4) (L' := [.int v1]) (S' := [.int (1000 : Int32), .int v1]) (σ' := (97, I_11, J, (az_u (az_u R 26 2 (some 16)) 26 3 (some 5)))) rfl ?_
      have hd_13 : ¬ ((1000 : Int32) = 0) := by decide
      refine az_E.dv (c := (1000 : Int32) = 0) (pc' := 5) (L' := [.int v1]) (S' := [.int (v1 / (1000 : Int32))]) (σ' := (97, I_11, J, (az_u (az_u R 26 2 (some 16)) 26 3 (some 5)))) rfl hd_13 ?_
      refine az_E.ret (v := some (.int (v1 / (1000 : Int32)))) (σ' := (97, I_11, J, (az_u (az_u R 26 2 (some 16)) 26 3 (some 5)))) rfl ?_
      show az_E az_F ex 6 99 66 [.ref 3, .int v1, .retAddr 0, .int v3, .int v4] [.int (v1 / (1000 : Int32)), .ref 26, .ref 32] (97, I_11, J, (az_u (az_u R 26 2 (some 16)) 26 3 (some 5))) _
      refine az_E.sn 1 (pc' := 67) (L' := [.ref 3, .int v1, .retAddr 0, .int v3, .int v4]) (S' := [.int v1, .int (v1 / (1000 : Int32)), .ref 26, .ref 32]) (σ' := (97, I_11, J, (az_u (az_u R 26 2 (some 16)) 26 3 (some 5)))) rfl ?_
      refine az_E.call (d := 5) (k' := 136) (vs := [.int v1]) (pc' := 70) (S' := [.int (v1 / (1000 : Int32)), .ref 26, .ref 32]) rfl ?_ (fun _ _ hq => hq)
      show az_E az_F ex 5 136 0 [.int v1] [] (97, I_11, J, (az_u (az_u R 26 2 (some 16)) 26 3 (some 5))) _
      refine az_E.sn 2 (pc' := 4) (L' := [.int v1]) (S' := [.int (1000 : Int32), .int v1]) (σ' := (97, I_11, J, (az_u (az_u R 26 2 (some 16)) 26 3 (some 5)))) rfl ?_
      have hd_14 : ¬ ((1000 : Int32) = 0) := by decide
      refine az_E.dv (c := (1000 : Int32) = 0) (pc' := 5) (L' := [.int v1]) (S' := [.int (v1 - v1 / (1000 : Int32) * (1000 : Int32))]) (σ' := (97, I_11, J, (az_u (az_u R 26 2 (some 16)) 26 3 (some 5)))) rfl hd_14 ?_
      refine az_E.ret (v := some (.int (v1 - v1 / (1000 : Int32) * (1000 : Int32)))) (σ' := (97, I_11, J, (az_u (az_u R 26 2 (some 16)) 26 3 (some 5)))) rfl ?_
      show az_E az_F ex 6 99 70 [.ref 3, .int v1, .retAddr 0, .int v3, .int v4] [.int (v1 - v1 / (1000 : Int32) * (1000 : Int32)), .int (v1 / (1000 : Int32)), .ref 26, .ref 32] (97, I_11, J, (az_u (az_u R 26 2 (some 16)) 26 3 (some 5))) _
      cases hx_17 : rs_Fi_minutes 26 I_11 (v1 / (1000 : Int32)) (v1 - v1 / (1000 : Int32) * (1000 : Int32)) with
      | none => rw [hx_17] at h; cases h
      | some o =>
        rw [hx_17] at h
        obtain ⟨x_15, I_16⟩ := o
        dsimp only at h
        refine az_E.call (d := 5) (k' := 16) (vs := [.ref 32, .ref 26, .int (v1 / (1000 : Int32)), .int (v1 - v1 / (1000 : Int32) * (1000 : Int32))]) (pc' := 73) (S' := []) (Q1 := fun v s => v = some (.int x_15) ∧ s = (97, I_16, J, (az_u (az_u R 26 2 (some 16)) 26 3 (some 5)))) rfl (az_E.deep (by omega) (re_Fi_minutes_26_5 (J := J) (R := (az_u (az_u R 26 2 (some 16)) 26 3 (some 5))) rfl hx_17 ⟨rfl, rfl⟩)) (fun v s hq => ?_)
        obtain ⟨rfl, rfl⟩ := hq
        show az_E az_F ex 6 99 73 [.ref 3, .int v1, .retAddr 0, .int v3, .int v4] [.int x_15] (97, I_16, J, (az_u (az_u R 26 2 (some 16)) 26 3 (some 5))) _
        refine az_E.sn 1 (pc' := 74) (L' := [.ref 3, .int v1, .retAddr 0, .int v3, .int v4]) (S' := [.int v3, .int x_15]) (σ' := (97, I_16, J, (az_u (az_u R 26 2 (some 16)) 26 3 (some 5)))) rfl ?_
        refine az_E.br (c := v3 < x_15) (tt := 80) (ff := 77) (L' := [.ref 3, .int v1, .retAddr 0, .int v3, .int v4]) (S' := []) (σ' := (97, I_16, J, (az_u (az_u R 26 2 (some 16)) 26 3 (some 5)))) rfl (fun hc_18 => ?_) (fun hc_18 => ?_)
        · rw [if_pos hc_18] at h
          refine az_E.sn 2 (pc' := 38) (L' := [.ref 3, .int v1, .retAddr 0, .int v3, .int (v4 + (1 : Int32))]) (S' := []) (σ' := (97, I_16, J, (az_u (az_u R 26 2 (some 16)) 26 3 (some 5)))) rfl ?_
          have h := Option.some.inj h
          subst h
          exact az_E.forget (L := [.ref 3, .int v1, .retAddr 0, .int v3, .int (v4 + (1 : Int32))]) ⟨rfl, rfl, trivial, rfl, rfl, trivial⟩ hQ
        · rw [if_neg hc_18] at h
          refine az_E.sn 1 (pc' := 79) (L' := [.ref 3, .int v1, .retAddr 0, .int v3, .int v4]) (S' := [.int v4]) (σ' := (97, I_16, J, (az_u (az_u R 26 2 (some 16)) 26 3 (some 5)))) rfl ?_
          have h := Option.some.inj h
          subst h
          try simp only [Sum.elim_inl, Sum.elim_inr] at hQ
          exact az_E.ret (v := some (.int v4)) (σ' := (97, I_16, J, (az_u (az_u R 26 2 (some 16)) 26 3 (some 5)))) rfl (hQ _ hR_3_2 hR_3_3)
set_option maxRecDepth 100000 in
set_option maxHeartbeats 4000000 in
theorem re_X_light_38_16_21 {ex : az_X} {I : Nat → Nat → Int32} {J : Nat → Nat → Int64} {R : Nat → Nat → Option Nat} {v1 : Int32} {v3 : Int32} {v4 : Int32} (hR_3_2 : R 3 2 = some 16) (hR_3_3 : R 3 3 = some 21) {x : Int32 × (Nat → Nat → Int32)} (h : rs_X_light_38 21 16 I v1 v3 v4 = some x) {Q : Option Value → az_S → Prop} (hQ : ∀ R' : Nat → Nat → Option Nat, R' 3 2 = some 16 → R' 3 3 = some 21 → Q (some (.int x.1)) (97, x.2, J, R')) : az_E az_F ex 6 99 38 [.ref 3, .int v1, .retAddr 0, .int v3, .int v4] [] (97, I, J, (az_u (az_u R 26 2 (some 16)) 26 3 (some 5))) Q := by
  unfold rs_X_light_38 at h
  refine az_lp_E (G := fun s => az_E az_F ex 6 99 38 [.ref 3, .int v1, .retAddr 0, .int v3, .int s.1] [] (97, s.2, J, (az_u (az_u R 26 2 (some 16)) 26 3 (some 5))) Q) (H := fun x => ∀ R' : Nat → Nat → Option Nat, R' 3 2 = some 16 → R' 3 3 = some 21 → Q (some (.int x.1)) (97, x.2, J, R')) (fun s o hb ho => ?_) _ _ _ h hQ
  exact re_X_light_38_b_16_21 hR_3_2 hR_3_3 hb ho
set_option maxRecDepth 100000 in
set_option maxHeartbeats 4000000 in
theorem re_X_light_16_21 {ex : az_X} {I : Nat → Nat → Int32} {J : Nat → Nat → Int64} {R : Nat → Nat → Option Nat} {a1 : Int32} {a2 : Int32} {a3 : Int32} (hR_3_2 : R 3 2 = some 16) (hR_3_3 : R 3 3 = some 21) {o : Int32 × (Nat → Nat → Int32)} (h : rs_X_light 21 16 I a1 a2 a3 = some o) {Q : Option Value → az_S → Prop} (hQ : ∀ R' : Nat → Nat → Option Nat, R' 3 2 = some 16 → R' 3 3 = some 21 → Q (some (.int o.1)) (97, o.2, J, R')) : az_E az_F ex 6 99 0 [.ref 3, .int a1, .int a2, .int a3, .retAddr 0] [] (97, I, J, R) Q := by
  unfold rs_X_light at h
  refine az_E.sn 1 (pc' := 1) (L' := [.ref 3, .int a1, .int a2, .int a3, .retAddr 0]) (S' := [.int a1]) (σ' := (97, I, J, R)) rfl ?_
  cases hx_2 : rs_X_isFromTo a1 with
  | none => rw [hx_2] at h; cases h
  | some x_1 =>
    rw [hx_2] at h
    dsimp only at h
    refine az_E.call (d := 5) (k' := 134) (vs := [.int a1]) (pc' := 4) (S' := []) (Q1 := fun v s => v = some (.int x_1) ∧ s = (97, I, J, R)) rfl (az_E.deep (by omega) (re_X_isFromTo (J := J) (R := R)  hx_2 ⟨rfl, rfl⟩)) (fun v s hq => ?_)
    obtain ⟨rfl, rfl⟩ := hq
    show az_E az_F ex 6 99 4 [.ref 3, .int a1, .int a2, .int a3, .retAddr 0] [.int x_1] (97, I, J, R) _
    refine az_E.br (c := x_1 = 0) (tt := 26) (ff := 7) (L' := [.ref 3, .int a1, .int a2, .int a3, .retAddr 0]) (S' := []) (σ' := (97, I, J, R)) rfl (fun hc_3 => ?_) (fun hc_3 => ?_)
    · rw [if_pos hc_3] at h
      refine az_E.sn 1 (pc' := 28) (L' := [.ref 3, .int a1, .int a2, .int a3, .retAddr 0]) (S' := [.int (-2000000000 : Int32)]) (σ' := (97, I, J, R)) rfl ?_
      have h := Option.some.inj h
      subst h
      exact az_E.ret (v := some (.int (-2000000000 : Int32))) (σ' := (97, I, J, R)) rfl (hQ _ hR_3_2 hR_3_3)
    · rw [if_neg hc_3] at h
      refine az_E.sn 2 (pc' := 9) (L' := [.ref 3, .int a1, .int a2, .int a3, .retAddr 0]) (S' := [.int a2, .ref 3]) (σ' := (97, I, J, R)) rfl ?_
      refine az_E.call (d := 5) (k' := 138) (vs := [.ref 3, .int a2]) (pc' := 12) (S' := []) rfl ?_ (fun _ _ hq => hq)
      show az_E az_F ex 5 138 0 [.ref 3, .int a2] [] (97, I, J, R) _
      refine az_E.sn 7 (pc' := 11) (L' := [.ref 3, .int a2]) (S' := [.int ((I 4 9) - (1 : Int32)), .int (0 : Int32), .int a2]) (σ' := (97, I, J, R)) rfl ?_
      refine az_E.call (d := 4) (k' := 131) (vs := [.int a2, .int (0 : Int32), .int ((I 4 9) - (1 : Int32))]) (pc' := 14) (S' := []) rfl ?_ (fun _ _ hq => hq)
      show az_E az_F ex 4 131 0 [.int a2, .int (0 : Int32), .int ((I 4 9) - (1 : Int32))] [] (97, I, J, R) _
      refine az_E.sn 2 (pc' := 2) (L' := [.int a2, .int (0 : Int32), .int ((I 4 9) - (1 : Int32))]) (S' := [.int (0 : Int32), .int a2]) (σ' := (97, I, J, R)) rfl ?_
      refine az_E.br (c := a2 < (0 : Int32)) (tt := 14) (ff := 5) (L' := [.int a2, .int (0 : Int32), .int ((I 4 9) - (1 : Int32))]) (S' := []) (σ' := (97, I, J, R)) rfl (fun hc_4 => ?_) (fun hc_4 => ?_)
      · rw [if_pos hc_4] at h
        refine az_E.sn 1 (pc' := 15) (L' := [.int a2, .int (0 : Int32), .int ((I 4 9) - (1 : Int32))]) (S' := [.int (0 : Int32)]) (σ' := (97, I, J, R)) rfl ?_
        refine az_E.ret (v := some (.int (0 : Int32))) (σ' := (97, I, J, R)) rfl ?_
        show az_E az_F ex 5 138 14 [.ref 3, .int a2] [.int (0 : Int32)] (97, I, J, R) _
        refine az_E.ret (v := some (.int (0 : Int32))) (σ' := (97, I, J, R)) rfl ?_
        show az_E az_F ex 6 99 12 [.ref 3, .int a1, .int a2, .int a3, .retAddr 0] [.int (0 : Int32)] (97, I, J, R) _
        refine az_E.br (c := (0 : Int32) = 0) (tt := 26) (ff := 15) (L' := [.ref 3, .int a1, .int a2, .int a3, .retAddr 0]) (S' := []) (σ' := (97, I, J, R)) rfl (fun _ => ?_) (fun hn => absurd (by decide) hn)
        refine az_E.sn 1 (pc' := 28) (L' := [.ref 3, .int a1, .int a2, .int a3, .retAddr 0]) (S' := [.int (-2000000000 : Int32)]) (σ' := (97, I, J, R)) rfl ?_
        have h := Option.some.inj h
        subst h
        exact az_E.ret (v := some (.int (-2000000000 : Int32))) (σ' := (97, I, J, R)) rfl (hQ _ hR_3_2 hR_3_3)
      · rw [if_neg hc_4] at h
        refine az_E.sn 2 (pc' := 7) (L' := [.int a2, .int (0 : Int32), .int ((I 4 9) - (1 : Int32))]) (S' := [.int ((I 4 9) - (1 : Int32)), .int a2]) (σ' := (97, I, J, R)) rfl ?_
        refine az_E.br (c := ((I 4 9) - (1 : Int32)) < a2) (tt := 14) (ff := 10) (L' := [.int a2, .int (0 : Int32), .int ((I 4 9) - (1 : Int32))]) (S' := []) (σ' := (97, I, J, R)) rfl (fun hc_5 => ?_) (fun hc_5 => ?_)
        · rw [if_pos hc_5] at h
          refine az_E.sn 1 (pc' := 15) (L' := [.int a2, .int (0 : Int32), .int ((I 4 9) - (1 : Int32))]) (S' := [.int (0 : Int32)]) (σ' := (97, I, J, R)) rfl ?_
          refine az_E.ret (v := some (.int (0 : Int32))) (σ' := (97, I, J, R)) rfl ?_
          show az_E az_F ex 5 138 14 [.ref 3, .int a2] [.int (0 : Int32)] (97, I, J, R) _
          refine az_E.ret (v := some (.int (0 : Int32))) (σ' := (97, I, J, R)) rfl ?_
          show az_E az_F ex 6 99 12 [.ref 3, .int a1, .int a2, .int a3, .retAddr 0] [.int (0 : Int32)] (97, I, J, R) _
          refine az_E.br (c := (0 : Int32) = 0) (tt := 26) (ff := 15) (L' := [.ref 3, .int a1, .int a2, .int a3, .retAddr 0]) (S' := []) (σ' := (97, I, J, R)) rfl (fun _ => ?_) (fun hn => absurd (by decide) hn)
          refine az_E.sn 1 (pc' := 28) (L' := [.ref 3, .int a1, .int a2, .int a3, .retAddr 0]) (S' := [.int (-2000000000 : Int32)]) (σ' := (97, I, J, R)) rfl ?_
          have h := Option.some.inj h
          subst h
          exact az_E.ret (v := some (.int (-2000000000 : Int32))) (σ' := (97, I, J, R)) rfl (hQ _ hR_3_2 hR_3_3)
        · rw [if_neg hc_5] at h
          refine az_E.sn 2 (pc' := 15) (L' := [.int a2, .int (0 : Int32), .int ((I 4 9) - (1 : Int32))]) (S' := [.int (1 : Int32)]) (σ' := (97, I, J, R)) rfl ?_
          refine az_E.ret (v := some (.int (1 : Int32))) (σ' := (97, I, J, R)) rfl ?_
          show az_E az_F ex 5 138 14 [.ref 3, .int a2] [.int (1 : Int32)] (97, I, J, R) _
          refine az_E.ret (v := some (.int (1 : Int32))) (σ' := (97, I, J, R)) rfl ?_
          show az_E az_F ex 6 99 12 [.ref 3, .int a1, .int a2, .int a3, .retAddr 0] [.int (1 : Int32)] (97, I, J, R) _
          refine az_E.br (c := (1 : Int32) = 0) (tt := 26) (ff := 15) (L' := [.ref 3, .int a1, .int a2, .int a3, .retAddr 0]) (S' := []) (σ' := (97, I, J, R)) rfl (fun hn => absurd hn (by decide)) (fun _ => ?_)
          refine az_E.sn 3 (pc' := 20) (L' := [.ref 3, .int a1, .int a2, .int a3, .retAddr 0]) (S' := [.int (9999 : Int32), .int (0 : Int32), .int a3]) (σ' := (97, I, J, R)) rfl ?_
          refine az_E.call (d := 5) (k' := 131) (vs := [.int a3, .int (0 : Int32), .int (9999 : Int32)]) (pc' := 23) (S' := []) rfl ?_ (fun _ _ hq => hq)
          show az_E az_F ex 5 131 0 [.int a3, .int (0 : Int32), .int (9999 : Int32)] [] (97, I, J, R) _
          refine az_E.sn 2 (pc' := 2) (L' := [.int a3, .int (0 : Int32), .int (9999 : Int32)]) (S' := [.int (0 : Int32), .int a3]) (σ' := (97, I, J, R)) rfl ?_
          refine az_E.br (c := a3 < (0 : Int32)) (tt := 14) (ff := 5) (L' := [.int a3, .int (0 : Int32), .int (9999 : Int32)]) (S' := []) (σ' := (97, I, J, R)) rfl (fun hc_6 => ?_) (fun hc_6 => ?_)
          · rw [if_pos hc_6] at h
            refine az_E.sn 1 (pc' := 15) (L' := [.int a3, .int (0 : Int32), .int (9999 : Int32)]) (S' := [.int (0 : Int32)]) (σ' := (97, I, J, R)) rfl ?_
            refine az_E.ret (v := some (.int (0 : Int32))) (σ' := (97, I, J, R)) rfl ?_
            show az_E az_F ex 6 99 23 [.ref 3, .int a1, .int a2, .int a3, .retAddr 0] [.int (0 : Int32)] (97, I, J, R) _
            refine az_E.br (c := (0 : Int32) = 0) (tt := 26) (ff := 29) (L' := [.ref 3, .int a1, .int a2, .int a3, .retAddr 0]) (S' := []) (σ' := (97, I, J, R)) rfl (fun _ => ?_) (fun hn => absurd (by decide) hn)
            refine az_E.sn 1 (pc' := 28) (L' := [.ref 3, .int a1, .int a2, .int a3, .retAddr 0]) (S' := [.int (-2000000000 : Int32)]) (σ' := (97, I, J, R)) rfl ?_
            have h := Option.some.inj h
            subst h
            exact az_E.ret (v := some (.int (-2000000000 : Int32))) (σ' := (97, I, J, R)) rfl (hQ _ hR_3_2 hR_3_3)
          · rw [if_neg hc_6] at h
            refine az_E.sn 2 (pc' := 7) (L' := [.int a3, .int (0 : Int32), .int (9999 : Int32)]) (S' := [.int (9999 : Int32), .int a3]) (σ' := (97, I, J, R)) rfl ?_
            refine az_E.br (c := (9999 : Int32) < a3) (tt := 14) (ff := 10) (L' := [.int a3, .int (0 : Int32), .int (9999 : Int32)]) (S' := []) (σ' := (97, I, J, R)) rfl (fun hc_7 => ?_) (fun hc_7 => ?_)
            · rw [if_pos hc_7] at h
              refine az_E.sn 1 (pc' := 15) (L' := [.int a3, .int (0 : Int32), .int (9999 : Int32)]) (S' := [.int (0 : Int32)]) (σ' := (97, I, J, R)) rfl ?_
              refine az_E.ret (v := some (.int (0 : Int32))) (σ' := (97, I, J, R)) rfl ?_
              show az_E az_F ex 6 99 23 [.ref 3, .int a1, .int a2, .int a3, .retAddr 0] [.int (0 : Int32)] (97, I, J, R) _
              refine az_E.br (c := (0 : Int32) = 0) (tt := 26) (ff := 29) (L' := [.ref 3, .int a1, .int a2, .int a3, .retAddr 0]) (S' := []) (σ' := (97, I, J, R)) rfl (fun _ => ?_) (fun hn => absurd (by decide) hn)
              refine az_E.sn 1 (pc' := 28) (L' := [.ref 3, .int a1, .int a2, .int a3, .retAddr 0]) (S' := [.int (-2000000000 : Int32)]) (σ' := (97, I, J, R)) rfl ?_
              have h := Option.some.inj h
              subst h
              exact az_E.ret (v := some (.int (-2000000000 : Int32))) (σ' := (97, I, J, R)) rfl (hQ _ hR_3_2 hR_3_3)
            · rw [if_neg hc_7] at h
              refine az_E.sn 2 (pc' := 15) (L' := [.int a3, .int (0 : Int32), .int (9999 : Int32)]) (S' := [.int (1 : Int32)]) (σ' := (97, I, J, R)) rfl ?_
              refine az_E.ret (v := some (.int (1 : Int32))) (σ' := (97, I, J, R)) rfl ?_
              show az_E az_F ex 6 99 23 [.ref 3, .int a1, .int a2, .int a3, .retAddr 0] [.int (1 : Int32)] (97, I, J, R) _
              refine az_E.br (c := (1 : Int32) = 0) (tt := 26) (ff := 29) (L' := [.ref 3, .int a1, .int a2, .int a3, .retAddr 0]) (S' := []) (σ' := (97, I, J, R)) rfl (fun hn => absurd hn (by decide)) (fun _ => ?_)
              refine az_E.sn 2 (pc' := 31) (L' := [.ref 3, .int a1, .int a2, .int a3, .retAddr 0]) (S' := [.int a2, .ref 3]) (σ' := (97, I, J, R)) rfl ?_
              cases hx_9 : rs_X_setPace 16 I a2 with
              | none => rw [hx_9] at h; cases h
              | some I_8 =>
                rw [hx_9] at h
                dsimp only at h
                refine az_E.call (d := 5) (k' := 144) (vs := [.ref 3, .int a2]) (pc' := 34) (S' := []) (Q1 := fun v s => v = none ∧ s = (97, I_8, J, (az_u (az_u R 26 2 (some 16)) 26 3 (some 5)))) rfl (az_E.deep (by omega) (re_X_setPace_16 (J := J) (R := R) hR_3_2 hx_9 ⟨rfl, rfl⟩)) (fun v s hq => ?_)
                obtain ⟨rfl, rfl⟩ := hq
                show az_E az_F ex 6 99 34 [.ref 3, .int a1, .int a2, .int a3, .retAddr 0] [] (97, I_8, J, (az_u (az_u R 26 2 (some 16)) 26 3 (some 5))) _
                refine az_E.sn 2 (pc' := 38) (L' := [.ref 3, .int a1, .int a2, .int a3, .int (-9 : Int32)]) (S' := []) (σ' := (97, I_8, J, (az_u (az_u R 26 2 (some 16)) 26 3 (some 5)))) rfl ?_
                exact az_E.forget (L := [.ref 3, .int a1, .retAddr 0, .int a3, .int (-9 : Int32)]) ⟨rfl, rfl, trivial, rfl, rfl, trivial⟩ (re_X_light_38_16_21 (I := I_8) (J := J) (R := R) hR_3_2 hR_3_3 h hQ)
set_option maxRecDepth 100000 in
set_option maxHeartbeats 4000000 in
theorem re_M_light_35_b {ex : az_X} {I : Nat → Nat → Int32} {J : Nat → Nat → Int64} {R : Nat → Nat → Option Nat} {v1 : Int32} {v2 : Int32} {v3 : Int32} {v4 : Int32} {x : ((Int32 × (Nat → Nat → Int32)) ⊕ (Int32 × (Nat → Nat → Int32)))} (h : rs_M_light_35_b v1 v2 v3 v4 I = some x) {Q : Option Value → az_S → Prop} (hQ : Sum.elim (fun s => az_E az_F ex 124 207 35 [.ref 73, .int v1, .int v2, .int v3, .int s.1] [] (97, s.2, J, R) Q) (fun x => Q (some (.int x.1)) (97, x.2, J, R)) x) : az_E az_F ex 124 207 35 [.ref 73, .int v1, .int v2, .int v3, .int v4] [] (97, I, J, R) Q := by
  unfold rs_M_light_35_b at h
  refine az_E.sn 2 (pc' := 39) (L' := [.ref 73, .int v1, .int v2, .int v3, .int v4]) (S' := [.int (9 : Int32), .int v4]) (σ' := (97, I, J, R)) rfl ?_
  refine az_E.br (c := (9 : Int32) < v4) (tt := 103) (ff := 42) (L' := [.ref 73, .int v1, .int v2, .int v3, .int v4]) (S' := []) (σ' := (97, I, J, R)) rfl (fun hc_8 => ?_) (fun hc_8 => ?_)
  · rw [if_pos hc_8] at h
    refine az_E.sn 1 (pc' := 105) (L' := [.ref 73, .int v1, .int v2, .int v3, .int v4]) (S' := [.int (-99 : Int32)]) (σ' := (97, I, J, R)) rfl ?_
    have h := Option.some.inj h
    subst h
    exact az_E.ret (v := some (.int (-99 : Int32))) (σ' := (97, I, J, R)) rfl hQ
  · rw [if_neg hc_8] at h
    refine az_E.sn 7 (pc' := 54) (L' := [.ref 73, .int v1, .int v2, .int v3, .int v4]) (S' := [.int ((166 : Int32) + v2), .ref 74, .int v4, .ref 73]) (σ' := (97, I, J, R)) rfl ?_
    by_cases hc_9 : ((166 : Int32) + v2) < 0 ∨ 179 ≤ ((166 : Int32) + v2).toNatClampNeg
    · rw [if_pos hc_9] at h; cases h
    · rw [if_neg hc_9] at h
      refine az_E.oi (o := az_ai az_F ex (97, I, J, R) 74 ((166 : Int32) + v2)) (pc' := 55) (L' := [.ref 73, .int v1, .int v2, .int v3, .int v4]) (S' := [.int v4, .ref 73]) (σ' := (97, I, J, R)) (x := (I 74 ((166 : Int32) + v2).toNatClampNeg)) rfl (if_neg hc_9) ?_
      refine az_E.sn 5 (pc' := 64) (L' := [.ref 73, .int v1, .int v2, .int v3, .int v4]) (S' := [.int ((172 : Int32) + v2), .ref 74, .int (I 74 ((166 : Int32) + v2).toNatClampNeg), .int v4, .ref 73]) (σ' := (97, I, J, R)) rfl ?_
      by_cases hc_10 : ((172 : Int32) + v2) < 0 ∨ 179 ≤ ((172 : Int32) + v2).toNatClampNeg
      · rw [if_pos hc_10] at h; cases h
      · rw [if_neg hc_10] at h
        refine az_E.oi (o := az_ai az_F ex (97, I, J, R) 74 ((172 : Int32) + v2)) (pc' := 65) (L' := [.ref 73, .int v1, .int v2, .int v3, .int v4]) (S' := [.int (I 74 ((166 : Int32) + v2).toNatClampNeg), .int v4, .ref 73]) (σ' := (97, I, J, R)) (x := (I 74 ((172 : Int32) + v2).toNatClampNeg)) rfl (if_neg hc_10) ?_
        refine az_E.sn 3 (pc' := 72) (L' := [.ref 73, .int v1, .int v2, .int v3, .int v4]) (S' := [.int (178 : Int32), .ref 74, .int (I 74 ((172 : Int32) + v2).toNatClampNeg), .int (I 74 ((166 : Int32) + v2).toNatClampNeg), .int v4, .ref 73]) (σ' := (97, I, J, R)) rfl ?_
        refine az_E.oi (o := az_ai az_F ex (97, I, J, R) 74 (178 : Int32)) (pc' := 73) (L' := [.ref 73, .int v1, .int v2, .int v3, .int v4]) (S' := [.int (I 74 ((172 : Int32) + v2).toNatClampNeg), .int (I 74 ((166 : Int32) + v2).toNatClampNeg), .int v4, .ref 73]) (σ' := (97, I, J, R)) (x := (I 74 178)) rfl rfl ?_
        cases hx_13 : rs_M_asksSteps I v4 (I 74 ((166 : Int32) + v2).toNatClampNeg) (I 74 ((172 : Int32) + v2).toNatClampNeg) (I 74 178) with
        | none => rw [hx_13] at h; cases h
        | some I_12 =>
          rw [hx_13] at h
          dsimp only at h
          refine az_E.call (d := 123) (k' := 189) (vs := [.ref 73, .int v4, .int (I 74 ((166 : Int32) + v2).toNatClampNeg), .int (I 74 ((172 : Int32) + v2).toNatClampNeg), .int (I 74 178)]) (pc' := 76) (S' := []) (Q1 := fun v s => v = none ∧ s = (97, I_12, J, R)) rfl (az_E.deep (by omega) (re_M_asksSteps (J := J) (R := R)  hx_13 ⟨rfl, rfl⟩)) (fun v s hq => ?_)
          obtain ⟨rfl, rfl⟩ := hq
          show az_E az_F ex 124 207 76 [.ref 73, .int v1, .int v2, .int v3, .int v4] [] (97, I_12, J, R) _
          refine az_E.sn 3 (pc' := 81) (L' := [.ref 73, .int v1, .int v2, .int v3, .int v4]) (S' := [.int (1000 : Int32), .int v1, .ref 73]) (σ' := (97, I_12, J, R)) rfl ?_
          have hd_14 : ¬ ((1000 : Int32) = 0) := by decide
          refine az_E.dv (c := (1000 : Int32) = 0) (pc' := 82) (L' := [.ref 73, .int v1, .int v2, .int v3, .int v4]) (S' := [.int (v1 / (1000 : Int32)), .ref 73]) (σ' := (97, I_12, J, R)) rfl hd_14 ?_
          refine az_E.sn 2 (pc' := 86) (L' := [.ref 73, .int v1, .int v2, .int v3, .int v4]) (S' := [.int (1000 : Int32), .int v1, .int (v1 / (1000 : Int32)), .ref 73]) (σ' := (97, I_12, J, R)) rfl ?_
          have hd_15 : ¬ ((1000 : Int32) = 0) := by decide
          refine az_E.dv (c := (1000 : Int32) = 0) (pc' := 87) (L' := [.ref 73, .int v1, .int v2, .int v3, .int v4]) (S' := [.int (v1 - v1 / (1000 : Int32) * (1000 : Int32)), .int (v1 / (1000 : Int32)), .ref 73]) (σ' := (97, I_12, J, R)) rfl hd_15 ?_
          cases hx_18 : rs_M_between I_12 (v1 / (1000 : Int32)) (v1 - v1 / (1000 : Int32) * (1000 : Int32)) with
          | none => rw [hx_18] at h; cases h
          | some o =>
            rw [hx_18] at h
            obtain ⟨x_16, I_17⟩ := o
            dsimp only at h
            refine az_E.call (d := 123) (k' := 195) (vs := [.ref 73, .int (v1 / (1000 : Int32)), .int (v1 - v1 / (1000 : Int32) * (1000 : Int32))]) (pc' := 90) (S' := []) (Q1 := fun v s => v = some (.int x_16) ∧ s = (97, I_17, J, R)) rfl (az_E.deep (by omega) (re_M_between (J := J) (R := R)  hx_18 ⟨rfl, rfl⟩)) (fun v s hq => ?_)
            obtain ⟨rfl, rfl⟩ := hq
            show az_E az_F ex 124 207 90 [.ref 73, .int v1, .int v2, .int v3, .int v4] [.int x_16] (97, I_17, J, R) _
            refine az_E.sn 1 (pc' := 91) (L' := [.ref 73, .int v1, .int v2, .int v3, .int v4]) (S' := [.int v3, .int x_16]) (σ' := (97, I_17, J, R)) rfl ?_
            refine az_E.br (c := v3 < x_16) (tt := 97) (ff := 94) (L' := [.ref 73, .int v1, .int v2, .int v3, .int v4]) (S' := []) (σ' := (97, I_17, J, R)) rfl (fun hc_19 => ?_) (fun hc_19 => ?_)
            · rw [if_pos hc_19] at h
              refine az_E.sn 2 (pc' := 35) (L' := [.ref 73, .int v1, .int v2, .int v3, .int (v4 + (1 : Int32))]) (S' := []) (σ' := (97, I_17, J, R)) rfl ?_
              have h := Option.some.inj h
              subst h
              exact az_E.forget (L := [.ref 73, .int v1, .int v2, .int v3, .int (v4 + (1 : Int32))]) ⟨rfl, rfl, rfl, rfl, rfl, trivial⟩ hQ
            · rw [if_neg hc_19] at h
              refine az_E.sn 1 (pc' := 96) (L' := [.ref 73, .int v1, .int v2, .int v3, .int v4]) (S' := [.int v4]) (σ' := (97, I_17, J, R)) rfl ?_
              have h := Option.some.inj h
              subst h
              exact az_E.ret (v := some (.int v4)) (σ' := (97, I_17, J, R)) rfl hQ
set_option maxRecDepth 100000 in
set_option maxHeartbeats 4000000 in
theorem re_M_light_35 {ex : az_X} {I : Nat → Nat → Int32} {J : Nat → Nat → Int64} {R : Nat → Nat → Option Nat} {v1 : Int32} {v2 : Int32} {v3 : Int32} {v4 : Int32} {x : Int32 × (Nat → Nat → Int32)} (h : rs_M_light_35 I v1 v2 v3 v4 = some x) {Q : Option Value → az_S → Prop} (hQ : Q (some (.int x.1)) (97, x.2, J, R)) : az_E az_F ex 124 207 35 [.ref 73, .int v1, .int v2, .int v3, .int v4] [] (97, I, J, R) Q := by
  unfold rs_M_light_35 at h
  refine az_lp_E (G := fun s => az_E az_F ex 124 207 35 [.ref 73, .int v1, .int v2, .int v3, .int s.1] [] (97, s.2, J, R) Q) (H := fun x => Q (some (.int x.1)) (97, x.2, J, R)) (fun s o hb ho => ?_) _ _ _ h hQ
  exact re_M_light_35_b  hb ho
set_option maxRecDepth 100000 in
set_option maxHeartbeats 4000000 in
theorem re_M_light {ex : az_X} {I : Nat → Nat → Int32} {J : Nat → Nat → Int64} {R : Nat → Nat → Option Nat} {a1 : Int32} {a2 : Int32} {a3 : Int32} {o : Int32 × (Nat → Nat → Int32)} (h : rs_M_light I a1 a2 a3 = some o) {Q : Option Value → az_S → Prop} (hQ : Q (some (.int o.1)) (97, o.2, J, R)) : az_E az_F ex 124 207 0 [.ref 73, .int a1, .int a2, .int a3, .retAddr 0] [] (97, I, J, R) Q := by
  unfold rs_M_light at h
  refine az_E.sn 1 (pc' := 1) (L' := [.ref 73, .int a1, .int a2, .int a3, .retAddr 0]) (S' := [.int a1]) (σ' := (97, I, J, R)) rfl ?_
  cases hx_2 : rs_M_isFt a1 with
  | none => rw [hx_2] at h; cases h
  | some x_1 =>
    rw [hx_2] at h
    dsimp only at h
    refine az_E.call (d := 123) (k' := 163) (vs := [.int a1]) (pc' := 4) (S' := []) (Q1 := fun v s => v = some (.int x_1) ∧ s = (97, I, J, R)) rfl (az_E.deep (by omega) (re_M_isFt (J := J) (R := R)  hx_2 ⟨rfl, rfl⟩)) (fun v s hq => ?_)
    obtain ⟨rfl, rfl⟩ := hq
    show az_E az_F ex 124 207 4 [.ref 73, .int a1, .int a2, .int a3, .retAddr 0] [.int x_1] (97, I, J, R) _
    refine az_E.br (c := x_1 = 0) (tt := 28) (ff := 7) (L' := [.ref 73, .int a1, .int a2, .int a3, .retAddr 0]) (S' := []) (σ' := (97, I, J, R)) rfl (fun hc_3 => ?_) (fun hc_3 => ?_)
    · rw [if_pos hc_3] at h
      refine az_E.sn 1 (pc' := 30) (L' := [.ref 73, .int a1, .int a2, .int a3, .retAddr 0]) (S' := [.int (-2000000000 : Int32)]) (σ' := (97, I, J, R)) rfl ?_
      have h := Option.some.inj h
      subst h
      exact az_E.ret (v := some (.int (-2000000000 : Int32))) (σ' := (97, I, J, R)) rfl hQ
    · rw [if_neg hc_3] at h
      refine az_E.sn 3 (pc' := 10) (L' := [.ref 73, .int a1, .int a2, .int a3, .retAddr 0]) (S' := [.long a2.toInt64, .ref 73]) (σ' := (97, I, J, R)) rfl ?_
      refine az_E.call (d := 123) (k' := 162) (vs := [.ref 73, .long a2.toInt64]) (pc' := 13) (S' := []) rfl ?_ (fun _ _ hq => hq)
      show az_E az_F ex 123 162 0 [.ref 73, .long a2.toInt64, .retAddr 0] [] (97, I, J, R) _
      refine az_E.sn 7 (pc' := 9) (L' := [.ref 73, .long a2.toInt64, .retAddr 0]) (S' := [.long ((I 73 7) - (1 : Int32)).toInt64, .long (0 : Int64), .long a2.toInt64]) (σ' := (97, I, J, R)) rfl ?_
      refine az_E.call (d := 122) (k' := 154) (vs := [.long a2.toInt64, .long (0 : Int64), .long ((I 73 7) - (1 : Int32)).toInt64]) (pc' := 12) (S' := []) rfl ?_ (fun _ _ hq => hq)
      show az_E az_F ex 122 154 0 [.long a2.toInt64, .retAddr 0, .long (0 : Int64), .retAddr 0, .long ((I 73 7) - (1 : Int32)).toInt64, .retAddr 0] [] (97, I, J, R) _
      refine az_E.sn 3 (pc' := 3) (L' := [.long a2.toInt64, .retAddr 0, .long (0 : Int64), .retAddr 0, .long ((I 73 7) - (1 : Int32)).toInt64, .retAddr 0]) (S' := [.int (lg_cmp a2.toInt64 (0 : Int64))]) (σ' := (97, I, J, R)) rfl ?_
      refine az_E.br (c := (lg_cmp a2.toInt64 (0 : Int64)) < 0) (tt := 17) (ff := 6) (L' := [.long a2.toInt64, .retAddr 0, .long (0 : Int64), .retAddr 0, .long ((I 73 7) - (1 : Int32)).toInt64, .retAddr 0]) (S' := []) (σ' := (97, I, J, R)) rfl (fun hc_4 => ?_) (fun hc_4 => ?_)
      · rw [if_pos hc_4] at h
        refine az_E.sn 1 (pc' := 18) (L' := [.long a2.toInt64, .retAddr 0, .long (0 : Int64), .retAddr 0, .long ((I 73 7) - (1 : Int32)).toInt64, .retAddr 0]) (S' := [.int (0 : Int32)]) (σ' := (97, I, J, R)) rfl ?_
        refine az_E.ret (v := some (.int (0 : Int32))) (σ' := (97, I, J, R)) rfl ?_
        show az_E az_F ex 123 162 12 [.ref 73, .long a2.toInt64, .retAddr 0] [.int (0 : Int32)] (97, I, J, R) _
        refine az_E.ret (v := some (.int (0 : Int32))) (σ' := (97, I, J, R)) rfl ?_
        show az_E az_F ex 124 207 13 [.ref 73, .int a1, .int a2, .int a3, .retAddr 0] [.int (0 : Int32)] (97, I, J, R) _
        refine az_E.br (c := (0 : Int32) = 0) (tt := 28) (ff := 16) (L' := [.ref 73, .int a1, .int a2, .int a3, .retAddr 0]) (S' := []) (σ' := (97, I, J, R)) rfl (fun _ => ?_) (fun hn => absurd (by decide) hn)
        refine az_E.sn 1 (pc' := 30) (L' := [.ref 73, .int a1, .int a2, .int a3, .retAddr 0]) (S' := [.int (-2000000000 : Int32)]) (σ' := (97, I, J, R)) rfl ?_
        have h := Option.some.inj h
        subst h
        exact az_E.ret (v := some (.int (-2000000000 : Int32))) (σ' := (97, I, J, R)) rfl hQ
      · rw [if_neg hc_4] at h
        refine az_E.sn 3 (pc' := 10) (L' := [.long a2.toInt64, .retAddr 0, .long (0 : Int64), .retAddr 0, .long ((I 73 7) - (1 : Int32)).toInt64, .retAddr 0]) (S' := [.int (lg_cmp a2.toInt64 ((I 73 7) - (1 : Int32)).toInt64)]) (σ' := (97, I, J, R)) rfl ?_
        refine az_E.br (c := 0 < (lg_cmp a2.toInt64 ((I 73 7) - (1 : Int32)).toInt64)) (tt := 17) (ff := 13) (L' := [.long a2.toInt64, .retAddr 0, .long (0 : Int64), .retAddr 0, .long ((I 73 7) - (1 : Int32)).toInt64, .retAddr 0]) (S' := []) (σ' := (97, I, J, R)) rfl (fun hc_5 => ?_) (fun hc_5 => ?_)
        · rw [if_pos hc_5] at h
          refine az_E.sn 1 (pc' := 18) (L' := [.long a2.toInt64, .retAddr 0, .long (0 : Int64), .retAddr 0, .long ((I 73 7) - (1 : Int32)).toInt64, .retAddr 0]) (S' := [.int (0 : Int32)]) (σ' := (97, I, J, R)) rfl ?_
          refine az_E.ret (v := some (.int (0 : Int32))) (σ' := (97, I, J, R)) rfl ?_
          show az_E az_F ex 123 162 12 [.ref 73, .long a2.toInt64, .retAddr 0] [.int (0 : Int32)] (97, I, J, R) _
          refine az_E.ret (v := some (.int (0 : Int32))) (σ' := (97, I, J, R)) rfl ?_
          show az_E az_F ex 124 207 13 [.ref 73, .int a1, .int a2, .int a3, .retAddr 0] [.int (0 : Int32)] (97, I, J, R) _
          refine az_E.br (c := (0 : Int32) = 0) (tt := 28) (ff := 16) (L' := [.ref 73, .int a1, .int a2, .int a3, .retAddr 0]) (S' := []) (σ' := (97, I, J, R)) rfl (fun _ => ?_) (fun hn => absurd (by decide) hn)
          refine az_E.sn 1 (pc' := 30) (L' := [.ref 73, .int a1, .int a2, .int a3, .retAddr 0]) (S' := [.int (-2000000000 : Int32)]) (σ' := (97, I, J, R)) rfl ?_
          have h := Option.some.inj h
          subst h
          exact az_E.ret (v := some (.int (-2000000000 : Int32))) (σ' := (97, I, J, R)) rfl hQ
        · rw [if_neg hc_5] at h
          refine az_E.sn 2 (pc' := 18) (L' := [.long a2.toInt64, .retAddr 0, .long (0 : Int64), .retAddr 0, .long ((I 73 7) - (1 : Int32)).toInt64, .retAddr 0]) (S' := [.int (1 : Int32)]) (σ' := (97, I, J, R)) rfl ?_
          refine az_E.ret (v := some (.int (1 : Int32))) (σ' := (97, I, J, R)) rfl ?_
          show az_E az_F ex 123 162 12 [.ref 73, .long a2.toInt64, .retAddr 0] [.int (1 : Int32)] (97, I, J, R) _
          refine az_E.ret (v := some (.int (1 : Int32))) (σ' := (97, I, J, R)) rfl ?_
          show az_E az_F ex 124 207 13 [.ref 73, .int a1, .int a2, .int a3, .retAddr 0] [.int (1 : Int32)] (97, I, J, R) _
          refine az_E.br (c := (1 : Int32) = 0) (tt := 28) (ff := 16) (L' := [.ref 73, .int a1, .int a2, .int a3, .retAddr 0]) (S' := []) (σ' := (97, I, J, R)) rfl (fun hn => absurd hn (by decide)) (fun _ => ?_)
          refine az_E.sn 4 (pc' := 22) (L' := [.ref 73, .int a1, .int a2, .int a3, .retAddr 0]) (S' := [.long (9999 : Int64), .long (0 : Int64), .long a3.toInt64]) (σ' := (97, I, J, R)) rfl ?_
          refine az_E.call (d := 123) (k' := 154) (vs := [.long a3.toInt64, .long (0 : Int64), .long (9999 : Int64)]) (pc' := 25) (S' := []) rfl ?_ (fun _ _ hq => hq)
          show az_E az_F ex 123 154 0 [.long a3.toInt64, .retAddr 0, .long (0 : Int64), .retAddr 0, .long (9999 : Int64), .retAddr 0] [] (97, I, J, R) _
          refine az_E.sn 3 (pc' := 3) (L' := [.long a3.toInt64, .retAddr 0, .long (0 : Int64), .retAddr 0, .long (9999 : Int64), .retAddr 0]) (S' := [.int (lg_cmp a3.toInt64 (0 : Int64))]) (σ' := (97, I, J, R)) rfl ?_
          refine az_E.br (c := (lg_cmp a3.toInt64 (0 : Int64)) < 0) (tt := 17) (ff := 6) (L' := [.long a3.toInt64, .retAddr 0, .long (0 : Int64), .retAddr 0, .long (9999 : Int64), .retAddr 0]) (S' := []) (σ' := (97, I, J, R)) rfl (fun hc_6 => ?_) (fun hc_6 => ?_)
          · rw [if_pos hc_6] at h
            refine az_E.sn 1 (pc' := 18) (L' := [.long a3.toInt64, .retAddr 0, .long (0 : Int64), .retAddr 0, .long (9999 : Int64), .retAddr 0]) (S' := [.int (0 : Int32)]) (σ' := (97, I, J, R)) rfl ?_
            refine az_E.ret (v := some (.int (0 : Int32))) (σ' := (97, I, J, R)) rfl ?_
            show az_E az_F ex 124 207 25 [.ref 73, .int a1, .int a2, .int a3, .retAddr 0] [.int (0 : Int32)] (97, I, J, R) _
            refine az_E.br (c := (0 : Int32) = 0) (tt := 28) (ff := 31) (L' := [.ref 73, .int a1, .int a2, .int a3, .retAddr 0]) (S' := []) (σ' := (97, I, J, R)) rfl (fun _ => ?_) (fun hn => absurd (by decide) hn)
            refine az_E.sn 1 (pc' := 30) (L' := [.ref 73, .int a1, .int a2, .int a3, .retAddr 0]) (S' := [.int (-2000000000 : Int32)]) (σ' := (97, I, J, R)) rfl ?_
            have h := Option.some.inj h
            subst h
            exact az_E.ret (v := some (.int (-2000000000 : Int32))) (σ' := (97, I, J, R)) rfl hQ
          · rw [if_neg hc_6] at h
            refine az_E.sn 3 (pc' := 10) (L' := [.long a3.toInt64, .retAddr 0, .long (0 : Int64), .retAddr 0, .long (9999 : Int64), .retAddr 0]) (S' := [.int (lg_cmp a3.toInt64 (9999 : Int64))]) (σ' := (97, I, J, R)) rfl ?_
            refine az_E.br (c := 0 < (lg_cmp a3.toInt64 (9999 : Int64))) (tt := 17) (ff := 13) (L' := [.long a3.toInt64, .retAddr 0, .long (0 : Int64), .retAddr 0, .long (9999 : Int64), .retAddr 0]) (S' := []) (σ' := (97, I, J, R)) rfl (fun hc_7 => ?_) (fun hc_7 => ?_)
            · rw [if_pos hc_7] at h
              refine az_E.sn 1 (pc' := 18) (L' := [.long a3.toInt64, .retAddr 0, .long (0 : Int64), .retAddr 0, .long (9999 : Int64), .retAddr 0]) (S' := [.int (0 : Int32)]) (σ' := (97, I, J, R)) rfl ?_
              refine az_E.ret (v := some (.int (0 : Int32))) (σ' := (97, I, J, R)) rfl ?_
              show az_E az_F ex 124 207 25 [.ref 73, .int a1, .int a2, .int a3, .retAddr 0] [.int (0 : Int32)] (97, I, J, R) _
              refine az_E.br (c := (0 : Int32) = 0) (tt := 28) (ff := 31) (L' := [.ref 73, .int a1, .int a2, .int a3, .retAddr 0]) (S' := []) (σ' := (97, I, J, R)) rfl (fun _ => ?_) (fun hn => absurd (by decide) hn)
              refine az_E.sn 1 (pc' := 30) (L' := [.ref 73, .int a1, .int a2, .int a3, .retAddr 0]) (S' := [.int (-2000000000 : Int32)]) (σ' := (97, I, J, R)) rfl ?_
              have h := Option.some.inj h
              subst h
              exact az_E.ret (v := some (.int (-2000000000 : Int32))) (σ' := (97, I, J, R)) rfl hQ
            · rw [if_neg hc_7] at h
              refine az_E.sn 2 (pc' := 18) (L' := [.long a3.toInt64, .retAddr 0, .long (0 : Int64), .retAddr 0, .long (9999 : Int64), .retAddr 0]) (S' := [.int (1 : Int32)]) (σ' := (97, I, J, R)) rfl ?_
              refine az_E.ret (v := some (.int (1 : Int32))) (σ' := (97, I, J, R)) rfl ?_
              show az_E az_F ex 124 207 25 [.ref 73, .int a1, .int a2, .int a3, .retAddr 0] [.int (1 : Int32)] (97, I, J, R) _
              refine az_E.br (c := (1 : Int32) = 0) (tt := 28) (ff := 31) (L' := [.ref 73, .int a1, .int a2, .int a3, .retAddr 0]) (S' := []) (σ' := (97, I, J, R)) rfl (fun hn => absurd hn (by decide)) (fun _ => ?_)
              refine az_E.sn 2 (pc' := 35) (L' := [.ref 73, .int a1, .int a2, .int a3, .int (-9 : Int32)]) (S' := []) (σ' := (97, I, J, R)) rfl ?_
              exact az_E.forget (L := [.ref 73, .int a1, .int a2, .int a3, .int (-9 : Int32)]) ⟨rfl, rfl, rfl, rfl, rfl, trivial⟩ (re_M_light_35 (I := I) (J := J) (R := R)  h hQ)
set_option maxRecDepth 100000 in
set_option maxHeartbeats 4000000 in
theorem re_X_backFrom_78_b_16_21 {ex : az_X} {I : Nat → Nat → Int32} {J : Nat → Nat → Int64} {R : Nat → Nat → Option Nat} {v4 : Int32} (hR_3_2 : R 3 2 = some 16) (hR_3_3 : R 3 3 = some 21) {x : ((Int32) ⊕ (Int32 × (Nat → Nat → Int32)))} (h : rs_X_backFrom_78_b 21 16 I v4 = some x) {Q : Option Value → az_S → Prop} (hQ : Sum.elim (fun s => az_E az_F ex 6 100 78 [.ref 3, .retAddr 0, .retAddr 0, .retAddr 0, .int s, .retAddr 0] [] (97, I, J, (az_u (az_u R 26 2 (some 16)) 26 3 (some 5))) Q) (fun x => ∀ R' : Nat → Nat → Option Nat, R' 3 2 = some 16 → R' 3 3 = some 21 → Q (some (.int x.1)) (97, x.2, J, R')) x) : az_E az_F ex 6 100 78 [.ref 3, .retAddr 0, .retAddr 0, .retAddr 0, .int v4, .retAddr 0] [] (97, I, J, (az_u (az_u R 26 2 (some 16)) 26 3 (some 5))) Q := by
  unfold rs_X_backFrom_78_b at h
  refine az_E.sn 1 (pc' := 80) (L' := [.ref 3, .retAddr 0, .retAddr 0, .retAddr 0, .int v4, .retAddr 0]) (S' := [.int v4]) (σ' := (97, I, J, (az_u (az_u R 26 2 (some 16)) 26 3 (some 5)))) rfl ?_
  refine az_E.br (c := v4 < 0) (tt := 127) (ff := 83) (L' := [.ref 3, .retAddr 0, .retAddr 0, .retAddr 0, .int v4, .retAddr 0]) (S' := []) (σ' := (97, I, J, (az_u (az_u R 26 2 (some 16)) 26 3 (some 5)))) rfl (fun hc_16 => ?_) (fun hc_16 => ?_)
  · rw [if_pos hc_16] at h
    refine az_E.sn 1 (pc' := 129) (L' := [.ref 3, .retAddr 0, .retAddr 0, .retAddr 0, .int v4, .retAddr 0]) (S' := [.int (-2 : Int32)]) (σ' := (97, I, J, (az_u (az_u R 26 2 (some 16)) 26 3 (some 5)))) rfl ?_
    have h := Option.some.inj h
    subst h
    try simp only [Sum.elim_inl, Sum.elim_inr] at hQ
    exact az_E.ret (v := some (.int (-2 : Int32))) (σ' := (97, I, J, (az_u (az_u R 26 2 (some 16)) 26 3 (some 5)))) rfl (hQ _ hR_3_2 hR_3_3)
  · rw [if_neg hc_16] at h
    refine az_E.sn 4 (pc' := 92) (L' := [.ref 3, .retAddr 0, .retAddr 0, .retAddr 0, .int v4, .retAddr 0]) (S' := [.int v4, .ref 35]) (σ' := (97, I, J, (az_u (az_u R 26 2 (some 16)) 26 3 (some 5)))) rfl ?_
    by_cases hc_17 : v4 < 0 ∨ 144 ≤ v4.toNatClampNeg
    · rw [if_pos hc_17] at h; cases h
    · rw [if_neg hc_17] at h
      refine az_E.oi (o := az_ai az_F ex (97, I, J, (az_u (az_u R 26 2 (some 16)) 26 3 (some 5))) 35 v4) (pc' := 93) (L' := [.ref 3, .retAddr 0, .retAddr 0, .retAddr 0, .int v4, .retAddr 0]) (S' := []) (σ' := (97, I, J, (az_u (az_u R 26 2 (some 16)) 26 3 (some 5)))) (x := (I 35 v4.toNatClampNeg)) rfl (if_neg hc_17) ?_
      refine az_E.sn 5 (pc' := 104) (L' := [.ref 3, .retAddr 0, .retAddr 0, .retAddr 0, .int v4, .int (I 35 v4.toNatClampNeg)]) (S' := [.int (I 35 v4.toNatClampNeg), .ref 34]) (σ' := (97, I, J, (az_u (az_u R 26 2 (some 16)) 26 3 (some 5)))) rfl ?_
      by_cases hc_18 : (I 35 v4.toNatClampNeg) < 0 ∨ 144 ≤ (I 35 v4.toNatClampNeg).toNatClampNeg
      · rw [if_pos hc_18] at h; cases h
      · rw [if_neg hc_18] at h
        refine az_E.oi (o := az_ai az_F ex (97, I, J, (az_u (az_u R 26 2 (some 16)) 26 3 (some 5))) 34 (I 35 v4.toNatClampNeg)) (pc' := 105) (L' := [.ref 3, .retAddr 0, .retAddr 0, .retAddr 0, .int v4, .int (I 35 v4.toNatClampNeg)]) (S' := []) (σ' := (97, I, J, (az_u (az_u R 26 2 (some 16)) 26 3 (some 5)))) (x := (I 34 (I 35 v4.toNatClampNeg).toNatClampNeg)) rfl (if_neg hc_18) ?_
        refine az_E.sn 4 (pc' := 114) (L' := [.ref 3, .retAddr 0, .retAddr 0, .retAddr 0, .int v4, .int (I 35 v4.toNatClampNeg)]) (S' := [.int (I 35 v4.toNatClampNeg), .ref 33, .int (I 34 (I 35 v4.toNatClampNeg).toNatClampNeg)]) (σ' := (97, I, J, (az_u (az_u R 26 2 (some 16)) 26 3 (some 5)))) rfl ?_
        by_cases hc_19 : (I 35 v4.toNatClampNeg) < 0 ∨ 144 ≤ (I 35 v4.toNatClampNeg).toNatClampNeg
        · rw [if_pos hc_19] at h; cases h
        · rw [if_neg hc_19] at h
          refine az_E.oi (o := az_ai az_F ex (97, I, J, (az_u (az_u R 26 2 (some 16)) 26 3 (some 5))) 33 (I 35 v4.toNatClampNeg)) (pc' := 115) (L' := [.ref 3, .retAddr 0, .retAddr 0, .retAddr 0, .int v4, .int (I 35 v4.toNatClampNeg)]) (S' := [.int (I 34 (I 35 v4.toNatClampNeg).toNatClampNeg)]) (σ' := (97, I, J, (az_u (az_u R 26 2 (some 16)) 26 3 (some 5)))) (x := (I 33 (I 35 v4.toNatClampNeg).toNatClampNeg)) rfl (if_neg hc_19) ?_
          refine az_E.br (c := (I 33 (I 35 v4.toNatClampNeg).toNatClampNeg) < (I 34 (I 35 v4.toNatClampNeg).toNatClampNeg)) (tt := 121) (ff := 118) (L' := [.ref 3, .retAddr 0, .retAddr 0, .retAddr 0, .int v4, .int (I 35 v4.toNatClampNeg)]) (S' := []) (σ' := (97, I, J, (az_u (az_u R 26 2 (some 16)) 26 3 (some 5)))) rfl (fun hc_20 => ?_) (fun hc_20 => ?_)
          · rw [if_pos hc_20] at h
            refine az_E.sn 2 (pc' := 78) (L' := [.ref 3, .retAddr 0, .retAddr 0, .retAddr 0, .int (v4 + (-1 : Int32)), .int (I 35 v4.toNatClampNeg)]) (S' := []) (σ' := (97, I, J, (az_u (az_u R 26 2 (some 16)) 26 3 (some 5)))) rfl ?_
            have h := Option.some.inj h
            subst h
            exact az_E.forget (L := [.ref 3, .retAddr 0, .retAddr 0, .retAddr 0, .int (v4 + (-1 : Int32)), .retAddr 0]) ⟨rfl, trivial, trivial, trivial, rfl, trivial, trivial⟩ hQ
          · rw [if_neg hc_20] at h
            refine az_E.sn 1 (pc' := 120) (L' := [.ref 3, .retAddr 0, .retAddr 0, .retAddr 0, .int v4, .int (I 35 v4.toNatClampNeg)]) (S' := [.int v4]) (σ' := (97, I, J, (az_u (az_u R 26 2 (some 16)) 26 3 (some 5)))) rfl ?_
            have h := Option.some.inj h
            subst h
            try simp only [Sum.elim_inl, Sum.elim_inr] at hQ
            exact az_E.ret (v := some (.int v4)) (σ' := (97, I, J, (az_u (az_u R 26 2 (some 16)) 26 3 (some 5)))) rfl (hQ _ hR_3_2 hR_3_3)
set_option maxRecDepth 100000 in
set_option maxHeartbeats 4000000 in
theorem re_X_backFrom_78_16_21 {ex : az_X} {I : Nat → Nat → Int32} {J : Nat → Nat → Int64} {R : Nat → Nat → Option Nat} {v4 : Int32} (hR_3_2 : R 3 2 = some 16) (hR_3_3 : R 3 3 = some 21) {x : Int32 × (Nat → Nat → Int32)} (h : rs_X_backFrom_78 21 16 I v4 = some x) {Q : Option Value → az_S → Prop} (hQ : ∀ R' : Nat → Nat → Option Nat, R' 3 2 = some 16 → R' 3 3 = some 21 → Q (some (.int x.1)) (97, x.2, J, R')) : az_E az_F ex 6 100 78 [.ref 3, .retAddr 0, .retAddr 0, .retAddr 0, .int v4, .retAddr 0] [] (97, I, J, (az_u (az_u R 26 2 (some 16)) 26 3 (some 5))) Q := by
  unfold rs_X_backFrom_78 at h
  refine az_lp_E (G := fun s => az_E az_F ex 6 100 78 [.ref 3, .retAddr 0, .retAddr 0, .retAddr 0, .int s, .retAddr 0] [] (97, I, J, (az_u (az_u R 26 2 (some 16)) 26 3 (some 5))) Q) (H := fun x => ∀ R' : Nat → Nat → Option Nat, R' 3 2 = some 16 → R' 3 3 = some 21 → Q (some (.int x.1)) (97, x.2, J, R')) (fun s o hb ho => ?_) _ _ _ h hQ
  exact re_X_backFrom_78_b_16_21 hR_3_2 hR_3_3 hb ho
set_option maxRecDepth 100000 in
set_option maxHeartbeats 4000000 in
theorem re_X_backFrom_16_21 {ex : az_X} {I : Nat → Nat → Int32} {J : Nat → Nat → Int64} {R : Nat → Nat → Option Nat} {a1 : Int32} {a2 : Int32} {a3 : Int32} (hR_3_2 : R 3 2 = some 16) (hR_3_3 : R 3 3 = some 21) {o : Int32 × (Nat → Nat → Int32)} (h : rs_X_backFrom 21 16 I a1 a2 a3 = some o) {Q : Option Value → az_S → Prop} (hQ : ∀ R' : Nat → Nat → Option Nat, R' 3 2 = some 16 → R' 3 3 = some 21 → Q (some (.int o.1)) (97, o.2, J, R')) : az_E az_F ex 6 100 0 [.ref 3, .int a1, .int a2, .int a3, .retAddr 0, .retAddr 0] [] (97, I, J, R) Q := by
  unfold rs_X_backFrom at h
  refine az_E.sn 1 (pc' := 1) (L' := [.ref 3, .int a1, .int a2, .int a3, .retAddr 0, .retAddr 0]) (S' := [.int a1]) (σ' := (97, I, J, R)) rfl ?_
  cases hx_2 : rs_X_isFromTo a1 with
  | none => rw [hx_2] at h; cases h
  | some x_1 =>
    rw [hx_2] at h
    dsimp only at h
    refine az_E.call (d := 5) (k' := 134) (vs := [.int a1]) (pc' := 4) (S' := []) (Q1 := fun v s => v = some (.int x_1) ∧ s = (97, I, J, R)) rfl (az_E.deep (by omega) (re_X_isFromTo (J := J) (R := R)  hx_2 ⟨rfl, rfl⟩)) (fun v s hq => ?_)
    obtain ⟨rfl, rfl⟩ := hq
    show az_E az_F ex 6 100 4 [.ref 3, .int a1, .int a2, .int a3, .retAddr 0, .retAddr 0] [.int x_1] (97, I, J, R) _
    refine az_E.br (c := x_1 = 0) (tt := 22) (ff := 7) (L' := [.ref 3, .int a1, .int a2, .int a3, .retAddr 0, .retAddr 0]) (S' := []) (σ' := (97, I, J, R)) rfl (fun hc_3 => ?_) (fun hc_3 => ?_)
    · rw [if_pos hc_3] at h
      refine az_E.sn 1 (pc' := 23) (L' := [.ref 3, .int a1, .int a2, .int a3, .retAddr 0, .retAddr 0]) (S' := [.int (-1 : Int32)]) (σ' := (97, I, J, R)) rfl ?_
      have h := Option.some.inj h
      subst h
      exact az_E.ret (v := some (.int (-1 : Int32))) (σ' := (97, I, J, R)) rfl (hQ _ hR_3_2 hR_3_3)
    · rw [if_neg hc_3] at h
      refine az_E.sn 2 (pc' := 9) (L' := [.ref 3, .int a1, .int a2, .int a3, .retAddr 0, .retAddr 0]) (S' := [.int a2, .ref 3]) (σ' := (97, I, J, R)) rfl ?_
      refine az_E.call (d := 5) (k' := 138) (vs := [.ref 3, .int a2]) (pc' := 12) (S' := []) rfl ?_ (fun _ _ hq => hq)
      show az_E az_F ex 5 138 0 [.ref 3, .int a2] [] (97, I, J, R) _
      refine az_E.sn 7 (pc' := 11) (L' := [.ref 3, .int a2]) (S' := [.int ((I 4 9) - (1 : Int32)), .int (0 : Int32), .int a2]) (σ' := (97, I, J, R)) rfl ?_
      refine az_E.call (d := 4) (k' := 131) (vs := [.int a2, .int (0 : Int32), .int ((I 4 9) - (1 : Int32))]) (pc' := 14) (S' := []) rfl ?_ (fun _ _ hq => hq)
      show az_E az_F ex 4 131 0 [.int a2, .int (0 : Int32), .int ((I 4 9) - (1 : Int32))] [] (97, I, J, R) _
      refine az_E.sn 2 (pc' := 2) (L' := [.int a2, .int (0 : Int32), .int ((I 4 9) - (1 : Int32))]) (S' := [.int (0 : Int32), .int a2]) (σ' := (97, I, J, R)) rfl ?_
      refine az_E.br (c := a2 < (0 : Int32)) (tt := 14) (ff := 5) (L' := [.int a2, .int (0 : Int32), .int ((I 4 9) - (1 : Int32))]) (S' := []) (σ' := (97, I, J, R)) rfl (fun hc_4 => ?_) (fun hc_4 => ?_)
      · rw [if_pos hc_4] at h
        refine az_E.sn 1 (pc' := 15) (L' := [.int a2, .int (0 : Int32), .int ((I 4 9) - (1 : Int32))]) (S' := [.int (0 : Int32)]) (σ' := (97, I, J, R)) rfl ?_
        refine az_E.ret (v := some (.int (0 : Int32))) (σ' := (97, I, J, R)) rfl ?_
        show az_E az_F ex 5 138 14 [.ref 3, .int a2] [.int (0 : Int32)] (97, I, J, R) _
        refine az_E.ret (v := some (.int (0 : Int32))) (σ' := (97, I, J, R)) rfl ?_
        show az_E az_F ex 6 100 12 [.ref 3, .int a1, .int a2, .int a3, .retAddr 0, .retAddr 0] [.int (0 : Int32)] (97, I, J, R) _
        refine az_E.br (c := (0 : Int32) = 0) (tt := 22) (ff := 15) (L' := [.ref 3, .int a1, .int a2, .int a3, .retAddr 0, .retAddr 0]) (S' := []) (σ' := (97, I, J, R)) rfl (fun _ => ?_) (fun hn => absurd (by decide) hn)
        refine az_E.sn 1 (pc' := 23) (L' := [.ref 3, .int a1, .int a2, .int a3, .retAddr 0, .retAddr 0]) (S' := [.int (-1 : Int32)]) (σ' := (97, I, J, R)) rfl ?_
        have h := Option.some.inj h
        subst h
        exact az_E.ret (v := some (.int (-1 : Int32))) (σ' := (97, I, J, R)) rfl (hQ _ hR_3_2 hR_3_3)
      · rw [if_neg hc_4] at h
        refine az_E.sn 2 (pc' := 7) (L' := [.int a2, .int (0 : Int32), .int ((I 4 9) - (1 : Int32))]) (S' := [.int ((I 4 9) - (1 : Int32)), .int a2]) (σ' := (97, I, J, R)) rfl ?_
        refine az_E.br (c := ((I 4 9) - (1 : Int32)) < a2) (tt := 14) (ff := 10) (L' := [.int a2, .int (0 : Int32), .int ((I 4 9) - (1 : Int32))]) (S' := []) (σ' := (97, I, J, R)) rfl (fun hc_5 => ?_) (fun hc_5 => ?_)
        · rw [if_pos hc_5] at h
          refine az_E.sn 1 (pc' := 15) (L' := [.int a2, .int (0 : Int32), .int ((I 4 9) - (1 : Int32))]) (S' := [.int (0 : Int32)]) (σ' := (97, I, J, R)) rfl ?_
          refine az_E.ret (v := some (.int (0 : Int32))) (σ' := (97, I, J, R)) rfl ?_
          show az_E az_F ex 5 138 14 [.ref 3, .int a2] [.int (0 : Int32)] (97, I, J, R) _
          refine az_E.ret (v := some (.int (0 : Int32))) (σ' := (97, I, J, R)) rfl ?_
          show az_E az_F ex 6 100 12 [.ref 3, .int a1, .int a2, .int a3, .retAddr 0, .retAddr 0] [.int (0 : Int32)] (97, I, J, R) _
          refine az_E.br (c := (0 : Int32) = 0) (tt := 22) (ff := 15) (L' := [.ref 3, .int a1, .int a2, .int a3, .retAddr 0, .retAddr 0]) (S' := []) (σ' := (97, I, J, R)) rfl (fun _ => ?_) (fun hn => absurd (by decide) hn)
          refine az_E.sn 1 (pc' := 23) (L' := [.ref 3, .int a1, .int a2, .int a3, .retAddr 0, .retAddr 0]) (S' := [.int (-1 : Int32)]) (σ' := (97, I, J, R)) rfl ?_
          have h := Option.some.inj h
          subst h
          exact az_E.ret (v := some (.int (-1 : Int32))) (σ' := (97, I, J, R)) rfl (hQ _ hR_3_2 hR_3_3)
        · rw [if_neg hc_5] at h
          refine az_E.sn 2 (pc' := 15) (L' := [.int a2, .int (0 : Int32), .int ((I 4 9) - (1 : Int32))]) (S' := [.int (1 : Int32)]) (σ' := (97, I, J, R)) rfl ?_
          refine az_E.ret (v := some (.int (1 : Int32))) (σ' := (97, I, J, R)) rfl ?_
          show az_E az_F ex 5 138 14 [.ref 3, .int a2] [.int (1 : Int32)] (97, I, J, R) _
          refine az_E.ret (v := some (.int (1 : Int32))) (σ' := (97, I, J, R)) rfl ?_
          show az_E az_F ex 6 100 12 [.ref 3, .int a1, .int a2, .int a3, .retAddr 0, .retAddr 0] [.int (1 : Int32)] (97, I, J, R) _
          refine az_E.br (c := (1 : Int32) = 0) (tt := 22) (ff := 15) (L' := [.ref 3, .int a1, .int a2, .int a3, .retAddr 0, .retAddr 0]) (S' := []) (σ' := (97, I, J, R)) rfl (fun hn => absurd hn (by decide)) (fun _ => ?_)
          refine az_E.sn 1 (pc' := 16) (L' := [.ref 3, .int a1, .int a2, .int a3, .retAddr 0, .retAddr 0]) (S' := [.int a3]) (σ' := (97, I, J, R)) rfl ?_
          refine az_E.call (d := 5) (k' := 133) (vs := [.int a3]) (pc' := 19) (S' := []) rfl ?_ (fun _ _ hq => hq)
          show az_E az_F ex 5 133 0 [.int a3] [] (97, I, J, R) _
          refine az_E.sn 3 (pc' := 5) (L' := [.int a3]) (S' := [.int (143 : Int32), .int (0 : Int32), .int a3]) (σ' := (97, I, J, R)) rfl ?_
          refine az_E.call (d := 4) (k' := 131) (vs := [.int a3, .int (0 : Int32), .int (143 : Int32)]) (pc' := 8) (S' := []) rfl ?_ (fun _ _ hq => hq)
          show az_E az_F ex 4 131 0 [.int a3, .int (0 : Int32), .int (143 : Int32)] [] (97, I, J, R) _
          refine az_E.sn 2 (pc' := 2) (L' := [.int a3, .int (0 : Int32), .int (143 : Int32)]) (S' := [.int (0 : Int32), .int a3]) (σ' := (97, I, J, R)) rfl ?_
          refine az_E.br (c := a3 < (0 : Int32)) (tt := 14) (ff := 5) (L' := [.int a3, .int (0 : Int32), .int (143 : Int32)]) (S' := []) (σ' := (97, I, J, R)) rfl (fun hc_6 => ?_) (fun hc_6 => ?_)
          · rw [if_pos hc_6] at h
            refine az_E.sn 1 (pc' := 15) (L' := [.int a3, .int (0 : Int32), .int (143 : Int32)]) (S' := [.int (0 : Int32)]) (σ' := (97, I, J, R)) rfl ?_
            refine az_E.ret (v := some (.int (0 : Int32))) (σ' := (97, I, J, R)) rfl ?_
            show az_E az_F ex 5 133 8 [.int a3] [.int (0 : Int32)] (97, I, J, R) _
            refine az_E.ret (v := some (.int (0 : Int32))) (σ' := (97, I, J, R)) rfl ?_
            show az_E az_F ex 6 100 19 [.ref 3, .int a1, .int a2, .int a3, .retAddr 0, .retAddr 0] [.int (0 : Int32)] (97, I, J, R) _
            refine az_E.br (c := (0 : Int32) = 0) (tt := 22) (ff := 24) (L' := [.ref 3, .int a1, .int a2, .int a3, .retAddr 0, .retAddr 0]) (S' := []) (σ' := (97, I, J, R)) rfl (fun _ => ?_) (fun hn => absurd (by decide) hn)
            refine az_E.sn 1 (pc' := 23) (L' := [.ref 3, .int a1, .int a2, .int a3, .retAddr 0, .retAddr 0]) (S' := [.int (-1 : Int32)]) (σ' := (97, I, J, R)) rfl ?_
            have h := Option.some.inj h
            subst h
            exact az_E.ret (v := some (.int (-1 : Int32))) (σ' := (97, I, J, R)) rfl (hQ _ hR_3_2 hR_3_3)
          · rw [if_neg hc_6] at h
            refine az_E.sn 2 (pc' := 7) (L' := [.int a3, .int (0 : Int32), .int (143 : Int32)]) (S' := [.int (143 : Int32), .int a3]) (σ' := (97, I, J, R)) rfl ?_
            refine az_E.br (c := (143 : Int32) < a3) (tt := 14) (ff := 10) (L' := [.int a3, .int (0 : Int32), .int (143 : Int32)]) (S' := []) (σ' := (97, I, J, R)) rfl (fun hc_7 => ?_) (fun hc_7 => ?_)
            · rw [if_pos hc_7] at h
              refine az_E.sn 1 (pc' := 15) (L' := [.int a3, .int (0 : Int32), .int (143 : Int32)]) (S' := [.int (0 : Int32)]) (σ' := (97, I, J, R)) rfl ?_
              refine az_E.ret (v := some (.int (0 : Int32))) (σ' := (97, I, J, R)) rfl ?_
              show az_E az_F ex 5 133 8 [.int a3] [.int (0 : Int32)] (97, I, J, R) _
              refine az_E.ret (v := some (.int (0 : Int32))) (σ' := (97, I, J, R)) rfl ?_
              show az_E az_F ex 6 100 19 [.ref 3, .int a1, .int a2, .int a3, .retAddr 0, .retAddr 0] [.int (0 : Int32)] (97, I, J, R) _
              refine az_E.br (c := (0 : Int32) = 0) (tt := 22) (ff := 24) (L' := [.ref 3, .int a1, .int a2, .int a3, .retAddr 0, .retAddr 0]) (S' := []) (σ' := (97, I, J, R)) rfl (fun _ => ?_) (fun hn => absurd (by decide) hn)
              refine az_E.sn 1 (pc' := 23) (L' := [.ref 3, .int a1, .int a2, .int a3, .retAddr 0, .retAddr 0]) (S' := [.int (-1 : Int32)]) (σ' := (97, I, J, R)) rfl ?_
              have h := Option.some.inj h
              subst h
              exact az_E.ret (v := some (.int (-1 : Int32))) (σ' := (97, I, J, R)) rfl (hQ _ hR_3_2 hR_3_3)
            · rw [if_neg hc_7] at h
              refine az_E.sn 2 (pc' := 15) (L' := [.int a3, .int (0 : Int32), .int (143 : Int32)]) (S' := [.int (1 : Int32)]) (σ' := (97, I, J, R)) rfl ?_
              refine az_E.ret (v := some (.int (1 : Int32))) (σ' := (97, I, J, R)) rfl ?_
              show az_E az_F ex 5 133 8 [.int a3] [.int (1 : Int32)] (97, I, J, R) _
              refine az_E.ret (v := some (.int (1 : Int32))) (σ' := (97, I, J, R)) rfl ?_
              show az_E az_F ex 6 100 19 [.ref 3, .int a1, .int a2, .int a3, .retAddr 0, .retAddr 0] [.int (1 : Int32)] (97, I, J, R) _
              refine az_E.br (c := (1 : Int32) = 0) (tt := 22) (ff := 24) (L' := [.ref 3, .int a1, .int a2, .int a3, .retAddr 0, .retAddr 0]) (S' := []) (σ' := (97, I, J, R)) rfl (fun hn => absurd hn (by decide)) (fun _ => ?_)
              refine az_E.sn 2 (pc' := 26) (L' := [.ref 3, .int a1, .int a2, .int a3, .retAddr 0, .retAddr 0]) (S' := [.int a2, .ref 3]) (σ' := (97, I, J, R)) rfl ?_
              cases hx_9 : rs_X_setPace 16 I a2 with
              | none => rw [hx_9] at h; cases h
              | some I_8 =>
                rw [hx_9] at h
                dsimp only at h
                refine az_E.call (d := 5) (k' := 144) (vs := [.ref 3, .int a2]) (pc' := 29) (S' := []) (Q1 := fun v s => v = none ∧ s = (97, I_8, J, (az_u (az_u R 26 2 (some 16)) 26 3 (some 5)))) rfl (az_E.deep (by omega) (re_X_setPace_16 (J := J) (R := R) hR_3_2 hx_9 ⟨rfl, rfl⟩)) (fun v s hq => ?_)
                obtain ⟨rfl, rfl⟩ := hq
                show az_E az_F ex 6 100 29 [.ref 3, .int a1, .int a2, .int a3, .retAddr 0, .retAddr 0] [] (97, I_8, J, (az_u (az_u R 26 2 (some 16)) 26 3 (some 5))) _
                refine az_E.sn 5 (pc' := 38) (L' := [.ref 3, .int a1, .int a2, .int a3, .retAddr 0, .retAddr 0]) (S' := [.int a1, .ref 26, .ref 32]) (σ' := (97, I_8, J, (az_u (az_u R 26 2 (some 16)) 26 3 (some 5)))) rfl ?_
                refine az_E.call (d := 5) (k' := 135) (vs := [.int a1]) (pc' := 41) (S' := [.ref 26, .ref 32]) rfl ?_ (fun _ _ hq => hq)
                show az_E az_F ex 5 135 0 [.int a1] [] (97, I_8, J, (az_u (az_u R 26 2 (some 16)) 26 3 (some 5))) _
                refine az_E.sn 2 (pc' := 4) (L' := [.int a1]) (S' := [.int (1000 : Int32), .int a1]) (σ' := (97, I_8, J, (az_u (az_u R 26 2 (some 16)) 26 3 (some 5)))) rfl ?_
                have hd_10 : ¬ ((1000 : Int32) = 0) := by decide
                refine az_E.dv (c := (1000 : Int32) = 0) (pc' := 5) (L' := [.int a1]) (S' := [.int (a1 / (1000 : Int32))]) (σ' := (97, I_8, J, (az_u (az_u R 26 2 (some 16)) 26 3 (some 5)))) rfl hd_10 ?_
                refine az_E.ret (v := some (.int (a1 / (1000 : Int32)))) (σ' := (97, I_8, J, (az_u (az_u R 26 2 (some 16)) 26 3 (some 5)))) rfl ?_
                show az_E az_F ex 6 100 41 [.ref 3, .int a1, .int a2, .int a3, .retAddr 0, .retAddr 0] [.int (a1 / (1000 : Int32)), .ref 26, .ref 32] (97, I_8, J, (az_u (az_u R 26 2 (some 16)) 26 3 (some 5))) _
                refine az_E.sn 1 (pc' := 42) (L' := [.ref 3, .int a1, .int a2, .int a3, .retAddr 0, .retAddr 0]) (S' := [.int a1, .int (a1 / (1000 : Int32)), .ref 26, .ref 32]) (σ' := (97, I_8, J, (az_u (az_u R 26 2 (some 16)) 26 3 (some 5)))) rfl ?_
                refine az_E.call (d := 5) (k' := 136) (vs := [.int a1]) (pc' := 45) (S' := [.int (a1 / (1000 : Int32)), .ref 26, .ref 32]) rfl ?_ (fun _ _ hq => hq)
                show az_E az_F ex 5 136 0 [.int a1] [] (97, I_8, J, (az_u (az_u R 26 2 (some 16)) 26 3 (some 5))) _
                refine az_E.sn 2 (pc' := 4) (L' := [.int a1]) (S' := [.int (1000 : Int32), .int a1]) (σ' := (97, I_8, J, (az_u (az_u R 26 2 (some 16)) 26 3 (some 5)))) rfl ?_
                have hd_11 : ¬ ((1000 : Int32) = 0) := by decide
                refine az_E.dv (c := (1000 : Int32) = 0) (pc' := 5) (L' := [.int a1]) (S' := [.int (a1 - a1 / (1000 : Int32) * (1000 : Int32))]) (σ' := (97, I_8, J, (az_u (az_u R 26 2 (some 16)) 26 3 (some 5)))) rfl hd_11 ?_
                refine az_E.ret (v := some (.int (a1 - a1 / (1000 : Int32) * (1000 : Int32)))) (σ' := (97, I_8, J, (az_u (az_u R 26 2 (some 16)) 26 3 (some 5)))) rfl ?_
                show az_E az_F ex 6 100 45 [.ref 3, .int a1, .int a2, .int a3, .retAddr 0, .retAddr 0] [.int (a1 - a1 / (1000 : Int32) * (1000 : Int32)), .int (a1 / (1000 : Int32)), .ref 26, .ref 32] (97, I_8, J, (az_u (az_u R 26 2 (some 16)) 26 3 (some 5))) _
                cases hx_13 : rs_Fi_findWay 26 I_8 (a1 / (1000 : Int32)) (a1 - a1 / (1000 : Int32) * (1000 : Int32)) with
                | none => rw [hx_13] at h; cases h
                | some I_12 =>
                  rw [hx_13] at h
                  dsimp only at h
                  refine az_E.call (d := 5) (k' := 20) (vs := [.ref 32, .ref 26, .int (a1 / (1000 : Int32)), .int (a1 - a1 / (1000 : Int32) * (1000 : Int32))]) (pc' := 48) (S' := []) (Q1 := fun v s => v = none ∧ s = (97, I_12, J, (az_u (az_u R 26 2 (some 16)) 26 3 (some 5)))) rfl (az_E.deep (by omega) (re_Fi_findWay_26_5 (J := J) (R := (az_u (az_u R 26 2 (some 16)) 26 3 (some 5))) rfl hx_13 ⟨rfl, rfl⟩)) (fun v s hq => ?_)
                  obtain ⟨rfl, rfl⟩ := hq
                  show az_E az_F ex 6 100 48 [.ref 3, .int a1, .int a2, .int a3, .retAddr 0, .retAddr 0] [] (97, I_12, J, (az_u (az_u R 26 2 (some 16)) 26 3 (some 5))) _
                  refine az_E.sn 10 (pc' := 66) (L' := [.ref 3, .int a1, .int a2, .int a3, .retAddr 0, .retAddr 0]) (S' := [.ref 34, .int (-1 : Int32), .int (1 : Int32), .int a3, .ref 26, .ref 32]) (σ' := (97, I_12, J, (az_u (az_u R 26 2 (some 16)) 26 3 (some 5)))) rfl ?_
                  cases hx_15 : rs_Fi_spread 26 34 I_12 a3 (1 : Int32) (-1 : Int32) with
                  | none => rw [hx_15] at h; cases h
                  | some I_14 =>
                    rw [hx_15] at h
                    dsimp only at h
                    refine az_E.call (d := 5) (k' := 17) (vs := [.ref 32, .ref 26, .int a3, .int (1 : Int32), .int (-1 : Int32), .ref 34]) (pc' := 69) (S' := []) (Q1 := fun v s => v = none ∧ s = (97, I_14, J, (az_u (az_u R 26 2 (some 16)) 26 3 (some 5)))) rfl (az_E.deep (by omega) (re_Fi_spread_26_34_5 (J := J) (R := (az_u (az_u R 26 2 (some 16)) 26 3 (some 5))) rfl hx_15 ⟨rfl, rfl⟩)) (fun v s hq => ?_)
                    obtain ⟨rfl, rfl⟩ := hq
                    show az_E az_F ex 6 100 69 [.ref 3, .int a1, .int a2, .int a3, .retAddr 0, .retAddr 0] [] (97, I_14, J, (az_u (az_u R 26 2 (some 16)) 26 3 (some 5))) _
                    refine az_E.sn 4 (pc' := 78) (L' := [.ref 3, .int a1, .int a2, .int a3, .int (I_14 32 3), .retAddr 0]) (S' := []) (σ' := (97, I_14, J, (az_u (az_u R 26 2 (some 16)) 26 3 (some 5)))) rfl ?_
                    exact az_E.forget (L := [.ref 3, .retAddr 0, .retAddr 0, .retAddr 0, .int (I_14 32 3), .retAddr 0]) ⟨rfl, trivial, trivial, trivial, rfl, trivial, trivial⟩ (re_X_backFrom_78_16_21 (I := I_14) (J := J) (R := R) hR_3_2 hR_3_3 h hQ)
set_option maxRecDepth 100000 in
set_option maxHeartbeats 4000000 in
theorem re_M_backFrom_121 {ex : az_X} {I : Nat → Nat → Int32} {J : Nat → Nat → Int64} {R : Nat → Nat → Option Nat} {v1 : Int32} {v5 : Int32} {v6 : Int32} {s0 : Int32} {x : ((Int32 × Int32 × Int32) ⊕ (Int32 × (Nat → Nat → Int32)))} (h : rs_M_backFrom_121 I v1 v5 v6 s0 = some x) {Q : Option Value → az_S → Prop} (hQ : Sum.elim (fun s => az_E az_F ex 125 208 92 [.ref 73, .int v1, .retAddr 0, .retAddr 0, .int s.1, .int s.2.1, .int s.2.2] [] (97, I, J, R) Q) (fun x => Q (some (.int x.1)) (97, x.2, J, R)) x) : az_E az_F ex 125 208 121 [.ref 73, .int v1, .retAddr 0, .retAddr 0, .retAddr 0, .int v5, .int v6] [.int s0] (97, I, J, R) Q := by
  unfold rs_M_backFrom_121 at h
  refine az_E.sn 4 (pc' := 129) (L' := [.ref 73, .int v1, .retAddr 0, .retAddr 0, .int s0, .int v5, .int v6]) (S' := [.int (1000 : Int32), .int v1, .int v5]) (σ' := (97, I, J, R)) rfl ?_
  have hd_21 : ¬ ((1000 : Int32) = 0) := by decide
  refine az_E.dv (c := (1000 : Int32) = 0) (pc' := 130) (L' := [.ref 73, .int v1, .retAddr 0, .retAddr 0, .int s0, .int v5, .int v6]) (S' := [.int (v1 - v1 / (1000 : Int32) * (1000 : Int32)), .int v5]) (σ' := (97, I, J, R)) rfl hd_21 ?_
  refine az_E.br (c := v5 = (v1 - v1 / (1000 : Int32) * (1000 : Int32))) (tt := 133) (ff := 137) (L' := [.ref 73, .int v1, .retAddr 0, .retAddr 0, .int s0, .int v5, .int v6]) (S' := []) (σ' := (97, I, J, R)) rfl (fun hc_22 => ?_) (fun hc_22 => ?_)
  · rw [if_pos hc_22] at h
    refine az_E.sn 5 (pc' := 92) (L' := [.ref 73, .int v1, .retAddr 0, .retAddr 0, .int s0, .int (-1 : Int32), .int (v6 + (1 : Int32))]) (S' := []) (σ' := (97, I, J, R)) rfl ?_
    have h := Option.some.inj h
    subst h
    exact az_E.forget (L := [.ref 73, .int v1, .retAddr 0, .retAddr 0, .int s0, .int (-1 : Int32), .int (v6 + (1 : Int32))]) ⟨rfl, rfl, trivial, trivial, rfl, rfl, rfl, trivial⟩ hQ
  · rw [if_neg hc_22] at h
    refine az_E.sn 2 (pc' := 140) (L' := [.ref 73, .int v1, .retAddr 0, .retAddr 0, .int s0, .int v5, .int v6]) (S' := [.int v5, .ref 73]) (σ' := (97, I, J, R)) rfl ?_
    cases hx_24 : rs_M_nextOf I v5 with
    | none => rw [hx_24] at h; cases h
    | some x_23 =>
      rw [hx_24] at h
      dsimp only at h
      refine az_E.call (d := 124) (k' := 199) (vs := [.ref 73, .int v5]) (pc' := 143) (S' := []) (Q1 := fun v s => v = some (.int x_23) ∧ s = (97, I, J, R)) rfl (az_E.deep (by omega) (re_M_nextOf (J := J) (R := R)  hx_24 ⟨rfl, rfl⟩)) (fun v s hq => ?_)
      obtain ⟨rfl, rfl⟩ := hq
      show az_E az_F ex 125 208 143 [.ref 73, .int v1, .retAddr 0, .retAddr 0, .int s0, .int v5, .int v6] [.int x_23] (97, I, J, R) _
      refine az_E.sn 3 (pc' := 92) (L' := [.ref 73, .int v1, .retAddr 0, .retAddr 0, .int s0, .int x_23, .int (v6 + (1 : Int32))]) (S' := []) (σ' := (97, I, J, R)) rfl ?_
      have h := Option.some.inj h
      subst h
      exact az_E.forget (L := [.ref 73, .int v1, .retAddr 0, .retAddr 0, .int s0, .int x_23, .int (v6 + (1 : Int32))]) ⟨rfl, rfl, trivial, trivial, rfl, rfl, rfl, trivial⟩ hQ
set_option maxRecDepth 100000 in
set_option maxHeartbeats 4000000 in
theorem re_M_backFrom_92_b {ex : az_X} {I : Nat → Nat → Int32} {J : Nat → Nat → Int64} {R : Nat → Nat → Option Nat} {v1 : Int32} {v4 : Int32} {v5 : Int32} {v6 : Int32} {x : ((Int32 × Int32 × Int32) ⊕ (Int32 × (Nat → Nat → Int32)))} (h : rs_M_backFrom_92_b I v1 v4 v5 v6 = some x) {Q : Option Value → az_S → Prop} (hQ : Sum.elim (fun s => az_E az_F ex 125 208 92 [.ref 73, .int v1, .retAddr 0, .retAddr 0, .int s.1, .int s.2.1, .int s.2.2] [] (97, I, J, R) Q) (fun x => Q (some (.int x.1)) (97, x.2, J, R)) x) : az_E az_F ex 125 208 92 [.ref 73, .int v1, .retAddr 0, .retAddr 0, .int v4, .int v5, .int v6] [] (97, I, J, R) Q := by
  unfold rs_M_backFrom_92_b at h
  refine az_E.sn 1 (pc' := 94) (L' := [.ref 73, .int v1, .retAddr 0, .retAddr 0, .int v4, .int v5, .int v6]) (S' := [.int v5]) (σ' := (97, I, J, R)) rfl ?_
  refine az_E.br (c := v5 < 0) (tt := 151) (ff := 97) (L' := [.ref 73, .int v1, .retAddr 0, .retAddr 0, .int v4, .int v5, .int v6]) (S' := []) (σ' := (97, I, J, R)) rfl (fun hc_17 => ?_) (fun hc_17 => ?_)
  · rw [if_pos hc_17] at h
    refine az_E.sn 1 (pc' := 153) (L' := [.ref 73, .int v1, .retAddr 0, .retAddr 0, .int v4, .int v5, .int v6]) (S' := [.int v4]) (σ' := (97, I, J, R)) rfl ?_
    have h := Option.some.inj h
    subst h
    exact az_E.ret (v := some (.int v4)) (σ' := (97, I, J, R)) rfl hQ
  · rw [if_neg hc_17] at h
    refine az_E.sn 3 (pc' := 103) (L' := [.ref 73, .int v1, .retAddr 0, .retAddr 0, .int v4, .int v5, .int v6]) (S' := [.int v5, .ref 87]) (σ' := (97, I, J, R)) rfl ?_
    by_cases hc_18 : v5 < 0 ∨ 144 ≤ v5.toNatClampNeg
    · rw [if_pos hc_18] at h; cases h
    · rw [if_neg hc_18] at h
      refine az_E.oi (o := az_ai az_F ex (97, I, J, R) 87 v5) (pc' := 104) (L' := [.ref 73, .int v1, .retAddr 0, .retAddr 0, .int v4, .int v5, .int v6]) (S' := []) (σ' := (97, I, J, R)) (x := (I 87 v5.toNatClampNeg)) rfl (if_neg hc_18) ?_
      refine az_E.sn 3 (pc' := 110) (L' := [.ref 73, .int v1, .retAddr 0, .retAddr 0, .int v4, .int v5, .int v6]) (S' := [.int v5, .ref 84, .int (I 87 v5.toNatClampNeg)]) (σ' := (97, I, J, R)) rfl ?_
      by_cases hc_19 : v5 < 0 ∨ 144 ≤ v5.toNatClampNeg
      · rw [if_pos hc_19] at h; cases h
      · rw [if_neg hc_19] at h
        refine az_E.oi (o := az_ai az_F ex (97, I, J, R) 84 v5) (pc' := 111) (L' := [.ref 73, .int v1, .retAddr 0, .retAddr 0, .int v4, .int v5, .int v6]) (S' := [.int (I 87 v5.toNatClampNeg)]) (σ' := (97, I, J, R)) (x := (I 84 v5.toNatClampNeg)) rfl (if_neg hc_19) ?_
        refine az_E.br (c := (I 84 v5.toNatClampNeg) < (I 87 v5.toNatClampNeg)) (tt := 119) (ff := 114) (L' := [.ref 73, .int v1, .retAddr 0, .retAddr 0, .int v4, .int v5, .int v6]) (S' := []) (σ' := (97, I, J, R)) rfl (fun hc_20 => ?_) (fun hc_20 => ?_)
        · rw [if_pos hc_20] at h
          refine az_E.sn 1 (pc' := 121) (L' := [.ref 73, .int v1, .retAddr 0, .retAddr 0, .int v4, .int v5, .int v6]) (S' := [.int v4]) (σ' := (97, I, J, R)) rfl ?_
          exact az_E.forget (L := [.ref 73, .int v1, .retAddr 0, .retAddr 0, .retAddr 0, .int v5, .int v6]) ⟨rfl, rfl, trivial, trivial, trivial, rfl, rfl, trivial⟩ (re_M_backFrom_121 (I := I) (J := J) (R := R)  h hQ)
        · rw [if_neg hc_20] at h
          refine az_E.sn 2 (pc' := 121) (L' := [.ref 73, .int v1, .retAddr 0, .retAddr 0, .int v4, .int v5, .int v6]) (S' := [.int v6]) (σ' := (97, I, J, R)) rfl ?_
          exact az_E.forget (L := [.ref 73, .int v1, .retAddr 0, .retAddr 0, .retAddr 0, .int v5, .int v6]) ⟨rfl, rfl, trivial, trivial, trivial, rfl, rfl, trivial⟩ (re_M_backFrom_121 (I := I) (J := J) (R := R)  h hQ)
set_option maxRecDepth 100000 in
set_option maxHeartbeats 4000000 in
theorem re_M_backFrom_92 {ex : az_X} {I : Nat → Nat → Int32} {J : Nat → Nat → Int64} {R : Nat → Nat → Option Nat} {v1 : Int32} {v4 : Int32} {v5 : Int32} {v6 : Int32} {x : Int32 × (Nat → Nat → Int32)} (h : rs_M_backFrom_92 I v1 v4 v5 v6 = some x) {Q : Option Value → az_S → Prop} (hQ : Q (some (.int x.1)) (97, x.2, J, R)) : az_E az_F ex 125 208 92 [.ref 73, .int v1, .retAddr 0, .retAddr 0, .int v4, .int v5, .int v6] [] (97, I, J, R) Q := by
  unfold rs_M_backFrom_92 at h
  refine az_lp_E (G := fun s => az_E az_F ex 125 208 92 [.ref 73, .int v1, .retAddr 0, .retAddr 0, .int s.1, .int s.2.1, .int s.2.2] [] (97, I, J, R) Q) (H := fun x => Q (some (.int x.1)) (97, x.2, J, R)) (fun s o hb ho => ?_) _ _ _ h hQ
  exact re_M_backFrom_92_b  hb ho
set_option maxRecDepth 100000 in
set_option maxHeartbeats 4000000 in
theorem re_M_backFrom_68 {ex : az_X} {I : Nat → Nat → Int32} {J : Nat → Nat → Int64} {R : Nat → Nat → Option Nat} {v1 : Int32} {x : Int32 × (Nat → Nat → Int32)} (h : rs_M_backFrom_68 I v1 = some x) {Q : Option Value → az_S → Prop} (hQ : Q (some (.int x.1)) (97, x.2, J, R)) : az_E az_F ex 125 208 68 [.ref 73, .int v1, .retAddr 0, .retAddr 0, .retAddr 0, .retAddr 0, .retAddr 0] [] (97, I, J, R) Q := by
  unfold rs_M_backFrom_68 at h
  refine az_E.sn 3 (pc' := 73) (L' := [.ref 73, .int v1, .retAddr 0, .retAddr 0, .retAddr 0, .retAddr 0, .retAddr 0]) (S' := [.int (1000 : Int32), .int v1, .ref 73]) (σ' := (97, I, J, R)) rfl ?_
  have hd_13 : ¬ ((1000 : Int32) = 0) := by decide
  refine az_E.dv (c := (1000 : Int32) = 0) (pc' := 74) (L' := [.ref 73, .int v1, .retAddr 0, .retAddr 0, .retAddr 0, .retAddr 0, .retAddr 0]) (S' := [.int (v1 - v1 / (1000 : Int32) * (1000 : Int32)), .ref 73]) (σ' := (97, I, J, R)) rfl hd_13 ?_
  refine az_E.sn 1 (pc' := 75) (L' := [.ref 73, .int v1, .retAddr 0, .retAddr 0, .retAddr 0, .retAddr 0, .retAddr 0]) (S' := [.int (0 : Int32), .int (v1 - v1 / (1000 : Int32) * (1000 : Int32)), .ref 73]) (σ' := (97, I, J, R)) rfl ?_
  cases hx_15 : rs_M_asksMinutes I (v1 - v1 / (1000 : Int32) * (1000 : Int32)) (0 : Int32) with
  | none => rw [hx_15] at h; cases h
  | some I_14 =>
    rw [hx_15] at h
    dsimp only at h
    refine az_E.call (d := 124) (k' := 194) (vs := [.ref 73, .int (v1 - v1 / (1000 : Int32) * (1000 : Int32)), .int (0 : Int32)]) (pc' := 78) (S' := []) (Q1 := fun v s => v = none ∧ s = (97, I_14, J, R)) rfl (az_E.deep (by omega) (re_M_asksMinutes (J := J) (R := R)  hx_15 ⟨rfl, rfl⟩)) (fun v s hq => ?_)
    obtain ⟨rfl, rfl⟩ := hq
    show az_E az_F ex 125 208 78 [.ref 73, .int v1, .retAddr 0, .retAddr 0, .retAddr 0, .retAddr 0, .retAddr 0] [] (97, I_14, J, R) _
    refine az_E.sn 4 (pc' := 86) (L' := [.ref 73, .int v1, .retAddr 0, .retAddr 0, .int (-2 : Int32), .retAddr 0, .retAddr 0]) (S' := [.int (1000 : Int32), .int v1]) (σ' := (97, I_14, J, R)) rfl ?_
    have hd_16 : ¬ ((1000 : Int32) = 0) := by decide
    refine az_E.dv (c := (1000 : Int32) = 0) (pc' := 87) (L' := [.ref 73, .int v1, .retAddr 0, .retAddr 0, .int (-2 : Int32), .retAddr 0, .retAddr 0]) (S' := [.int (v1 / (1000 : Int32))]) (σ' := (97, I_14, J, R)) rfl hd_16 ?_
    refine az_E.sn 3 (pc' := 92) (L' := [.ref 73, .int v1, .retAddr 0, .retAddr 0, .int (-2 : Int32), .int (v1 / (1000 : Int32)), .int (0 : Int32)]) (S' := []) (σ' := (97, I_14, J, R)) rfl ?_
    exact az_E.forget (L := [.ref 73, .int v1, .retAddr 0, .retAddr 0, .int (-2 : Int32), .int (v1 / (1000 : Int32)), .int (0 : Int32)]) ⟨rfl, rfl, trivial, trivial, rfl, rfl, rfl, trivial⟩ (re_M_backFrom_92 (I := I_14) (J := J) (R := R)  h hQ)
set_option maxRecDepth 100000 in
set_option maxHeartbeats 4000000 in
theorem re_M_backFrom_40_b {ex : az_X} {I : Nat → Nat → Int32} {J : Nat → Nat → Int64} {R : Nat → Nat → Option Nat} {v1 : Int32} {v4 : Int32} {x : ((Int32 × (Nat → Nat → Int32)) ⊕ (Int32 × (Nat → Nat → Int32)))} (h : rs_M_backFrom_40_b v1 v4 I = some x) {Q : Option Value → az_S → Prop} (hQ : Sum.elim (fun s => az_E az_F ex 125 208 40 [.ref 73, .int v1, .retAddr 0, .retAddr 0, .int s.1, .retAddr 0, .retAddr 0] [] (97, s.2, J, R) Q) (fun x => Q (some (.int x.1)) (97, x.2, J, R)) x) : az_E az_F ex 125 208 40 [.ref 73, .int v1, .retAddr 0, .retAddr 0, .int v4, .retAddr 0, .retAddr 0] [] (97, I, J, R) Q := by
  unfold rs_M_backFrom_40_b at h
  refine az_E.sn 2 (pc' := 45) (L' := [.ref 73, .int v1, .retAddr 0, .retAddr 0, .int v4, .retAddr 0, .retAddr 0]) (S' := [.int (144 : Int32), .int v4]) (σ' := (97, I, J, R)) rfl ?_
  refine az_E.br (c := (144 : Int32) ≤ v4) (tt := 68) (ff := 48) (L' := [.ref 73, .int v1, .retAddr 0, .retAddr 0, .int v4, .retAddr 0, .retAddr 0]) (S' := []) (σ' := (97, I, J, R)) rfl (fun hc_12 => ?_) (fun hc_12 => ?_)
  · rw [if_pos hc_12] at h
    obtain ⟨x, hx, rfl⟩ := Option.map_eq_some_iff.mp h
    exact az_E.forget (L := [.ref 73, .int v1, .retAddr 0, .retAddr 0, .retAddr 0, .retAddr 0, .retAddr 0]) ⟨rfl, rfl, trivial, trivial, trivial, trivial, trivial, trivial⟩ (re_M_backFrom_68 (I := I) (J := J) (R := R)  hx hQ)
  · rw [if_neg hc_12] at h
    refine az_E.sn 6 (pc' := 60) (L' := [.ref 73, .int v1, .retAddr 0, .retAddr 0, .int v4, .retAddr 0, .retAddr 0]) (S' := [.int v4, .ref 84, .int v4, .ref 87]) (σ' := (97, I, J, R)) rfl ?_
    by_cases hc_25 : v4 < 0 ∨ 144 ≤ v4.toNatClampNeg
    · rw [if_pos hc_25] at h; cases h
    · rw [if_neg hc_25] at h
      refine az_E.oi (o := az_ai az_F ex (97, I, J, R) 84 v4) (pc' := 61) (L' := [.ref 73, .int v1, .retAddr 0, .retAddr 0, .int v4, .retAddr 0, .retAddr 0]) (S' := [.int v4, .ref 87]) (σ' := (97, I, J, R)) (x := (I 84 v4.toNatClampNeg)) rfl (if_neg hc_25) ?_
      by_cases hc_26 : v4 < 0 ∨ 144 ≤ v4.toNatClampNeg
      · rw [if_pos hc_26] at h; cases h
      · rw [if_neg hc_26] at h
        refine az_E.o (o := az_si az_F (97, I, J, R) 87 v4 (I 84 v4.toNatClampNeg)) (pc' := 62) (L' := [.ref 73, .int v1, .retAddr 0, .retAddr 0, .int v4, .retAddr 0, .retAddr 0]) (S' := []) (x := (97, (az_u I 87 v4.toNatClampNeg (I 84 v4.toNatClampNeg)), J, R)) rfl (if_neg hc_26) ?_
        refine az_E.sn 2 (pc' := 40) (L' := [.ref 73, .int v1, .retAddr 0, .retAddr 0, .int (v4 + (1 : Int32)), .retAddr 0, .retAddr 0]) (S' := []) (σ' := (97, (az_u I 87 v4.toNatClampNeg (I 84 v4.toNatClampNeg)), J, R)) rfl ?_
        have h := Option.some.inj h
        subst h
        exact az_E.forget (L := [.ref 73, .int v1, .retAddr 0, .retAddr 0, .int (v4 + (1 : Int32)), .retAddr 0, .retAddr 0]) ⟨rfl, rfl, trivial, trivial, rfl, trivial, trivial, trivial⟩ hQ
set_option maxRecDepth 100000 in
set_option maxHeartbeats 4000000 in
theorem re_M_backFrom_40 {ex : az_X} {I : Nat → Nat → Int32} {J : Nat → Nat → Int64} {R : Nat → Nat → Option Nat} {v1 : Int32} {v4 : Int32} {x : Int32 × (Nat → Nat → Int32)} (h : rs_M_backFrom_40 I v1 v4 = some x) {Q : Option Value → az_S → Prop} (hQ : Q (some (.int x.1)) (97, x.2, J, R)) : az_E az_F ex 125 208 40 [.ref 73, .int v1, .retAddr 0, .retAddr 0, .int v4, .retAddr 0, .retAddr 0] [] (97, I, J, R) Q := by
  unfold rs_M_backFrom_40 at h
  refine az_lp_E (G := fun s => az_E az_F ex 125 208 40 [.ref 73, .int v1, .retAddr 0, .retAddr 0, .int s.1, .retAddr 0, .retAddr 0] [] (97, s.2, J, R) Q) (H := fun x => Q (some (.int x.1)) (97, x.2, J, R)) (fun s o hb ho => ?_) _ _ _ h hQ
  exact re_M_backFrom_40_b  hb ho
set_option maxRecDepth 100000 in
set_option maxHeartbeats 4000000 in
theorem re_M_backFrom {ex : az_X} {I : Nat → Nat → Int32} {J : Nat → Nat → Int64} {R : Nat → Nat → Option Nat} {a1 : Int32} {a2 : Int32} {a3 : Int32} {o : Int32 × (Nat → Nat → Int32)} (h : rs_M_backFrom I a1 a2 a3 = some o) {Q : Option Value → az_S → Prop} (hQ : Q (some (.int o.1)) (97, o.2, J, R)) : az_E az_F ex 125 208 0 [.ref 73, .int a1, .int a2, .int a3, .retAddr 0, .retAddr 0, .retAddr 0] [] (97, I, J, R) Q := by
  unfold rs_M_backFrom at h
  refine az_E.sn 1 (pc' := 1) (L' := [.ref 73, .int a1, .int a2, .int a3, .retAddr 0, .retAddr 0, .retAddr 0]) (S' := [.int a1]) (σ' := (97, I, J, R)) rfl ?_
  cases hx_2 : rs_M_isFt a1 with
  | none => rw [hx_2] at h; cases h
  | some x_1 =>
    rw [hx_2] at h
    dsimp only at h
    refine az_E.call (d := 124) (k' := 163) (vs := [.int a1]) (pc' := 4) (S' := []) (Q1 := fun v s => v = some (.int x_1) ∧ s = (97, I, J, R)) rfl (az_E.deep (by omega) (re_M_isFt (J := J) (R := R)  hx_2 ⟨rfl, rfl⟩)) (fun v s hq => ?_)
    obtain ⟨rfl, rfl⟩ := hq
    show az_E az_F ex 125 208 4 [.ref 73, .int a1, .int a2, .int a3, .retAddr 0, .retAddr 0, .retAddr 0] [.int x_1] (97, I, J, R) _
    refine az_E.br (c := x_1 = 0) (tt := 24) (ff := 7) (L' := [.ref 73, .int a1, .int a2, .int a3, .retAddr 0, .retAddr 0, .retAddr 0]) (S' := []) (σ' := (97, I, J, R)) rfl (fun hc_3 => ?_) (fun hc_3 => ?_)
    · rw [if_pos hc_3] at h
      refine az_E.sn 1 (pc' := 25) (L' := [.ref 73, .int a1, .int a2, .int a3, .retAddr 0, .retAddr 0, .retAddr 0]) (S' := [.int (-1 : Int32)]) (σ' := (97, I, J, R)) rfl ?_
      have h := Option.some.inj h
      subst h
      exact az_E.ret (v := some (.int (-1 : Int32))) (σ' := (97, I, J, R)) rfl hQ
    · rw [if_neg hc_3] at h
      refine az_E.sn 3 (pc' := 10) (L' := [.ref 73, .int a1, .int a2, .int a3, .retAddr 0, .retAddr 0, .retAddr 0]) (S' := [.long a2.toInt64, .ref 73]) (σ' := (97, I, J, R)) rfl ?_
      refine az_E.call (d := 124) (k' := 162) (vs := [.ref 73, .long a2.toInt64]) (pc' := 13) (S' := []) rfl ?_ (fun _ _ hq => hq)
      show az_E az_F ex 124 162 0 [.ref 73, .long a2.toInt64, .retAddr 0] [] (97, I, J, R) _
      refine az_E.sn 7 (pc' := 9) (L' := [.ref 73, .long a2.toInt64, .retAddr 0]) (S' := [.long ((I 73 7) - (1 : Int32)).toInt64, .long (0 : Int64), .long a2.toInt64]) (σ' := (97, I, J, R)) rfl ?_
      refine az_E.call (d := 123) (k' := 154) (vs := [.long a2.toInt64, .long (0 : Int64), .long ((I 73 7) - (1 : Int32)).toInt64]) (pc' := 12) (S' := []) rfl ?_ (fun _ _ hq => hq)
      show az_E az_F ex 123 154 0 [.long a2.toInt64, .retAddr 0, .long (0 : Int64), .retAddr 0, .long ((I 73 7) - (1 : Int32)).toInt64, .retAddr 0] [] (97, I, J, R) _
      refine az_E.sn 3 (pc' := 3) (L' := [.long a2.toInt64, .retAddr 0, .long (0 : Int64), .retAddr 0, .long ((I 73 7) - (1 : Int32)).toInt64, .retAddr 0]) (S' := [.int (lg_cmp a2.toInt64 (0 : Int64))]) (σ' := (97, I, J, R)) rfl ?_
      refine az_E.br (c := (lg_cmp a2.toInt64 (0 : Int64)) < 0) (tt := 17) (ff := 6) (L' := [.long a2.toInt64, .retAddr 0, .long (0 : Int64), .retAddr 0, .long ((I 73 7) - (1 : Int32)).toInt64, .retAddr 0]) (S' := []) (σ' := (97, I, J, R)) rfl (fun hc_4 => ?_) (fun hc_4 => ?_)
      · rw [if_pos hc_4] at h
        refine az_E.sn 1 (pc' := 18) (L' := [.long a2.toInt64, .retAddr 0, .long (0 : Int64), .retAddr 0, .long ((I 73 7) - (1 : Int32)).toInt64, .retAddr 0]) (S' := [.int (0 : Int32)]) (σ' := (97, I, J, R)) rfl ?_
        refine az_E.ret (v := some (.int (0 : Int32))) (σ' := (97, I, J, R)) rfl ?_
        show az_E az_F ex 124 162 12 [.ref 73, .long a2.toInt64, .retAddr 0] [.int (0 : Int32)] (97, I, J, R) _
        refine az_E.ret (v := some (.int (0 : Int32))) (σ' := (97, I, J, R)) rfl ?_
        show az_E az_F ex 125 208 13 [.ref 73, .int a1, .int a2, .int a3, .retAddr 0, .retAddr 0, .retAddr 0] [.int (0 : Int32)] (97, I, J, R) _
        refine az_E.br (c := (0 : Int32) = 0) (tt := 24) (ff := 16) (L' := [.ref 73, .int a1, .int a2, .int a3, .retAddr 0, .retAddr 0, .retAddr 0]) (S' := []) (σ' := (97, I, J, R)) rfl (fun _ => ?_) (fun hn => absurd (by decide) hn)
        refine az_E.sn 1 (pc' := 25) (L' := [.ref 73, .int a1, .int a2, .int a3, .retAddr 0, .retAddr 0, .retAddr 0]) (S' := [.int (-1 : Int32)]) (σ' := (97, I, J, R)) rfl ?_
        have h := Option.some.inj h
        subst h
        exact az_E.ret (v := some (.int (-1 : Int32))) (σ' := (97, I, J, R)) rfl hQ
      · rw [if_neg hc_4] at h
        refine az_E.sn 3 (pc' := 10) (L' := [.long a2.toInt64, .retAddr 0, .long (0 : Int64), .retAddr 0, .long ((I 73 7) - (1 : Int32)).toInt64, .retAddr 0]) (S' := [.int (lg_cmp a2.toInt64 ((I 73 7) - (1 : Int32)).toInt64)]) (σ' := (97, I, J, R)) rfl ?_
        refine az_E.br (c := 0 < (lg_cmp a2.toInt64 ((I 73 7) - (1 : Int32)).toInt64)) (tt := 17) (ff := 13) (L' := [.long a2.toInt64, .retAddr 0, .long (0 : Int64), .retAddr 0, .long ((I 73 7) - (1 : Int32)).toInt64, .retAddr 0]) (S' := []) (σ' := (97, I, J, R)) rfl (fun hc_5 => ?_) (fun hc_5 => ?_)
        · rw [if_pos hc_5] at h
          refine az_E.sn 1 (pc' := 18) (L' := [.long a2.toInt64, .retAddr 0, .long (0 : Int64), .retAddr 0, .long ((I 73 7) - (1 : Int32)).toInt64, .retAddr 0]) (S' := [.int (0 : Int32)]) (σ' := (97, I, J, R)) rfl ?_
          refine az_E.ret (v := some (.int (0 : Int32))) (σ' := (97, I, J, R)) rfl ?_
          show az_E az_F ex 124 162 12 [.ref 73, .long a2.toInt64, .retAddr 0] [.int (0 : Int32)] (97, I, J, R) _
          refine az_E.ret (v := some (.int (0 : Int32))) (σ' := (97, I, J, R)) rfl ?_
          show az_E az_F ex 125 208 13 [.ref 73, .int a1, .int a2, .int a3, .retAddr 0, .retAddr 0, .retAddr 0] [.int (0 : Int32)] (97, I, J, R) _
          refine az_E.br (c := (0 : Int32) = 0) (tt := 24) (ff := 16) (L' := [.ref 73, .int a1, .int a2, .int a3, .retAddr 0, .retAddr 0, .retAddr 0]) (S' := []) (σ' := (97, I, J, R)) rfl (fun _ => ?_) (fun hn => absurd (by decide) hn)
          refine az_E.sn 1 (pc' := 25) (L' := [.ref 73, .int a1, .int a2, .int a3, .retAddr 0, .retAddr 0, .retAddr 0]) (S' := [.int (-1 : Int32)]) (σ' := (97, I, J, R)) rfl ?_
          have h := Option.some.inj h
          subst h
          exact az_E.ret (v := some (.int (-1 : Int32))) (σ' := (97, I, J, R)) rfl hQ
        · rw [if_neg hc_5] at h
          refine az_E.sn 2 (pc' := 18) (L' := [.long a2.toInt64, .retAddr 0, .long (0 : Int64), .retAddr 0, .long ((I 73 7) - (1 : Int32)).toInt64, .retAddr 0]) (S' := [.int (1 : Int32)]) (σ' := (97, I, J, R)) rfl ?_
          refine az_E.ret (v := some (.int (1 : Int32))) (σ' := (97, I, J, R)) rfl ?_
          show az_E az_F ex 124 162 12 [.ref 73, .long a2.toInt64, .retAddr 0] [.int (1 : Int32)] (97, I, J, R) _
          refine az_E.ret (v := some (.int (1 : Int32))) (σ' := (97, I, J, R)) rfl ?_
          show az_E az_F ex 125 208 13 [.ref 73, .int a1, .int a2, .int a3, .retAddr 0, .retAddr 0, .retAddr 0] [.int (1 : Int32)] (97, I, J, R) _
          refine az_E.br (c := (1 : Int32) = 0) (tt := 24) (ff := 16) (L' := [.ref 73, .int a1, .int a2, .int a3, .retAddr 0, .retAddr 0, .retAddr 0]) (S' := []) (σ' := (97, I, J, R)) rfl (fun hn => absurd hn (by decide)) (fun _ => ?_)
          refine az_E.sn 2 (pc' := 18) (L' := [.ref 73, .int a1, .int a2, .int a3, .retAddr 0, .retAddr 0, .retAddr 0]) (S' := [.long a3.toInt64]) (σ' := (97, I, J, R)) rfl ?_
          refine az_E.call (d := 124) (k' := 160) (vs := [.long a3.toInt64]) (pc' := 21) (S' := []) rfl ?_ (fun _ _ hq => hq)
          show az_E az_F ex 124 160 0 [.long a3.toInt64, .retAddr 0] [] (97, I, J, R) _
          refine az_E.sn 3 (pc' := 5) (L' := [.long a3.toInt64, .retAddr 0]) (S' := [.long (143 : Int64), .long (0 : Int64), .long a3.toInt64]) (σ' := (97, I, J, R)) rfl ?_
          refine az_E.call (d := 123) (k' := 154) (vs := [.long a3.toInt64, .long (0 : Int64), .long (143 : Int64)]) (pc' := 8) (S' := []) rfl ?_ (fun _ _ hq => hq)
          show az_E az_F ex 123 154 0 [.long a3.toInt64, .retAddr 0, .long (0 : Int64), .retAddr 0, .long (143 : Int64), .retAddr 0] [] (97, I, J, R) _
          refine az_E.sn 3 (pc' := 3) (L' := [.long a3.toInt64, .retAddr 0, .long (0 : Int64), .retAddr 0, .long (143 : Int64), .retAddr 0]) (S' := [.int (lg_cmp a3.toInt64 (0 : Int64))]) (σ' := (97, I, J, R)) rfl ?_
          refine az_E.br (c := (lg_cmp a3.toInt64 (0 : Int64)) < 0) (tt := 17) (ff := 6) (L' := [.long a3.toInt64, .retAddr 0, .long (0 : Int64), .retAddr 0, .long (143 : Int64), .retAddr 0]) (S' := []) (σ' := (97, I, J, R)) rfl (fun hc_6 => ?_) (fun hc_6 => ?_)
          · rw [if_pos hc_6] at h
            refine az_E.sn 1 (pc' := 18) (L' := [.long a3.toInt64, .retAddr 0, .long (0 : Int64), .retAddr 0, .long (143 : Int64), .retAddr 0]) (S' := [.int (0 : Int32)]) (σ' := (97, I, J, R)) rfl ?_
            refine az_E.ret (v := some (.int (0 : Int32))) (σ' := (97, I, J, R)) rfl ?_
            show az_E az_F ex 124 160 8 [.long a3.toInt64, .retAddr 0] [.int (0 : Int32)] (97, I, J, R) _
            refine az_E.ret (v := some (.int (0 : Int32))) (σ' := (97, I, J, R)) rfl ?_
            show az_E az_F ex 125 208 21 [.ref 73, .int a1, .int a2, .int a3, .retAddr 0, .retAddr 0, .retAddr 0] [.int (0 : Int32)] (97, I, J, R) _
            refine az_E.br (c := (0 : Int32) = 0) (tt := 24) (ff := 26) (L' := [.ref 73, .int a1, .int a2, .int a3, .retAddr 0, .retAddr 0, .retAddr 0]) (S' := []) (σ' := (97, I, J, R)) rfl (fun _ => ?_) (fun hn => absurd (by decide) hn)
            refine az_E.sn 1 (pc' := 25) (L' := [.ref 73, .int a1, .int a2, .int a3, .retAddr 0, .retAddr 0, .retAddr 0]) (S' := [.int (-1 : Int32)]) (σ' := (97, I, J, R)) rfl ?_
            have h := Option.some.inj h
            subst h
            exact az_E.ret (v := some (.int (-1 : Int32))) (σ' := (97, I, J, R)) rfl hQ
          · rw [if_neg hc_6] at h
            refine az_E.sn 3 (pc' := 10) (L' := [.long a3.toInt64, .retAddr 0, .long (0 : Int64), .retAddr 0, .long (143 : Int64), .retAddr 0]) (S' := [.int (lg_cmp a3.toInt64 (143 : Int64))]) (σ' := (97, I, J, R)) rfl ?_
            refine az_E.br (c := 0 < (lg_cmp a3.toInt64 (143 : Int64))) (tt := 17) (ff := 13) (L' := [.long a3.toInt64, .retAddr 0, .long (0 : Int64), .retAddr 0, .long (143 : Int64), .retAddr 0]) (S' := []) (σ' := (97, I, J, R)) rfl (fun hc_7 => ?_) (fun hc_7 => ?_)
            · rw [if_pos hc_7] at h
              refine az_E.sn 1 (pc' := 18) (L' := [.long a3.toInt64, .retAddr 0, .long (0 : Int64), .retAddr 0, .long (143 : Int64), .retAddr 0]) (S' := [.int (0 : Int32)]) (σ' := (97, I, J, R)) rfl ?_
              refine az_E.ret (v := some (.int (0 : Int32))) (σ' := (97, I, J, R)) rfl ?_
              show az_E az_F ex 124 160 8 [.long a3.toInt64, .retAddr 0] [.int (0 : Int32)] (97, I, J, R) _
              refine az_E.ret (v := some (.int (0 : Int32))) (σ' := (97, I, J, R)) rfl ?_
              show az_E az_F ex 125 208 21 [.ref 73, .int a1, .int a2, .int a3, .retAddr 0, .retAddr 0, .retAddr 0] [.int (0 : Int32)] (97, I, J, R) _
              refine az_E.br (c := (0 : Int32) = 0) (tt := 24) (ff := 26) (L' := [.ref 73, .int a1, .int a2, .int a3, .retAddr 0, .retAddr 0, .retAddr 0]) (S' := []) (σ' := (97, I, J, R)) rfl (fun _ => ?_) (fun hn => absurd (by decide) hn)
              refine az_E.sn 1 (pc' := 25) (L' := [.ref 73, .int a1, .int a2, .int a3, .retAddr 0, .retAddr 0, .retAddr 0]) (S' := [.int (-1 : Int32)]) (σ' := (97, I, J, R)) rfl ?_
              have h := Option.some.inj h
              subst h
              exact az_E.ret (v := some (.int (-1 : Int32))) (σ' := (97, I, J, R)) rfl hQ
            · rw [if_neg hc_7] at h
              refine az_E.sn 2 (pc' := 18) (L' := [.long a3.toInt64, .retAddr 0, .long (0 : Int64), .retAddr 0, .long (143 : Int64), .retAddr 0]) (S' := [.int (1 : Int32)]) (σ' := (97, I, J, R)) rfl ?_
              refine az_E.ret (v := some (.int (1 : Int32))) (σ' := (97, I, J, R)) rfl ?_
              show az_E az_F ex 124 160 8 [.long a3.toInt64, .retAddr 0] [.int (1 : Int32)] (97, I, J, R) _
              refine az_E.ret (v := some (.int (1 : Int32))) (σ' := (97, I, J, R)) rfl ?_
              show az_E az_F ex 125 208 21 [.ref 73, .int a1, .int a2, .int a3, .retAddr 0, .retAddr 0, .retAddr 0] [.int (1 : Int32)] (97, I, J, R) _
              refine az_E.br (c := (1 : Int32) = 0) (tt := 24) (ff := 26) (L' := [.ref 73, .int a1, .int a2, .int a3, .retAddr 0, .retAddr 0, .retAddr 0]) (S' := []) (σ' := (97, I, J, R)) rfl (fun hn => absurd hn (by decide)) (fun _ => ?_)
              refine az_E.sn 2 (pc' := 28) (L' := [.ref 73, .int a1, .int a2, .int a3, .retAddr 0, .retAddr 0, .retAddr 0]) (S' := [.int a2, .ref 73]) (σ' := (97, I, J, R)) rfl ?_
              cases hx_9 : rs_M_asksFor I a2 with
              | none => rw [hx_9] at h; cases h
              | some I_8 =>
                rw [hx_9] at h
                dsimp only at h
                refine az_E.call (d := 124) (k' := 190) (vs := [.ref 73, .int a2]) (pc' := 31) (S' := []) (Q1 := fun v s => v = none ∧ s = (97, I_8, J, R)) rfl (az_E.deep (by omega) (re_M_asksFor (J := J) (R := R)  hx_9 ⟨rfl, rfl⟩)) (fun v s hq => ?_)
                obtain ⟨rfl, rfl⟩ := hq
                show az_E az_F ex 125 208 31 [.ref 73, .int a1, .int a2, .int a3, .retAddr 0, .retAddr 0, .retAddr 0] [] (97, I_8, J, R) _
                refine az_E.sn 3 (pc' := 34) (L' := [.ref 73, .int a1, .int a2, .int a3, .retAddr 0, .retAddr 0, .retAddr 0]) (S' := [.int (0 : Int32), .int a3, .ref 73]) (σ' := (97, I_8, J, R)) rfl ?_
                cases hx_11 : rs_M_asksMinutes I_8 a3 (0 : Int32) with
                | none => rw [hx_11] at h; cases h
                | some I_10 =>
                  rw [hx_11] at h
                  dsimp only at h
                  refine az_E.call (d := 124) (k' := 194) (vs := [.ref 73, .int a3, .int (0 : Int32)]) (pc' := 37) (S' := []) (Q1 := fun v s => v = none ∧ s = (97, I_10, J, R)) rfl (az_E.deep (by omega) (re_M_asksMinutes (J := J) (R := R)  hx_11 ⟨rfl, rfl⟩)) (fun v s hq => ?_)
                  obtain ⟨rfl, rfl⟩ := hq
                  show az_E az_F ex 125 208 37 [.ref 73, .int a1, .int a2, .int a3, .retAddr 0, .retAddr 0, .retAddr 0] [] (97, I_10, J, R) _
                  refine az_E.sn 2 (pc' := 40) (L' := [.ref 73, .int a1, .int a2, .int a3, .int (0 : Int32), .retAddr 0, .retAddr 0]) (S' := []) (σ' := (97, I_10, J, R)) rfl ?_
                  exact az_E.forget (L := [.ref 73, .int a1, .retAddr 0, .retAddr 0, .int (0 : Int32), .retAddr 0, .retAddr 0]) ⟨rfl, rfl, trivial, trivial, rfl, trivial, trivial, trivial⟩ (re_M_backFrom_40 (I := I_10) (J := J) (R := R)  h hQ)
set_option maxRecDepth 100000 in
set_option maxHeartbeats 4000000 in
theorem re_JI_bitCount {ex : az_X} {I : Nat → Nat → Int32} {J : Nat → Nat → Int64} {R : Nat → Nat → Option Nat} {a0 : Int32} {o : Int32} (h : rs_JI_bitCount a0 = some o) {Q : Option Value → az_S → Prop} (hQ : Q (some (.int o)) (97, I, J, R)) : az_E az_F ex 0 255 0 [.int a0] [] (97, I, J, R) Q := by
  unfold rs_JI_bitCount at h
  refine az_E.sn 41 (pc' := 52) (L' := [.int (((((((a0 - ((a0.toUInt32 >>> ((1 : Int32).toUInt32 &&& Int32.toUInt32 31)).toInt32 &&& (1431655765 : Int32))) &&& (858993459 : Int32)) + (((a0 - ((a0.toUInt32 >>> ((1 : Int32).toUInt32 &&& Int32.toUInt32 31)).toInt32 &&& (1431655765 : Int32))).toUInt32 >>> ((2 : Int32).toUInt32 &&& Int32.toUInt32 31)).toInt32 &&& (858993459 : Int32))) + ((((a0 - ((a0.toUInt32 >>> ((1 : Int32).toUInt32 &&& Int32.toUInt32 31)).toInt32 &&& (1431655765 : Int32))) &&& (858993459 : Int32)) + (((a0 - ((a0.toUInt32 >>> ((1 : Int32).toUInt32 &&& Int32.toUInt32 31)).toInt32 &&& (1431655765 : Int32))).toUInt32 >>> ((2 : Int32).toUInt32 &&& Int32.toUInt32 31)).toInt32 &&& (858993459 : Int32))).toUInt32 >>> ((4 : Int32).toUInt32 &&& Int32.toUInt32 31)).toInt32) &&& (252645135 : Int32)) + ((((((a0 - ((a0.toUInt32 >>> ((1 : Int32).toUInt32 &&& Int32.toUInt32 31)).toInt32 &&& (1431655765 : Int32))) &&& (858993459 : Int32)) + (((a0 - ((a0.toUInt32 >>> ((1 : Int32).toUInt32 &&& Int32.toUInt32 31)).toInt32 &&& (1431655765 : Int32))).toUInt32 >>> ((2 : Int32).toUInt32 &&& Int32.toUInt32 31)).toInt32 &&& (858993459 : Int32))) + ((((a0 - ((a0.toUInt32 >>> ((1 : Int32).toUInt32 &&& Int32.toUInt32 31)).toInt32 &&& (1431655765 : Int32))) &&& (858993459 : Int32)) + (((a0 - ((a0.toUInt32 >>> ((1 : Int32).toUInt32 &&& Int32.toUInt32 31)).toInt32 &&& (1431655765 : Int32))).toUInt32 >>> ((2 : Int32).toUInt32 &&& Int32.toUInt32 31)).toInt32 &&& (858993459 : Int32))).toUInt32 >>> ((4 : Int32).toUInt32 &&& Int32.toUInt32 31)).toInt32) &&& (252645135 : Int32)).toUInt32 >>> ((8 : Int32).toUInt32 &&& Int32.toUInt32 31)).toInt32) + (((((((a0 - ((a0.toUInt32 >>> ((1 : Int32).toUInt32 &&& Int32.toUInt32 31)).toInt32 &&& (1431655765 : Int32))) &&& (858993459 : Int32)) + (((a0 - ((a0.toUInt32 >>> ((1 : Int32).toUInt32 &&& Int32.toUInt32 31)).toInt32 &&& (1431655765 : Int32))).toUInt32 >>> ((2 : Int32).toUInt32 &&& Int32.toUInt32 31)).toInt32 &&& (858993459 : Int32))) + ((((a0 - ((a0.toUInt32 >>> ((1 : Int32).toUInt32 &&& Int32.toUInt32 31)).toInt32 &&& (1431655765 : Int32))) &&& (858993459 : Int32)) + (((a0 - ((a0.toUInt32 >>> ((1 : Int32).toUInt32 &&& Int32.toUInt32 31)).toInt32 &&& (1431655765 : Int32))).toUInt32 >>> ((2 : Int32).toUInt32 &&& Int32.toUInt32 31)).toInt32 &&& (858993459 : Int32))).toUInt32 >>> ((4 : Int32).toUInt32 &&& Int32.toUInt32 31)).toInt32) &&& (252645135 : Int32)) + ((((((a0 - ((a0.toUInt32 >>> ((1 : Int32).toUInt32 &&& Int32.toUInt32 31)).toInt32 &&& (1431655765 : Int32))) &&& (858993459 : Int32)) + (((a0 - ((a0.toUInt32 >>> ((1 : Int32).toUInt32 &&& Int32.toUInt32 31)).toInt32 &&& (1431655765 : Int32))).toUInt32 >>> ((2 : Int32).toUInt32 &&& Int32.toUInt32 31)).toInt32 &&& (858993459 : Int32))) + ((((a0 - ((a0.toUInt32 >>> ((1 : Int32).toUInt32 &&& Int32.toUInt32 31)).toInt32 &&& (1431655765 : Int32))) &&& (858993459 : Int32)) + (((a0 - ((a0.toUInt32 >>> ((1 : Int32).toUInt32 &&& Int32.toUInt32 31)).toInt32 &&& (1431655765 : Int32))).toUInt32 >>> ((2 : Int32).toUInt32 &&& Int32.toUInt32 31)).toInt32 &&& (858993459 : Int32))).toUInt32 >>> ((4 : Int32).toUInt32 &&& Int32.toUInt32 31)).toInt32) &&& (252645135 : Int32)).toUInt32 >>> ((8 : Int32).toUInt32 &&& Int32.toUInt32 31)).toInt32).toUInt32 >>> ((16 : Int32).toUInt32 &&& Int32.toUInt32 31)).toInt32)]) (S' := [.int ((((((((a0 - ((a0.toUInt32 >>> ((1 : Int32).toUInt32 &&& Int32.toUInt32 31)).toInt32 &&& (1431655765 : Int32))) &&& (858993459 : Int32)) + (((a0 - ((a0.toUInt32 >>> ((1 : Int32).toUInt32 &&& Int32.toUInt32 31)).toInt32 &&& (1431655765 : Int32))).toUInt32 >>> ((2 : Int32).toUInt32 &&& Int32.toUInt32 31)).toInt32 &&& (858993459 : Int32))) + ((((a0 - ((a0.toUInt32 >>> ((1 : Int32).toUInt32 &&& Int32.toUInt32 31)).toInt32 &&& (1431655765 : Int32))) &&& (858993459 : Int32)) + (((a0 - ((a0.toUInt32 >>> ((1 : Int32).toUInt32 &&& Int32.toUInt32 31)).toInt32 &&& (1431655765 : Int32))).toUInt32 >>> ((2 : Int32).toUInt32 &&& Int32.toUInt32 31)).toInt32 &&& (858993459 : Int32))).toUInt32 >>> ((4 : Int32).toUInt32 &&& Int32.toUInt32 31)).toInt32) &&& (252645135 : Int32)) + ((((((a0 - ((a0.toUInt32 >>> ((1 : Int32).toUInt32 &&& Int32.toUInt32 31)).toInt32 &&& (1431655765 : Int32))) &&& (858993459 : Int32)) + (((a0 - ((a0.toUInt32 >>> ((1 : Int32).toUInt32 &&& Int32.toUInt32 31)).toInt32 &&& (1431655765 : Int32))).toUInt32 >>> ((2 : Int32).toUInt32 &&& Int32.toUInt32 31)).toInt32 &&& (858993459 : Int32))) + ((((a0 - ((a0.toUInt32 >>> ((1 : Int32).toUInt32 &&& Int32.toUInt32 31)).toInt32 &&& (1431655765 : Int32))) &&& (858993459 : Int32)) + (((a0 - ((a0.toUInt32 >>> ((1 : Int32).toUInt32 &&& Int32.toUInt32 31)).toInt32 &&& (1431655765 : Int32))).toUInt32 >>> ((2 : Int32).toUInt32 &&& Int32.toUInt32 31)).toInt32 &&& (858993459 : Int32))).toUInt32 >>> ((4 : Int32).toUInt32 &&& Int32.toUInt32 31)).toInt32) &&& (252645135 : Int32)).toUInt32 >>> ((8 : Int32).toUInt32 &&& Int32.toUInt32 31)).toInt32) + (((((((a0 - ((a0.toUInt32 >>> ((1 : Int32).toUInt32 &&& Int32.toUInt32 31)).toInt32 &&& (1431655765 : Int32))) &&& (858993459 : Int32)) + (((a0 - ((a0.toUInt32 >>> ((1 : Int32).toUInt32 &&& Int32.toUInt32 31)).toInt32 &&& (1431655765 : Int32))).toUInt32 >>> ((2 : Int32).toUInt32 &&& Int32.toUInt32 31)).toInt32 &&& (858993459 : Int32))) + ((((a0 - ((a0.toUInt32 >>> ((1 : Int32).toUInt32 &&& Int32.toUInt32 31)).toInt32 &&& (1431655765 : Int32))) &&& (858993459 : Int32)) + (((a0 - ((a0.toUInt32 >>> ((1 : Int32).toUInt32 &&& Int32.toUInt32 31)).toInt32 &&& (1431655765 : Int32))).toUInt32 >>> ((2 : Int32).toUInt32 &&& Int32.toUInt32 31)).toInt32 &&& (858993459 : Int32))).toUInt32 >>> ((4 : Int32).toUInt32 &&& Int32.toUInt32 31)).toInt32) &&& (252645135 : Int32)) + ((((((a0 - ((a0.toUInt32 >>> ((1 : Int32).toUInt32 &&& Int32.toUInt32 31)).toInt32 &&& (1431655765 : Int32))) &&& (858993459 : Int32)) + (((a0 - ((a0.toUInt32 >>> ((1 : Int32).toUInt32 &&& Int32.toUInt32 31)).toInt32 &&& (1431655765 : Int32))).toUInt32 >>> ((2 : Int32).toUInt32 &&& Int32.toUInt32 31)).toInt32 &&& (858993459 : Int32))) + ((((a0 - ((a0.toUInt32 >>> ((1 : Int32).toUInt32 &&& Int32.toUInt32 31)).toInt32 &&& (1431655765 : Int32))) &&& (858993459 : Int32)) + (((a0 - ((a0.toUInt32 >>> ((1 : Int32).toUInt32 &&& Int32.toUInt32 31)).toInt32 &&& (1431655765 : Int32))).toUInt32 >>> ((2 : Int32).toUInt32 &&& Int32.toUInt32 31)).toInt32 &&& (858993459 : Int32))).toUInt32 >>> ((4 : Int32).toUInt32 &&& Int32.toUInt32 31)).toInt32) &&& (252645135 : Int32)).toUInt32 >>> ((8 : Int32).toUInt32 &&& Int32.toUInt32 31)).toInt32).toUInt32 >>> ((16 : Int32).toUInt32 &&& Int32.toUInt32 31)).toInt32) &&& (63 : Int32))]) (σ' := (97, I, J, R)) rfl ?_
  have h := Option.some.inj h
  subst h
  exact az_E.ret (v := some (.int ((((((((a0 - ((a0.toUInt32 >>> ((1 : Int32).toUInt32 &&& Int32.toUInt32 31)).toInt32 &&& (1431655765 : Int32))) &&& (858993459 : Int32)) + (((a0 - ((a0.toUInt32 >>> ((1 : Int32).toUInt32 &&& Int32.toUInt32 31)).toInt32 &&& (1431655765 : Int32))).toUInt32 >>> ((2 : Int32).toUInt32 &&& Int32.toUInt32 31)).toInt32 &&& (858993459 : Int32))) + ((((a0 - ((a0.toUInt32 >>> ((1 : Int32).toUInt32 &&& Int32.toUInt32 31)).toInt32 &&& (1431655765 : Int32))) &&& (858993459 : Int32)) + (((a0 - ((a0.toUInt32 >>> ((1 : Int32).toUInt32 &&& Int32.toUInt32 31)).toInt32 &&& (1431655765 : Int32))).toUInt32 >>> ((2 : Int32).toUInt32 &&& Int32.toUInt32 31)).toInt32 &&& (858993459 : Int32))).toUInt32 >>> ((4 : Int32).toUInt32 &&& Int32.toUInt32 31)).toInt32) &&& (252645135 : Int32)) + ((((((a0 - ((a0.toUInt32 >>> ((1 : Int32).toUInt32 &&& Int32.toUInt32 31)).toInt32 &&& (1431655765 : Int32))) &&& (858993459 : Int32)) + (((a0 - ((a0.toUInt32 >>> ((1 : Int32).toUInt32 &&& Int32.toUInt32 31)).toInt32 &&& (1431655765 : Int32))).toUInt32 >>> ((2 : Int32).toUInt32 &&& Int32.toUInt32 31)).toInt32 &&& (858993459 : Int32))) + ((((a0 - ((a0.toUInt32 >>> ((1 : Int32).toUInt32 &&& Int32.toUInt32 31)).toInt32 &&& (1431655765 : Int32))) &&& (858993459 : Int32)) + (((a0 - ((a0.toUInt32 >>> ((1 : Int32).toUInt32 &&& Int32.toUInt32 31)).toInt32 &&& (1431655765 : Int32))).toUInt32 >>> ((2 : Int32).toUInt32 &&& Int32.toUInt32 31)).toInt32 &&& (858993459 : Int32))).toUInt32 >>> ((4 : Int32).toUInt32 &&& Int32.toUInt32 31)).toInt32) &&& (252645135 : Int32)).toUInt32 >>> ((8 : Int32).toUInt32 &&& Int32.toUInt32 31)).toInt32) + (((((((a0 - ((a0.toUInt32 >>> ((1 : Int32).toUInt32 &&& Int32.toUInt32 31)).toInt32 &&& (1431655765 : Int32))) &&& (858993459 : Int32)) + (((a0 - ((a0.toUInt32 >>> ((1 : Int32).toUInt32 &&& Int32.toUInt32 31)).toInt32 &&& (1431655765 : Int32))).toUInt32 >>> ((2 : Int32).toUInt32 &&& Int32.toUInt32 31)).toInt32 &&& (858993459 : Int32))) + ((((a0 - ((a0.toUInt32 >>> ((1 : Int32).toUInt32 &&& Int32.toUInt32 31)).toInt32 &&& (1431655765 : Int32))) &&& (858993459 : Int32)) + (((a0 - ((a0.toUInt32 >>> ((1 : Int32).toUInt32 &&& Int32.toUInt32 31)).toInt32 &&& (1431655765 : Int32))).toUInt32 >>> ((2 : Int32).toUInt32 &&& Int32.toUInt32 31)).toInt32 &&& (858993459 : Int32))).toUInt32 >>> ((4 : Int32).toUInt32 &&& Int32.toUInt32 31)).toInt32) &&& (252645135 : Int32)) + ((((((a0 - ((a0.toUInt32 >>> ((1 : Int32).toUInt32 &&& Int32.toUInt32 31)).toInt32 &&& (1431655765 : Int32))) &&& (858993459 : Int32)) + (((a0 - ((a0.toUInt32 >>> ((1 : Int32).toUInt32 &&& Int32.toUInt32 31)).toInt32 &&& (1431655765 : Int32))).toUInt32 >>> ((2 : Int32).toUInt32 &&& Int32.toUInt32 31)).toInt32 &&& (858993459 : Int32))) + ((((a0 - ((a0.toUInt32 >>> ((1 : Int32).toUInt32 &&& Int32.toUInt32 31)).toInt32 &&& (1431655765 : Int32))) &&& (858993459 : Int32)) + (((a0 - ((a0.toUInt32 >>> ((1 : Int32).toUInt32 &&& Int32.toUInt32 31)).toInt32 &&& (1431655765 : Int32))).toUInt32 >>> ((2 : Int32).toUInt32 &&& Int32.toUInt32 31)).toInt32 &&& (858993459 : Int32))).toUInt32 >>> ((4 : Int32).toUInt32 &&& Int32.toUInt32 31)).toInt32) &&& (252645135 : Int32)).toUInt32 >>> ((8 : Int32).toUInt32 &&& Int32.toUInt32 31)).toInt32).toUInt32 >>> ((16 : Int32).toUInt32 &&& Int32.toUInt32 31)).toInt32) &&& (63 : Int32)))) (σ' := (97, I, J, R)) rfl hQ
set_option maxRecDepth 100000 in
set_option maxHeartbeats 4000000 in
theorem re_To_begin {ex : az_X} {I : Nat → Nat → Int32} {J : Nat → Nat → Int64} {R : Nat → Nat → Option Nat} {o : (Nat → Nat → Int32)} (h : rs_To_begin I = some o) {Q : Option Value → az_S → Prop} (hQ : Q none (97, o, J, R)) : az_E az_F ex 0 77 0 [.ref 39] [] (97, I, J, R) Q := by
  unfold rs_To_begin at h
  refine az_E.sn 3 (pc' := 5) (L' := [.ref 39]) (S' := []) (σ' := (97, (az_u I 39 1 (0 : Int32)), J, R)) rfl ?_
  have h := Option.some.inj h
  subst h
  exact az_E.ret (v := none) (σ' := (97, (az_u I 39 1 (0 : Int32)), J, R)) rfl hQ
set_option maxRecDepth 100000 in
set_option maxHeartbeats 4000000 in
theorem re_To_measure {ex : az_X} {I : Nat → Nat → Int32} {J : Nat → Nat → Int64} {R : Nat → Nat → Option Nat} {a1 : Int32} {a2 : Int32} {a3 : Int32} {o : (Nat → Nat → Int32)} (h : rs_To_measure I a1 a2 a3 = some o) {Q : Option Value → az_S → Prop} (hQ : Q none (97, o, J, R)) : az_E az_F ex 0 79 0 [.ref 39, .int a1, .int a2, .int a3] [] (97, I, J, R) Q := by
  unfold rs_To_measure at h
  refine az_E.sn 8 (pc' := 11) (L' := [.ref 39, .int a1, .int a2, .int a3]) (S' := [.int a3, .int ((a1 * (6 : Int32)) + a2), .ref 41]) (σ' := (97, I, J, R)) rfl ?_
  by_cases hc_1 : ((a1 * (6 : Int32)) + a2) < 0 ∨ 36 ≤ ((a1 * (6 : Int32)) + a2).toNatClampNeg
  · rw [if_pos hc_1] at h; cases h
  · rw [if_neg hc_1] at h
    refine az_E.o (o := az_si az_F (97, I, J, R) 41 ((a1 * (6 : Int32)) + a2) a3) (pc' := 12) (L' := [.ref 39, .int a1, .int a2, .int a3]) (S' := []) (x := (97, (az_u I 41 ((a1 * (6 : Int32)) + a2).toNatClampNeg a3), J, R)) rfl (if_neg hc_1) ?_
    have h := Option.some.inj h
    subst h
    exact az_E.ret (v := none) (σ' := (97, (az_u I 41 ((a1 * (6 : Int32)) + a2).toNatClampNeg a3), J, R)) rfl hQ
set_option maxRecDepth 100000 in
set_option maxHeartbeats 4000000 in
theorem re_To_addStop {ex : az_X} {I : Nat → Nat → Int32} {J : Nat → Nat → Int64} {R : Nat → Nat → Option Nat} {a1 : Int32} {o : (Nat → Nat → Int32)} (h : rs_To_addStop I a1 = some o) {Q : Option Value → az_S → Prop} (hQ : Q none (97, o, J, R)) : az_E az_F ex 0 78 0 [.ref 39, .int a1] [] (97, I, J, R) Q := by
  unfold rs_To_addStop at h
  refine az_E.sn 3 (pc' := 5) (L' := [.ref 39, .int a1]) (S' := [.int (5 : Int32), .int (I 39 1)]) (σ' := (97, I, J, R)) rfl ?_
  refine az_E.br (c := (5 : Int32) ≤ (I 39 1)) (tt := 28) (ff := 8) (L' := [.ref 39, .int a1]) (S' := []) (σ' := (97, I, J, R)) rfl (fun hc_1 => ?_) (fun hc_1 => ?_)
  · rw [if_pos hc_1] at h
    have h := Option.some.inj h
    subst h
    exact az_E.ret (v := none) (σ' := (97, I, J, R)) rfl hQ
  · rw [if_neg hc_1] at h
    refine az_E.sn 11 (pc' := 27) (L' := [.ref 39, .int a1]) (S' := [.int a1, .int ((I 39 1) + (1 : Int32)), .ref 40]) (σ' := (97, (az_u I 39 1 ((I 39 1) + (1 : Int32))), J, R)) rfl ?_
    by_cases hc_2 : ((I 39 1) + (1 : Int32)) < 0 ∨ 6 ≤ ((I 39 1) + (1 : Int32)).toNatClampNeg
    · rw [if_pos hc_2] at h; cases h
    · rw [if_neg hc_2] at h
      refine az_E.o (o := az_si az_F (97, (az_u I 39 1 ((I 39 1) + (1 : Int32))), J, R) 40 ((I 39 1) + (1 : Int32)) a1) (pc' := 28) (L' := [.ref 39, .int a1]) (S' := []) (x := (97, (az_u (az_u I 39 1 ((I 39 1) + (1 : Int32))) 40 ((I 39 1) + (1 : Int32)).toNatClampNeg a1), J, R)) rfl (if_neg hc_2) ?_
      have h := Option.some.inj h
      subst h
      exact az_E.ret (v := none) (σ' := (97, (az_u (az_u I 39 1 ((I 39 1) + (1 : Int32))) 40 ((I 39 1) + (1 : Int32)).toNatClampNeg a1), J, R)) rfl hQ
set_option maxRecDepth 100000 in
set_option maxHeartbeats 4000000 in
theorem re_X_measureTour_84_b_5 {ex : az_X} {I : Nat → Nat → Int32} {J : Nat → Nat → Int64} {R : Nat → Nat → Option Nat} {v1 : Int32} {v3 : Int32} {v4 : Int32} (hR_26_3 : R 26 3 = some 5) {x : ((Int32 × (Nat → Nat → Int32)) ⊕ (((Int32 × (Nat → Nat → Int32)) ⊕ ((Nat → Nat → Int32)))))} (h : rs_X_measureTour_84_b v1 v3 v4 I = some x) {Q : Option Value → az_S → Prop} (hQ : Sum.elim (fun s => az_E az_F ex 3 152 84 [.ref 3, .int v1, .retAddr 0, .int v3, .int s.1] [] (97, s.2, J, R) Q) (fun x => Sum.elim (fun s => az_E az_F ex 3 152 44 [.ref 3, .int v1, .retAddr 0, .int s.1, .retAddr 0] [] (97, s.2, J, R) Q) (fun x => Q none (97, x, J, R)) x) x) : az_E az_F ex 3 152 84 [.ref 3, .int v1, .retAddr 0, .int v3, .int v4] [] (97, I, J, R) Q := by
  unfold rs_X_measureTour_84_b at h
  refine az_E.sn 4 (pc' := 93) (L' := [.ref 3, .int v1, .retAddr 0, .int v3, .int v4]) (S' := [.int (I 39 1), .int v4]) (σ' := (97, I, J, R)) rfl ?_
  refine az_E.br (c := (I 39 1) < v4) (tt := 127) (ff := 96) (L' := [.ref 3, .int v1, .retAddr 0, .int v3, .int v4]) (S' := []) (σ' := (97, I, J, R)) rfl (fun hc_8 => ?_) (fun hc_8 => ?_)
  · rw [if_pos hc_8] at h
    refine az_E.sn 2 (pc' := 44) (L' := [.ref 3, .int v1, .retAddr 0, .int (v3 + (1 : Int32)), .int v4]) (S' := []) (σ' := (97, I, J, R)) rfl ?_
    have h := Option.some.inj h
    subst h
    exact az_E.forget (L := [.ref 3, .int v1, .retAddr 0, .int (v3 + (1 : Int32)), .retAddr 0]) ⟨rfl, rfl, trivial, rfl, trivial, trivial⟩ hQ
  · rw [if_neg hc_8] at h
    refine az_E.sn 10 (pc' := 114) (L' := [.ref 3, .int v1, .retAddr 0, .int v3, .int v4]) (S' := [.int v4, .int v1, .ref 3, .ref 33, .int v4, .int v3, .ref 39]) (σ' := (97, I, J, R)) rfl ?_
    refine az_E.call (d := 2) (k' := 153) (vs := [.ref 3, .int v1, .int v4]) (pc' := 117) (S' := [.ref 33, .int v4, .int v3, .ref 39]) rfl ?_ (fun _ _ hq => hq)
    show az_E az_F ex 2 153 0 [.ref 3, .int v1, .int v4] [] (97, I, J, R) _
    refine az_E.sn 1 (pc' := 1) (L' := [.ref 3, .int v1, .int v4]) (S' := [.int v4]) (σ' := (97, I, J, R)) rfl ?_
    refine az_E.br (c := v4 = 0) (tt := 4) (ff := 8) (L' := [.ref 3, .int v1, .int v4]) (S' := []) (σ' := (97, I, J, R)) rfl (fun hc_9 => ?_) (fun hc_9 => ?_)
    · rw [if_pos hc_9] at h
      refine az_E.sn 2 (pc' := 25) (L' := [.ref 3, .int v1, .int v4]) (S' := [.int v1]) (σ' := (97, I, J, R)) rfl ?_
      refine az_E.ret (v := some (.int v1)) (σ' := (97, I, J, R)) rfl ?_
      show az_E az_F ex 3 152 117 [.ref 3, .int v1, .retAddr 0, .int v3, .int v4] [.int v1, .ref 33, .int v4, .int v3, .ref 39] (97, I, J, R) _
      by_cases hc_10 : v1 < 0 ∨ 144 ≤ v1.toNatClampNeg
      · rw [if_pos hc_10] at h; cases h
      · rw [if_neg hc_10] at h
        refine az_E.oi (o := az_ai az_F ex (97, I, J, R) 33 v1) (pc' := 118) (L' := [.ref 3, .int v1, .retAddr 0, .int v3, .int v4]) (S' := [.int v4, .int v3, .ref 39]) (σ' := (97, I, J, R)) (x := (I 33 v1.toNatClampNeg)) rfl (if_neg hc_10) ?_
        cases hx_12 : rs_To_measure I v3 v4 (I 33 v1.toNatClampNeg) with
        | none => rw [hx_12] at h; cases h
        | some I_11 =>
          rw [hx_12] at h
          dsimp only at h
          refine az_E.call (d := 2) (k' := 79) (vs := [.ref 39, .int v3, .int v4, .int (I 33 v1.toNatClampNeg)]) (pc' := 121) (S' := []) (Q1 := fun v s => v = none ∧ s = (97, I_11, J, R)) rfl (az_E.deep (by omega) (re_To_measure (J := J) (R := R)  hx_12 ⟨rfl, rfl⟩)) (fun v s hq => ?_)
          obtain ⟨rfl, rfl⟩ := hq
          show az_E az_F ex 3 152 121 [.ref 3, .int v1, .retAddr 0, .int v3, .int v4] [] (97, I_11, J, R) _
          refine az_E.sn 2 (pc' := 84) (L' := [.ref 3, .int v1, .retAddr 0, .int v3, .int (v4 + (1 : Int32))]) (S' := []) (σ' := (97, I_11, J, R)) rfl ?_
          have h := Option.some.inj h
          subst h
          exact az_E.forget (L := [.ref 3, .int v1, .retAddr 0, .int v3, .int (v4 + (1 : Int32))]) ⟨rfl, rfl, trivial, rfl, rfl, trivial⟩ hQ
    · rw [if_neg hc_9] at h
      refine az_E.sn 7 (pc' := 23) (L' := [.ref 3, .int v1, .int v4]) (S' := [.int v4, .ref 40, .ref 6]) (σ' := (97, I, J, R)) rfl ?_
      by_cases hc_13 : v4 < 0 ∨ 6 ≤ v4.toNatClampNeg
      · rw [if_pos hc_13] at h; cases h
      · rw [if_neg hc_13] at h
        refine az_E.oi (o := az_ai az_F ex (97, I, J, R) 40 v4) (pc' := 24) (L' := [.ref 3, .int v1, .int v4]) (S' := [.ref 6]) (σ' := (97, I, J, R)) (x := (I 40 v4.toNatClampNeg)) rfl (if_neg hc_13) ?_
        by_cases hc_14 : (I 40 v4.toNatClampNeg) < 0 ∨ 8 ≤ (I 40 v4.toNatClampNeg).toNatClampNeg
        · rw [if_pos hc_14] at h; cases h
        · rw [if_neg hc_14] at h
          refine az_E.oi (o := az_ai az_F ex (97, I, J, R) 6 (I 40 v4.toNatClampNeg)) (pc' := 25) (L' := [.ref 3, .int v1, .int v4]) (S' := []) (σ' := (97, I, J, R)) (x := (I 6 (I 40 v4.toNatClampNeg).toNatClampNeg)) rfl (if_neg hc_14) ?_
          refine az_E.ret (v := some (.int (I 6 (I 40 v4.toNatClampNeg).toNatClampNeg))) (σ' := (97, I, J, R)) rfl ?_
          show az_E az_F ex 3 152 117 [.ref 3, .int v1, .retAddr 0, .int v3, .int v4] [.int (I 6 (I 40 v4.toNatClampNeg).toNatClampNeg), .ref 33, .int v4, .int v3, .ref 39] (97, I, J, R) _
          by_cases hc_15 : (I 6 (I 40 v4.toNatClampNeg).toNatClampNeg) < 0 ∨ 144 ≤ (I 6 (I 40 v4.toNatClampNeg).toNatClampNeg).toNatClampNeg
          · rw [if_pos hc_15] at h; cases h
          · rw [if_neg hc_15] at h
            refine az_E.oi (o := az_ai az_F ex (97, I, J, R) 33 (I 6 (I 40 v4.toNatClampNeg).toNatClampNeg)) (pc' := 118) (L' := [.ref 3, .int v1, .retAddr 0, .int v3, .int v4]) (S' := [.int v4, .int v3, .ref 39]) (σ' := (97, I, J, R)) (x := (I 33 (I 6 (I 40 v4.toNatClampNeg).toNatClampNeg).toNatClampNeg)) rfl (if_neg hc_15) ?_
            cases hx_17 : rs_To_measure I v3 v4 (I 33 (I 6 (I 40 v4.toNatClampNeg).toNatClampNeg).toNatClampNeg) with
            | none => rw [hx_17] at h; cases h
            | some I_16 =>
              rw [hx_17] at h
              dsimp only at h
              refine az_E.call (d := 2) (k' := 79) (vs := [.ref 39, .int v3, .int v4, .int (I 33 (I 6 (I 40 v4.toNatClampNeg).toNatClampNeg).toNatClampNeg)]) (pc' := 121) (S' := []) (Q1 := fun v s => v = none ∧ s = (97, I_16, J, R)) rfl (az_E.deep (by omega) (re_To_measure (J := J) (R := R)  hx_17 ⟨rfl, rfl⟩)) (fun v s hq => ?_)
              obtain ⟨rfl, rfl⟩ := hq
              show az_E az_F ex 3 152 121 [.ref 3, .int v1, .retAddr 0, .int v3, .int v4] [] (97, I_16, J, R) _
              refine az_E.sn 2 (pc' := 84) (L' := [.ref 3, .int v1, .retAddr 0, .int v3, .int (v4 + (1 : Int32))]) (S' := []) (σ' := (97, I_16, J, R)) rfl ?_
              have h := Option.some.inj h
              subst h
              exact az_E.forget (L := [.ref 3, .int v1, .retAddr 0, .int v3, .int (v4 + (1 : Int32))]) ⟨rfl, rfl, trivial, rfl, rfl, trivial⟩ hQ
set_option maxRecDepth 100000 in
set_option maxHeartbeats 4000000 in
theorem re_X_measureTour_84_5 {ex : az_X} {I : Nat → Nat → Int32} {J : Nat → Nat → Int64} {R : Nat → Nat → Option Nat} {v1 : Int32} {v3 : Int32} {v4 : Int32} (hR_26_3 : R 26 3 = some 5) {x : ((Int32 × (Nat → Nat → Int32)) ⊕ ((Nat → Nat → Int32)))} (h : rs_X_measureTour_84 I v1 v3 v4 = some x) {Q : Option Value → az_S → Prop} (hQ : Sum.elim (fun s => az_E az_F ex 3 152 44 [.ref 3, .int v1, .retAddr 0, .int s.1, .retAddr 0] [] (97, s.2, J, R) Q) (fun x => Q none (97, x, J, R)) x) : az_E az_F ex 3 152 84 [.ref 3, .int v1, .retAddr 0, .int v3, .int v4] [] (97, I, J, R) Q := by
  unfold rs_X_measureTour_84 at h
  refine az_lp_E (G := fun s => az_E az_F ex 3 152 84 [.ref 3, .int v1, .retAddr 0, .int v3, .int s.1] [] (97, s.2, J, R) Q) (H := fun x => Sum.elim (fun s => az_E az_F ex 3 152 44 [.ref 3, .int v1, .retAddr 0, .int s.1, .retAddr 0] [] (97, s.2, J, R) Q) (fun x => Q none (97, x, J, R)) x) (fun s o hb ho => ?_) _ _ _ h hQ
  exact re_X_measureTour_84_b_5 hR_26_3 hb ho
set_option maxRecDepth 100000 in
set_option maxHeartbeats 4000000 in
theorem re_X_measureTour_44_b_5 {ex : az_X} {I : Nat → Nat → Int32} {J : Nat → Nat → Int64} {R : Nat → Nat → Option Nat} {v1 : Int32} {v3 : Int32} (hR_26_3 : R 26 3 = some 5) {x : ((Int32 × (Nat → Nat → Int32)) ⊕ ((Nat → Nat → Int32)))} (h : rs_X_measureTour_44_b v1 v3 I = some x) {Q : Option Value → az_S → Prop} (hQ : Sum.elim (fun s => az_E az_F ex 3 152 44 [.ref 3, .int v1, .retAddr 0, .int s.1, .retAddr 0] [] (97, s.2, J, R) Q) (fun x => Q none (97, x, J, R)) x) : az_E az_F ex 3 152 44 [.ref 3, .int v1, .retAddr 0, .int v3, .retAddr 0] [] (97, I, J, R) Q := by
  unfold rs_X_measureTour_44_b at h
  refine az_E.sn 4 (pc' := 52) (L' := [.ref 3, .int v1, .retAddr 0, .int v3, .retAddr 0]) (S' := [.int (I 39 1), .int v3]) (σ' := (97, I, J, R)) rfl ?_
  refine az_E.br (c := (I 39 1) < v3) (tt := 133) (ff := 55) (L' := [.ref 3, .int v1, .retAddr 0, .int v3, .retAddr 0]) (S' := []) (σ' := (97, I, J, R)) rfl (fun hc_4 => ?_) (fun hc_4 => ?_)
  · rw [if_pos hc_4] at h
    have h := Option.some.inj h
    subst h
    exact az_E.ret (v := none) (σ' := (97, I, J, R)) rfl hQ
  · rw [if_neg hc_4] at h
    refine az_E.sn 7 (pc' := 66) (L' := [.ref 3, .int v1, .retAddr 0, .int v3, .retAddr 0]) (S' := [.int v3, .int v1, .ref 3, .ref 26, .ref 32]) (σ' := (97, I, J, R)) rfl ?_
    refine az_E.call (d := 2) (k' := 153) (vs := [.ref 3, .int v1, .int v3]) (pc' := 69) (S' := [.ref 26, .ref 32]) rfl ?_ (fun _ _ hq => hq)
    show az_E az_F ex 2 153 0 [.ref 3, .int v1, .int v3] [] (97, I, J, R) _
    refine az_E.sn 1 (pc' := 1) (L' := [.ref 3, .int v1, .int v3]) (S' := [.int v3]) (σ' := (97, I, J, R)) rfl ?_
    refine az_E.br (c := v3 = 0) (tt := 4) (ff := 8) (L' := [.ref 3, .int v1, .int v3]) (S' := []) (σ' := (97, I, J, R)) rfl (fun hc_5 => ?_) (fun hc_5 => ?_)
    · rw [if_pos hc_5] at h
      refine az_E.sn 2 (pc' := 25) (L' := [.ref 3, .int v1, .int v3]) (S' := [.int v1]) (σ' := (97, I, J, R)) rfl ?_
      refine az_E.ret (v := some (.int v1)) (σ' := (97, I, J, R)) rfl ?_
      show az_E az_F ex 3 152 69 [.ref 3, .int v1, .retAddr 0, .int v3, .retAddr 0] [.int v1, .ref 26, .ref 32] (97, I, J, R) _
      refine az_E.sn 5 (pc' := 78) (L' := [.ref 3, .int v1, .retAddr 0, .int v3, .retAddr 0]) (S' := [.ref 33, .int (-1 : Int32), .int (0 : Int32), .int v1, .ref 26, .ref 32]) (σ' := (97, I, J, R)) rfl ?_
      cases hx_7 : rs_Fi_spread 26 33 I v1 (0 : Int32) (-1 : Int32) with
      | none => rw [hx_7] at h; cases h
      | some I_6 =>
        rw [hx_7] at h
        dsimp only at h
        refine az_E.call (d := 2) (k' := 17) (vs := [.ref 32, .ref 26, .int v1, .int (0 : Int32), .int (-1 : Int32), .ref 33]) (pc' := 81) (S' := []) (Q1 := fun v s => v = none ∧ s = (97, I_6, J, R)) rfl (az_E.deep (by omega) (re_Fi_spread_26_33_5 (J := J) (R := R) hR_26_3 hx_7 ⟨rfl, rfl⟩)) (fun v s hq => ?_)
        obtain ⟨rfl, rfl⟩ := hq
        show az_E az_F ex 3 152 81 [.ref 3, .int v1, .retAddr 0, .int v3, .retAddr 0] [] (97, I_6, J, R) _
        refine az_E.sn 2 (pc' := 84) (L' := [.ref 3, .int v1, .retAddr 0, .int v3, .int (0 : Int32)]) (S' := []) (σ' := (97, I_6, J, R)) rfl ?_
        exact az_E.forget (L := [.ref 3, .int v1, .retAddr 0, .int v3, .int (0 : Int32)]) ⟨rfl, rfl, trivial, rfl, rfl, trivial⟩ (re_X_measureTour_84_5 (I := I_6) (J := J) (R := R) hR_26_3 h hQ)
    · rw [if_neg hc_5] at h
      refine az_E.sn 7 (pc' := 23) (L' := [.ref 3, .int v1, .int v3]) (S' := [.int v3, .ref 40, .ref 6]) (σ' := (97, I, J, R)) rfl ?_
      by_cases hc_18 : v3 < 0 ∨ 6 ≤ v3.toNatClampNeg
      · rw [if_pos hc_18] at h; cases h
      · rw [if_neg hc_18] at h
        refine az_E.oi (o := az_ai az_F ex (97, I, J, R) 40 v3) (pc' := 24) (L' := [.ref 3, .int v1, .int v3]) (S' := [.ref 6]) (σ' := (97, I, J, R)) (x := (I 40 v3.toNatClampNeg)) rfl (if_neg hc_18) ?_
        by_cases hc_19 : (I 40 v3.toNatClampNeg) < 0 ∨ 8 ≤ (I 40 v3.toNatClampNeg).toNatClampNeg
        · rw [if_pos hc_19] at h; cases h
        · rw [if_neg hc_19] at h
          refine az_E.oi (o := az_ai az_F ex (97, I, J, R) 6 (I 40 v3.toNatClampNeg)) (pc' := 25) (L' := [.ref 3, .int v1, .int v3]) (S' := []) (σ' := (97, I, J, R)) (x := (I 6 (I 40 v3.toNatClampNeg).toNatClampNeg)) rfl (if_neg hc_19) ?_
          refine az_E.ret (v := some (.int (I 6 (I 40 v3.toNatClampNeg).toNatClampNeg))) (σ' := (97, I, J, R)) rfl ?_
          show az_E az_F ex 3 152 69 [.ref 3, .int v1, .retAddr 0, .int v3, .retAddr 0] [.int (I 6 (I 40 v3.toNatClampNeg).toNatClampNeg), .ref 26, .ref 32] (97, I, J, R) _
          refine az_E.sn 5 (pc' := 78) (L' := [.ref 3, .int v1, .retAddr 0, .int v3, .retAddr 0]) (S' := [.ref 33, .int (-1 : Int32), .int (0 : Int32), .int (I 6 (I 40 v3.toNatClampNeg).toNatClampNeg), .ref 26, .ref 32]) (σ' := (97, I, J, R)) rfl ?_
          cases hx_21 : rs_Fi_spread 26 33 I (I 6 (I 40 v3.toNatClampNeg).toNatClampNeg) (0 : Int32) (-1 : Int32) with
          | none => rw [hx_21] at h; cases h
          | some I_20 =>
            rw [hx_21] at h
            dsimp only at h
            refine az_E.call (d := 2) (k' := 17) (vs := [.ref 32, .ref 26, .int (I 6 (I 40 v3.toNatClampNeg).toNatClampNeg), .int (0 : Int32), .int (-1 : Int32), .ref 33]) (pc' := 81) (S' := []) (Q1 := fun v s => v = none ∧ s = (97, I_20, J, R)) rfl (az_E.deep (by omega) (re_Fi_spread_26_33_5 (J := J) (R := R) hR_26_3 hx_21 ⟨rfl, rfl⟩)) (fun v s hq => ?_)
            obtain ⟨rfl, rfl⟩ := hq
            show az_E az_F ex 3 152 81 [.ref 3, .int v1, .retAddr 0, .int v3, .retAddr 0] [] (97, I_20, J, R) _
            refine az_E.sn 2 (pc' := 84) (L' := [.ref 3, .int v1, .retAddr 0, .int v3, .int (0 : Int32)]) (S' := []) (σ' := (97, I_20, J, R)) rfl ?_
            exact az_E.forget (L := [.ref 3, .int v1, .retAddr 0, .int v3, .int (0 : Int32)]) ⟨rfl, rfl, trivial, rfl, rfl, trivial⟩ (re_X_measureTour_84_5 (I := I_20) (J := J) (R := R) hR_26_3 h hQ)
set_option maxRecDepth 100000 in
set_option maxHeartbeats 4000000 in
theorem re_X_measureTour_44_5 {ex : az_X} {I : Nat → Nat → Int32} {J : Nat → Nat → Int64} {R : Nat → Nat → Option Nat} {v1 : Int32} {v3 : Int32} (hR_26_3 : R 26 3 = some 5) {x : (Nat → Nat → Int32)} (h : rs_X_measureTour_44 I v1 v3 = some x) {Q : Option Value → az_S → Prop} (hQ : Q none (97, x, J, R)) : az_E az_F ex 3 152 44 [.ref 3, .int v1, .retAddr 0, .int v3, .retAddr 0] [] (97, I, J, R) Q := by
  unfold rs_X_measureTour_44 at h
  refine az_lp_E (G := fun s => az_E az_F ex 3 152 44 [.ref 3, .int v1, .retAddr 0, .int s.1, .retAddr 0] [] (97, s.2, J, R) Q) (H := fun x => Q none (97, x, J, R)) (fun s o hb ho => ?_) _ _ _ h hQ
  exact re_X_measureTour_44_b_5 hR_26_3 hb ho
set_option maxRecDepth 100000 in
set_option maxHeartbeats 4000000 in
theorem re_X_measureTour_9_b_5 {ex : az_X} {I : Nat → Nat → Int32} {J : Nat → Nat → Int64} {R : Nat → Nat → Option Nat} {v1 : Int32} {v2 : Int32} {v3 : Int32} (hR_26_3 : R 26 3 = some 5) {x : ((Int32 × (Nat → Nat → Int32)) ⊕ ((Nat → Nat → Int32)))} (h : rs_X_measureTour_9_b v1 v2 v3 I = some x) {Q : Option Value → az_S → Prop} (hQ : Sum.elim (fun s => az_E az_F ex 3 152 9 [.ref 3, .int v1, .int v2, .int s.1, .retAddr 0] [] (97, s.2, J, R) Q) (fun x => Q none (97, x, J, R)) x) : az_E az_F ex 3 152 9 [.ref 3, .int v1, .int v2, .int v3, .retAddr 0] [] (97, I, J, R) Q := by
  unfold rs_X_measureTour_9_b at h
  refine az_E.sn 4 (pc' := 17) (L' := [.ref 3, .int v1, .int v2, .int v3, .retAddr 0]) (S' := [.int (I 4 3), .int v3]) (σ' := (97, I, J, R)) rfl ?_
  refine az_E.br (c := (I 4 3) ≤ v3) (tt := 42) (ff := 20) (L' := [.ref 3, .int v1, .int v2, .int v3, .retAddr 0]) (S' := []) (σ' := (97, I, J, R)) rfl (fun hc_3 => ?_) (fun hc_3 => ?_)
  · rw [if_pos hc_3] at h
    refine az_E.sn 2 (pc' := 44) (L' := [.ref 3, .int v1, .int v2, .int (0 : Int32), .retAddr 0]) (S' := []) (σ' := (97, I, J, R)) rfl ?_
    obtain ⟨x, hx, rfl⟩ := Option.map_eq_some_iff.mp h
    exact az_E.forget (L := [.ref 3, .int v1, .retAddr 0, .int (0 : Int32), .retAddr 0]) ⟨rfl, rfl, trivial, rfl, trivial, trivial⟩ (re_X_measureTour_44_5 (I := I) (J := J) (R := R) hR_26_3 hx hQ)
  · rw [if_neg hc_3] at h
    refine az_E.sn 5 (pc' := 25) (L' := [.ref 3, .int v1, .int v2, .int v3, .retAddr 0]) (S' := [.int ((v2 >>> (v3 &&& 31)) &&& (1 : Int32))]) (σ' := (97, I, J, R)) rfl ?_
    refine az_E.br (c := ((v2 >>> (v3 &&& 31)) &&& (1 : Int32)) = 0) (tt := 36) (ff := 28) (L' := [.ref 3, .int v1, .int v2, .int v3, .retAddr 0]) (S' := []) (σ' := (97, I, J, R)) rfl (fun hc_22 => ?_) (fun hc_22 => ?_)
    · rw [if_pos hc_22] at h
      refine az_E.sn 2 (pc' := 9) (L' := [.ref 3, .int v1, .int v2, .int (v3 + (1 : Int32)), .retAddr 0]) (S' := []) (σ' := (97, I, J, R)) rfl ?_
      have h := Option.some.inj h
      subst h
      exact az_E.forget (L := [.ref 3, .int v1, .int v2, .int (v3 + (1 : Int32)), .retAddr 0]) ⟨rfl, rfl, rfl, rfl, trivial, trivial⟩ hQ
    · rw [if_neg hc_22] at h
      refine az_E.sn 3 (pc' := 33) (L' := [.ref 3, .int v1, .int v2, .int v3, .retAddr 0]) (S' := [.int v3, .ref 39]) (σ' := (97, I, J, R)) rfl ?_
      cases hx_24 : rs_To_addStop I v3 with
      | none => rw [hx_24] at h; cases h
      | some I_23 =>
        rw [hx_24] at h
        dsimp only at h
        refine az_E.call (d := 2) (k' := 78) (vs := [.ref 39, .int v3]) (pc' := 36) (S' := []) (Q1 := fun v s => v = none ∧ s = (97, I_23, J, R)) rfl (az_E.deep (by omega) (re_To_addStop (J := J) (R := R)  hx_24 ⟨rfl, rfl⟩)) (fun v s hq => ?_)
        obtain ⟨rfl, rfl⟩ := hq
        show az_E az_F ex 3 152 36 [.ref 3, .int v1, .int v2, .int v3, .retAddr 0] [] (97, I_23, J, R) _
        refine az_E.sn 2 (pc' := 9) (L' := [.ref 3, .int v1, .int v2, .int (v3 + (1 : Int32)), .retAddr 0]) (S' := []) (σ' := (97, I_23, J, R)) rfl ?_
        have h := Option.some.inj h
        subst h
        exact az_E.forget (L := [.ref 3, .int v1, .int v2, .int (v3 + (1 : Int32)), .retAddr 0]) ⟨rfl, rfl, rfl, rfl, trivial, trivial⟩ hQ
set_option maxRecDepth 100000 in
set_option maxHeartbeats 4000000 in
theorem re_X_measureTour_9_5 {ex : az_X} {I : Nat → Nat → Int32} {J : Nat → Nat → Int64} {R : Nat → Nat → Option Nat} {v1 : Int32} {v2 : Int32} {v3 : Int32} (hR_26_3 : R 26 3 = some 5) {x : (Nat → Nat → Int32)} (h : rs_X_measureTour_9 I v1 v2 v3 = some x) {Q : Option Value → az_S → Prop} (hQ : Q none (97, x, J, R)) : az_E az_F ex 3 152 9 [.ref 3, .int v1, .int v2, .int v3, .retAddr 0] [] (97, I, J, R) Q := by
  unfold rs_X_measureTour_9 at h
  refine az_lp_E (G := fun s => az_E az_F ex 3 152 9 [.ref 3, .int v1, .int v2, .int s.1, .retAddr 0] [] (97, s.2, J, R) Q) (H := fun x => Q none (97, x, J, R)) (fun s o hb ho => ?_) _ _ _ h hQ
  exact re_X_measureTour_9_b_5 hR_26_3 hb ho
set_option maxRecDepth 100000 in
set_option maxHeartbeats 4000000 in
theorem re_X_measureTour_5 {ex : az_X} {I : Nat → Nat → Int32} {J : Nat → Nat → Int64} {R : Nat → Nat → Option Nat} {a1 : Int32} {a2 : Int32} (hR_26_3 : R 26 3 = some 5) {o : (Nat → Nat → Int32)} (h : rs_X_measureTour I a1 a2 = some o) {Q : Option Value → az_S → Prop} (hQ : Q none (97, o, J, R)) : az_E az_F ex 3 152 0 [.ref 3, .int a1, .int a2, .retAddr 0, .retAddr 0] [] (97, I, J, R) Q := by
  unfold rs_X_measureTour at h
  refine az_E.sn 2 (pc' := 4) (L' := [.ref 3, .int a1, .int a2, .retAddr 0, .retAddr 0]) (S' := [.ref 39]) (σ' := (97, I, J, R)) rfl ?_
  cases hx_2 : rs_To_begin I with
  | none => rw [hx_2] at h; cases h
  | some I_1 =>
    rw [hx_2] at h
    dsimp only at h
    refine az_E.call (d := 2) (k' := 77) (vs := [.ref 39]) (pc' := 7) (S' := []) (Q1 := fun v s => v = none ∧ s = (97, I_1, J, R)) rfl (az_E.deep (by omega) (re_To_begin (J := J) (R := R)  hx_2 ⟨rfl, rfl⟩)) (fun v s hq => ?_)
    obtain ⟨rfl, rfl⟩ := hq
    show az_E az_F ex 3 152 7 [.ref 3, .int a1, .int a2, .retAddr 0, .retAddr 0] [] (97, I_1, J, R) _
    refine az_E.sn 2 (pc' := 9) (L' := [.ref 3, .int a1, .int a2, .int (0 : Int32), .retAddr 0]) (S' := []) (σ' := (97, I_1, J, R)) rfl ?_
    exact az_E.forget (L := [.ref 3, .int a1, .int a2, .int (0 : Int32), .retAddr 0]) ⟨rfl, rfl, rfl, rfl, trivial, trivial⟩ (re_X_measureTour_9_5 (I := I_1) (J := J) (R := R) hR_26_3 h hQ)
set_option maxRecDepth 100000 in
set_option maxHeartbeats 4000000 in
theorem re_To_finish {ex : az_X} {I : Nat → Nat → Int32} {J : Nat → Nat → Int64} {R : Nat → Nat → Option Nat} {a1 : Int32} {o : (Nat → Nat → Int32)} (h : rs_To_finish I a1 = some o) {Q : Option Value → az_S → Prop} (hQ : Q none (97, o, J, R)) : az_E az_F ex 1 82 0 [.ref 39, .int a1] [] (97, I, J, R) Q := by
  unfold rs_To_finish at h
  refine az_E.sn 3 (pc' := 5) (L' := [.ref 39, .int a1]) (S' := [.int (I 39 5), .int a1]) (σ' := (97, I, J, R)) rfl ?_
  refine az_E.br (c := (I 39 5) ≤ a1) (tt := 28) (ff := 8) (L' := [.ref 39, .int a1]) (S' := []) (σ' := (97, I, J, R)) rfl (fun hc_1 => ?_) (fun hc_1 => ?_)
  · rw [if_pos hc_1] at h
    have h := Option.some.inj h
    subst h
    exact az_E.ret (v := none) (σ' := (97, I, J, R)) rfl hQ
  · rw [if_neg hc_1] at h
    refine az_E.sn 10 (pc' := 25) (L' := [.ref 39, .int a1]) (S' := [.int (6 : Int32), .int (0 : Int32), .ref 43, .int (0 : Int32), .ref 42]) (σ' := (97, (az_u I 39 5 a1), J, R)) rfl ?_
    refine az_E.o (o := az_cp az_F (97, (az_u I 39 5 a1), J, R) 42 (0 : Int32) 43 (0 : Int32) (6 : Int32)) (pc' := 28) (L' := [.ref 39, .int a1]) (S' := []) (x := (97, (az_ur (az_u I 39 5 a1) 43 (va_cpy ((az_u I 39 5 a1) 42) ((az_u I 39 5 a1) 43) 0 0 6)), J, R)) rfl rfl ?_
    have h := Option.some.inj h
    subst h
    exact az_E.ret (v := none) (σ' := (97, (az_ur (az_u I 39 5 a1) 43 (va_cpy ((az_u I 39 5 a1) 42) ((az_u I 39 5 a1) 43) 0 0 6)), J, R)) rfl hQ
set_option maxRecDepth 100000 in
set_option maxHeartbeats 4000000 in
theorem re_To_goOn_13 {rec : az_GT} {d : Nat} {ex : az_X} {I : Nat → Nat → Int32} {J : Nat → Nat → Int64} {R : Nat → Nat → Option Nat} {v2 : Int32} {v4 : Int32} (hg_81 : ∀ (b1 b2 b3 b4 : Int32) (I : Nat → Nat → Int32) (o : Int32 × (Nat → Nat → Int32)), rec 81 b1 b2 b3 b4 I = some o → ∀ {J : Nat → Nat → Int64} {R : Nat → Nat → Option Nat} {Q : Option Value → az_S → Prop}, Q none (97, o.2, J, R) → az_E az_F ex d 81 0 [.ref 39, .int b1, .int b2, .int b3, .int b4, .retAddr 0] [] (97, I, J, R) Q) {x : (Nat → Nat → Int32)} (h : rs_To_goOn_13 rec I v2 v4 = some x) {Q : Option Value → az_S → Prop} (hQ : Q none (97, x, J, R)) : az_E az_F ex (d + 2) 81 13 [.ref 39, .retAddr 0, .int v2, .retAddr 0, .int v4, .retAddr 0] [] (97, I, J, R) Q := by
  unfold rs_To_goOn_13 at h
  refine az_E.sn 7 (pc' := 24) (L' := [.ref 39, .retAddr 0, .int v2, .retAddr 0, .int v4, .retAddr 0]) (S' := [.int (v2 * (6 : Int32)), .ref 41, .int v4, .ref 39]) (σ' := (97, I, J, R)) rfl ?_
  by_cases hc_2 : (v2 * (6 : Int32)) < 0 ∨ 36 ≤ (v2 * (6 : Int32)).toNatClampNeg
  · rw [if_pos hc_2] at h; cases h
  · rw [if_neg hc_2] at h
    refine az_E.oi (o := az_ai az_F ex (97, I, J, R) 41 (v2 * (6 : Int32))) (pc' := 25) (L' := [.ref 39, .retAddr 0, .int v2, .retAddr 0, .int v4, .retAddr 0]) (S' := [.int v4, .ref 39]) (σ' := (97, I, J, R)) (x := (I 41 (v2 * (6 : Int32)).toNatClampNeg)) rfl (if_neg hc_2) ?_
    refine az_E.sn 1 (pc' := 26) (L' := [.ref 39, .retAddr 0, .int v2, .retAddr 0, .int v4, .retAddr 0]) (S' := [.int (v4 + (I 41 (v2 * (6 : Int32)).toNatClampNeg)), .ref 39]) (σ' := (97, I, J, R)) rfl ?_
    cases hx_4 : rs_To_finish I (v4 + (I 41 (v2 * (6 : Int32)).toNatClampNeg)) with
    | none => rw [hx_4] at h; cases h
    | some I_3 =>
      rw [hx_4] at h
      dsimp only at h
      refine az_E.call (d := (d + 1)) (k' := 82) (vs := [.ref 39, .int (v4 + (I 41 (v2 * (6 : Int32)).toNatClampNeg))]) (pc' := 29) (S' := []) (Q1 := fun v s => v = none ∧ s = (97, I_3, J, R)) rfl (az_E.deep (by omega) (re_To_finish (J := J) (R := R)  hx_4 ⟨rfl, rfl⟩)) (fun v s hq => ?_)
      obtain ⟨rfl, rfl⟩ := hq
      show az_E az_F ex (d + 2) 81 29 [.ref 39, .retAddr 0, .int v2, .retAddr 0, .int v4, .retAddr 0] [] (97, I_3, J, R) _
      have h := Option.some.inj h
      subst h
      exact az_E.ret (v := none) (σ' := (97, I_3, J, R)) rfl hQ
set_option maxRecDepth 100000 in
set_option maxHeartbeats 4000000 in
theorem re_To_goOn_33_b {rec : az_GT} {d : Nat} {ex : az_X} {I : Nat → Nat → Int32} {J : Nat → Nat → Int64} {R : Nat → Nat → Option Nat} {v1 : Int32} {v2 : Int32} {v3 : Int32} {v4 : Int32} {v5 : Int32} (hg_81 : ∀ (b1 b2 b3 b4 : Int32) (I : Nat → Nat → Int32) (o : Int32 × (Nat → Nat → Int32)), rec 81 b1 b2 b3 b4 I = some o → ∀ {J : Nat → Nat → Int64} {R : Nat → Nat → Option Nat} {Q : Option Value → az_S → Prop}, Q none (97, o.2, J, R) → az_E az_F ex d 81 0 [.ref 39, .int b1, .int b2, .int b3, .int b4, .retAddr 0] [] (97, I, J, R) Q) {x : ((Int32 × (Nat → Nat → Int32)) ⊕ ((Nat → Nat → Int32)))} (h : rs_To_goOn_33_b rec v1 v2 v3 v4 v5 I = some x) {Q : Option Value → az_S → Prop} (hQ : Sum.elim (fun s => az_E az_F ex (d + 2) 81 33 [.ref 39, .int v1, .int v2, .int v3, .int v4, .int s.1] [] (97, s.2, J, R) Q) (fun x => Q none (97, x, J, R)) x) : az_E az_F ex (d + 2) 81 33 [.ref 39, .int v1, .int v2, .int v3, .int v4, .int v5] [] (97, I, J, R) Q := by
  unfold rs_To_goOn_33_b at h
  refine az_E.sn 3 (pc' := 39) (L' := [.ref 39, .int v1, .int v2, .int v3, .int v4, .int v5]) (S' := [.int (I 39 1), .int v5]) (σ' := (97, I, J, R)) rfl ?_
  refine az_E.br (c := (I 39 1) < v5) (tt := 100) (ff := 42) (L' := [.ref 39, .int v1, .int v2, .int v3, .int v4, .int v5]) (S' := []) (σ' := (97, I, J, R)) rfl (fun hc_6 => ?_) (fun hc_6 => ?_)
  · rw [if_pos hc_6] at h
    have h := Option.some.inj h
    subst h
    exact az_E.ret (v := none) (σ' := (97, I, J, R)) rfl hQ
  · rw [if_neg hc_6] at h
    refine az_E.sn 5 (pc' := 48) (L' := [.ref 39, .int v1, .int v2, .int v3, .int v4, .int v5]) (S' := [.int ((v3 >>> (v5 &&& 31)) &&& (1 : Int32))]) (σ' := (97, I, J, R)) rfl ?_
    refine az_E.br (c := ((v3 >>> (v5 &&& 31)) &&& (1 : Int32)) = 0) (tt := 51) (ff := 94) (L' := [.ref 39, .int v1, .int v2, .int v3, .int v4, .int v5]) (S' := []) (σ' := (97, I, J, R)) rfl (fun hc_7 => ?_) (fun hc_7 => ?_)
    · rw [if_pos hc_7] at h
      refine az_E.sn 6 (pc' := 62) (L' := [.ref 39, .int v1, .int v2, .int v3, .int v4, .int v5]) (S' := [.int v5, .ref 40, .int v1, .ref 42]) (σ' := (97, I, J, R)) rfl ?_
      by_cases hc_8 : v5 < 0 ∨ 6 ≤ v5.toNatClampNeg
      · rw [if_pos hc_8] at h; cases h
      · rw [if_neg hc_8] at h
        refine az_E.oi (o := az_ai az_F ex (97, I, J, R) 40 v5) (pc' := 63) (L' := [.ref 39, .int v1, .int v2, .int v3, .int v4, .int v5]) (S' := [.int v1, .ref 42]) (σ' := (97, I, J, R)) (x := (I 40 v5.toNatClampNeg)) rfl (if_neg hc_8) ?_
        by_cases hc_9 : v1 < 0 ∨ 6 ≤ v1.toNatClampNeg
        · rw [if_pos hc_9] at h; cases h
        · rw [if_neg hc_9] at h
          refine az_E.o (o := az_si az_F (97, I, J, R) 42 v1 (I 40 v5.toNatClampNeg)) (pc' := 64) (L' := [.ref 39, .int v1, .int v2, .int v3, .int v4, .int v5]) (S' := []) (x := (97, (az_u I 42 v1.toNatClampNeg (I 40 v5.toNatClampNeg)), J, R)) rfl (if_neg hc_9) ?_
          refine az_E.sn 18 (pc' := 89) (L' := [.ref 39, .int v1, .int v2, .int v3, .int v4, .int v5]) (S' := [.int ((v2 * (6 : Int32)) + v5), .ref 41, .int v4, .int (v3 ||| ((1 : Int32) <<< (v5 &&& 31))), .int v5, .int (v1 + (1 : Int32)), .ref 39]) (σ' := (97, (az_u I 42 v1.toNatClampNeg (I 40 v5.toNatClampNeg)), J, R)) rfl ?_
          by_cases hc_10 : ((v2 * (6 : Int32)) + v5) < 0 ∨ 36 ≤ ((v2 * (6 : Int32)) + v5).toNatClampNeg
          · rw [if_pos hc_10] at h; cases h
          · rw [if_neg hc_10] at h
            refine az_E.oi (o := az_ai az_F ex (97, (az_u I 42 v1.toNatClampNeg (I 40 v5.toNatClampNeg)), J, R) 41 ((v2 * (6 : Int32)) + v5)) (pc' := 90) (L' := [.ref 39, .int v1, .int v2, .int v3, .int v4, .int v5]) (S' := [.int v4, .int (v3 ||| ((1 : Int32) <<< (v5 &&& 31))), .int v5, .int (v1 + (1 : Int32)), .ref 39]) (σ' := (97, (az_u I 42 v1.toNatClampNeg (I 40 v5.toNatClampNeg)), J, R)) (x := (I 41 ((v2 * (6 : Int32)) + v5).toNatClampNeg)) rfl (if_neg hc_10) ?_
            refine az_E.sn 1 (pc' := 91) (L' := [.ref 39, .int v1, .int v2, .int v3, .int v4, .int v5]) (S' := [.int (v4 + (I 41 ((v2 * (6 : Int32)) + v5).toNatClampNeg)), .int (v3 ||| ((1 : Int32) <<< (v5 &&& 31))), .int v5, .int (v1 + (1 : Int32)), .ref 39]) (σ' := (97, (az_u I 42 v1.toNatClampNeg (I 40 v5.toNatClampNeg)), J, R)) rfl ?_
            cases hx_13 : rec 81 (v1 + (1 : Int32)) v5 (v3 ||| ((1 : Int32) <<< (v5 &&& 31))) (v4 + (I 41 ((v2 * (6 : Int32)) + v5).toNatClampNeg)) (az_u I 42 v1.toNatClampNeg (I 40 v5.toNatClampNeg)) with
            | none => rw [hx_13] at h; cases h
            | some o =>
              rw [hx_13] at h
              obtain ⟨x_11, I_12⟩ := o
              dsimp only at h
              refine az_E.call (d := (d + 1)) (k' := 81) (vs := [.ref 39, .int (v1 + (1 : Int32)), .int v5, .int (v3 ||| ((1 : Int32) <<< (v5 &&& 31))), .int (v4 + (I 41 ((v2 * (6 : Int32)) + v5).toNatClampNeg))]) (pc' := 94) (S' := []) (Q1 := fun v s => v = none ∧ s = (97, I_12, J, R)) rfl (az_E.deep (by omega) (hg_81 _ _ _ _ _ _ hx_13 (J := J) (R := R)  ⟨rfl, rfl⟩)) (fun v s hq => ?_)
              obtain ⟨rfl, rfl⟩ := hq
              show az_E az_F ex (d + 2) 81 94 [.ref 39, .int v1, .int v2, .int v3, .int v4, .int v5] [] (97, I_12, J, R) _
              refine az_E.sn 2 (pc' := 33) (L' := [.ref 39, .int v1, .int v2, .int v3, .int v4, .int (v5 + (1 : Int32))]) (S' := []) (σ' := (97, I_12, J, R)) rfl ?_
              have h := Option.some.inj h
              subst h
              exact az_E.forget (L := [.ref 39, .int v1, .int v2, .int v3, .int v4, .int (v5 + (1 : Int32))]) ⟨rfl, rfl, rfl, rfl, rfl, rfl, trivial⟩ hQ
    · rw [if_neg hc_7] at h
      refine az_E.sn 2 (pc' := 33) (L' := [.ref 39, .int v1, .int v2, .int v3, .int v4, .int (v5 + (1 : Int32))]) (S' := []) (σ' := (97, I, J, R)) rfl ?_
      have h := Option.some.inj h
      subst h
      exact az_E.forget (L := [.ref 39, .int v1, .int v2, .int v3, .int v4, .int (v5 + (1 : Int32))]) ⟨rfl, rfl, rfl, rfl, rfl, rfl, trivial⟩ hQ
set_option maxRecDepth 100000 in
set_option maxHeartbeats 4000000 in
theorem re_To_goOn_33 {rec : az_GT} {d : Nat} {ex : az_X} {I : Nat → Nat → Int32} {J : Nat → Nat → Int64} {R : Nat → Nat → Option Nat} {v1 : Int32} {v2 : Int32} {v3 : Int32} {v4 : Int32} {v5 : Int32} (hg_81 : ∀ (b1 b2 b3 b4 : Int32) (I : Nat → Nat → Int32) (o : Int32 × (Nat → Nat → Int32)), rec 81 b1 b2 b3 b4 I = some o → ∀ {J : Nat → Nat → Int64} {R : Nat → Nat → Option Nat} {Q : Option Value → az_S → Prop}, Q none (97, o.2, J, R) → az_E az_F ex d 81 0 [.ref 39, .int b1, .int b2, .int b3, .int b4, .retAddr 0] [] (97, I, J, R) Q) {x : (Nat → Nat → Int32)} (h : rs_To_goOn_33 rec I v1 v2 v3 v4 v5 = some x) {Q : Option Value → az_S → Prop} (hQ : Q none (97, x, J, R)) : az_E az_F ex (d + 2) 81 33 [.ref 39, .int v1, .int v2, .int v3, .int v4, .int v5] [] (97, I, J, R) Q := by
  unfold rs_To_goOn_33 at h
  refine az_lp_E (G := fun s => az_E az_F ex (d + 2) 81 33 [.ref 39, .int v1, .int v2, .int v3, .int v4, .int s.1] [] (97, s.2, J, R) Q) (H := fun x => Q none (97, x, J, R)) (fun s o hb ho => ?_) _ _ _ h hQ
  exact re_To_goOn_33_b hg_81 hb ho
set_option maxRecDepth 100000 in
set_option maxHeartbeats 4000000 in
theorem re_To_goOn {rec : az_GT} {d : Nat} {ex : az_X} {I : Nat → Nat → Int32} {J : Nat → Nat → Int64} {R : Nat → Nat → Option Nat} {a1 : Int32} {a2 : Int32} {a3 : Int32} {a4 : Int32} (hg_81 : ∀ (b1 b2 b3 b4 : Int32) (I : Nat → Nat → Int32) (o : Int32 × (Nat → Nat → Int32)), rec 81 b1 b2 b3 b4 I = some o → ∀ {J : Nat → Nat → Int64} {R : Nat → Nat → Option Nat} {Q : Option Value → az_S → Prop}, Q none (97, o.2, J, R) → az_E az_F ex d 81 0 [.ref 39, .int b1, .int b2, .int b3, .int b4, .retAddr 0] [] (97, I, J, R) Q) {o : (Nat → Nat → Int32)} (h : rs_To_goOn rec I a1 a2 a3 a4 = some o) {Q : Option Value → az_S → Prop} (hQ : Q none (97, o, J, R)) : az_E az_F ex (d + 2) 81 0 [.ref 39, .int a1, .int a2, .int a3, .int a4, .retAddr 0] [] (97, I, J, R) Q := by
  unfold rs_To_goOn at h
  refine az_E.sn 3 (pc' := 5) (L' := [.ref 39, .int a1, .int a2, .int a3, .int a4, .retAddr 0]) (S' := [.int (I 39 1), .int a1]) (σ' := (97, I, J, R)) rfl ?_
  refine az_E.br (c := (I 39 1) ≤ a1) (tt := 13) (ff := 8) (L' := [.ref 39, .int a1, .int a2, .int a3, .int a4, .retAddr 0]) (S' := []) (σ' := (97, I, J, R)) rfl (fun hc_1 => ?_) (fun hc_1 => ?_)
  · rw [if_pos hc_1] at h
    exact az_E.forget (L := [.ref 39, .retAddr 0, .int a2, .retAddr 0, .int a4, .retAddr 0]) ⟨rfl, trivial, rfl, trivial, rfl, trivial, trivial⟩ (re_To_goOn_13 (I := I) (J := J) (R := R) hg_81 h hQ)
  · rw [if_neg hc_1] at h
    refine az_E.sn 2 (pc' := 10) (L' := [.ref 39, .int a1, .int a2, .int a3, .int a4, .retAddr 0]) (S' := [.int (5 : Int32), .int a1]) (σ' := (97, I, J, R)) rfl ?_
    refine az_E.br (c := a1 < (5 : Int32)) (tt := 30) (ff := 13) (L' := [.ref 39, .int a1, .int a2, .int a3, .int a4, .retAddr 0]) (S' := []) (σ' := (97, I, J, R)) rfl (fun hc_5 => ?_) (fun hc_5 => ?_)
    · rw [if_pos hc_5] at h
      refine az_E.sn 2 (pc' := 33) (L' := [.ref 39, .int a1, .int a2, .int a3, .int a4, .int (1 : Int32)]) (S' := []) (σ' := (97, I, J, R)) rfl ?_
      exact az_E.forget (L := [.ref 39, .int a1, .int a2, .int a3, .int a4, .int (1 : Int32)]) ⟨rfl, rfl, rfl, rfl, rfl, rfl, trivial⟩ (re_To_goOn_33 (I := I) (J := J) (R := R) hg_81 h hQ)
    · rw [if_neg hc_5] at h
      exact az_E.forget (L := [.ref 39, .retAddr 0, .int a2, .retAddr 0, .int a4, .retAddr 0]) ⟨rfl, trivial, rfl, trivial, rfl, trivial, trivial⟩ (re_To_goOn_13 (I := I) (J := J) (R := R) hg_81 h hQ)
set_option maxRecDepth 100000 in
set_option maxHeartbeats 4000000 in
theorem re_G2 {ex : az_X} : ∀ n : Nat, (∀ (b1 b2 b3 b4 : Int32) (I : Nat → Nat → Int32) (o : Int32 × (Nat → Nat → Int32)), rs_G2 n 81 b1 b2 b3 b4 I = some o → ∀ {J : Nat → Nat → Int64} {R : Nat → Nat → Option Nat} {Q : Option Value → az_S → Prop}, Q none (97, o.2, J, R) → az_E az_F ex (n * 2) 81 0 [.ref 39, .int b1, .int b2, .int b3, .int b4, .retAddr 0] [] (97, I, J, R) Q) := by
  intro n
  induction n with
  | zero =>
    refine ?_
    all_goals (intro b1 b2 b3 b4 I o h; cases h)
  | succ n ih =>
    have hg_81 := ih
    have e : (n + 1) * 2 = n * 2 + 2 := by omega
    rw [e]
    refine ?_
    · intro b1 b2 b3 b4 I o h J R Q  hQ
      replace h : (rs_To_goOn (rs_G2 n)  I b1 b2 b3 b4).map (fun I => ((0 : Int32), I)) = some o := h
      obtain ⟨I1, hI, rfl⟩ := Option.map_eq_some_iff.mp h
      exact re_To_goOn hg_81  hI hQ
set_option maxRecDepth 100000 in
set_option maxHeartbeats 4000000 in
theorem re_G2_81 {ex : az_X} {n : Nat} : ∀ (b1 b2 b3 b4 : Int32) (I : Nat → Nat → Int32) (o : Int32 × (Nat → Nat → Int32)), rs_G2 n 81 b1 b2 b3 b4 I = some o → ∀ {J : Nat → Nat → Int64} {R : Nat → Nat → Option Nat} {Q : Option Value → az_S → Prop}, Q none (97, o.2, J, R) → az_E az_F ex (n * 2) 81 0 [.ref 39, .int b1, .int b2, .int b3, .int b4, .retAddr 0] [] (97, I, J, R) Q := (re_G2 n)
set_option maxRecDepth 100000 in
set_option maxHeartbeats 4000000 in
theorem re_To_findBest {ex : az_X} {I : Nat → Nat → Int32} {J : Nat → Nat → Int64} {R : Nat → Nat → Option Nat} {o : (Nat → Nat → Int32)} (h : rs_To_findBest I = some o) {Q : Option Value → az_S → Prop} (hQ : Q none (97, o, J, R)) : az_E az_F ex 121 80 0 [.ref 39] [] (97, I, J, R) Q := by
  unfold rs_To_findBest at h
  refine az_E.sn 8 (pc' := 11) (L' := [.ref 39]) (S' := [.int (0 : Int32), .int (0 : Int32), .int (0 : Int32), .int (0 : Int32), .ref 39]) (σ' := (97, (az_u I 39 5 (2147483647 : Int32)), J, R)) rfl ?_
  cases hx_3 : rs_G2 60 81 (0 : Int32) (0 : Int32) (0 : Int32) (0 : Int32) (az_u I 39 5 (2147483647 : Int32)) with
  | none => rw [hx_3] at h; cases h
  | some o =>
    rw [hx_3] at h
    obtain ⟨x_1, I_2⟩ := o
    dsimp only at h
    refine az_E.call (d := 120) (k' := 81) (vs := [.ref 39, .int (0 : Int32), .int (0 : Int32), .int (0 : Int32), .int (0 : Int32)]) (pc' := 14) (S' := []) (Q1 := fun v s => v = none ∧ s = (97, I_2, J, R)) rfl (az_E.deep (by omega) (re_G2_81 (n := 60) _ _ _ _ _ _ hx_3 (J := J) (R := R)  ⟨rfl, rfl⟩)) (fun v s hq => ?_)
    obtain ⟨rfl, rfl⟩ := hq
    show az_E az_F ex 121 80 14 [.ref 39] [] (97, I_2, J, R) _
    have h := Option.some.inj h
    subst h
    exact az_E.ret (v := none) (σ' := (97, I_2, J, R)) rfl hQ
set_option maxRecDepth 100000 in
set_option maxHeartbeats 4000000 in
theorem re_X_round_16_21 {ex : az_X} {I : Nat → Nat → Int32} {J : Nat → Nat → Int64} {R : Nat → Nat → Option Nat} {a1 : Int32} {a2 : Int32} {a3 : Int32} (hR_3_2 : R 3 2 = some 16) (hR_3_3 : R 3 3 = some 21) {o : Int32 × (Nat → Nat → Int32)} (h : rs_X_round 21 16 I a1 a2 a3 = some o) {Q : Option Value → az_S → Prop} (hQ : ∀ R' : Nat → Nat → Option Nat, R' 3 2 = some 16 → R' 3 3 = some 21 → Q (some (.int o.1)) (97, o.2, J, R')) : az_E az_F ex 122 101 0 [.ref 3, .int a1, .int a2, .int a3, .retAddr 0] [] (97, I, J, R) Q := by
  unfold rs_X_round at h
  refine az_E.sn 1 (pc' := 1) (L' := [.ref 3, .int a1, .int a2, .int a3, .retAddr 0]) (S' := [.int a1]) (σ' := (97, I, J, R)) rfl ?_
  refine az_E.br (c := a1 < 0) (tt := 28) (ff := 4) (L' := [.ref 3, .int a1, .int a2, .int a3, .retAddr 0]) (S' := []) (σ' := (97, I, J, R)) rfl (fun hc_1 => ?_) (fun hc_1 => ?_)
  · rw [if_pos hc_1] at h
    refine az_E.sn 1 (pc' := 29) (L' := [.ref 3, .int a1, .int a2, .int a3, .retAddr 0]) (S' := [.int (-1 : Int32)]) (σ' := (97, I, J, R)) rfl ?_
    have h := Option.some.inj h
    subst h
    exact az_E.ret (v := some (.int (-1 : Int32))) (σ' := (97, I, J, R)) rfl (hQ _ hR_3_2 hR_3_3)
  · rw [if_neg hc_1] at h
    refine az_E.sn 2 (pc' := 8) (L' := [.ref 3, .int a1, .int a2, .int a3, .retAddr 0]) (S' := [.int (1000 : Int32), .int a1]) (σ' := (97, I, J, R)) rfl ?_
    have hd_2 : ¬ ((1000 : Int32) = 0) := by decide
    refine az_E.dv (c := (1000 : Int32) = 0) (pc' := 9) (L' := [.ref 3, .int a1, .int a2, .int a3, .retAddr 0]) (S' := [.int (a1 / (1000 : Int32))]) (σ' := (97, I, J, R)) rfl hd_2 ?_
    refine az_E.call (d := 121) (k' := 133) (vs := [.int (a1 / (1000 : Int32))]) (pc' := 12) (S' := []) rfl ?_ (fun _ _ hq => hq)
    show az_E az_F ex 121 133 0 [.int (a1 / (1000 : Int32))] [] (97, I, J, R) _
    refine az_E.sn 3 (pc' := 5) (L' := [.int (a1 / (1000 : Int32))]) (S' := [.int (143 : Int32), .int (0 : Int32), .int (a1 / (1000 : Int32))]) (σ' := (97, I, J, R)) rfl ?_
    refine az_E.call (d := 120) (k' := 131) (vs := [.int (a1 / (1000 : Int32)), .int (0 : Int32), .int (143 : Int32)]) (pc' := 8) (S' := []) rfl ?_ (fun _ _ hq => hq)
    show az_E az_F ex 120 131 0 [.int (a1 / (1000 : Int32)), .int (0 : Int32), .int (143 : Int32)] [] (97, I, J, R) _
    refine az_E.sn 2 (pc' := 2) (L' := [.int (a1 / (1000 : Int32)), .int (0 : Int32), .int (143 : Int32)]) (S' := [.int (0 : Int32), .int (a1 / (1000 : Int32))]) (σ' := (97, I, J, R)) rfl ?_
    refine az_E.br (c := (a1 / (1000 : Int32)) < (0 : Int32)) (tt := 14) (ff := 5) (L' := [.int (a1 / (1000 : Int32)), .int (0 : Int32), .int (143 : Int32)]) (S' := []) (σ' := (97, I, J, R)) rfl (fun hc_3 => ?_) (fun hc_3 => ?_)
    · rw [if_pos hc_3] at h
      refine az_E.sn 1 (pc' := 15) (L' := [.int (a1 / (1000 : Int32)), .int (0 : Int32), .int (143 : Int32)]) (S' := [.int (0 : Int32)]) (σ' := (97, I, J, R)) rfl ?_
      refine az_E.ret (v := some (.int (0 : Int32))) (σ' := (97, I, J, R)) rfl ?_
      show az_E az_F ex 121 133 8 [.int (a1 / (1000 : Int32))] [.int (0 : Int32)] (97, I, J, R) _
      refine az_E.ret (v := some (.int (0 : Int32))) (σ' := (97, I, J, R)) rfl ?_
      show az_E az_F ex 122 101 12 [.ref 3, .int a1, .int a2, .int a3, .retAddr 0] [.int (0 : Int32)] (97, I, J, R) _
      refine az_E.br (c := (0 : Int32) = 0) (tt := 28) (ff := 15) (L' := [.ref 3, .int a1, .int a2, .int a3, .retAddr 0]) (S' := []) (σ' := (97, I, J, R)) rfl (fun _ => ?_) (fun hn => absurd (by decide) hn)
      refine az_E.sn 1 (pc' := 29) (L' := [.ref 3, .int a1, .int a2, .int a3, .retAddr 0]) (S' := [.int (-1 : Int32)]) (σ' := (97, I, J, R)) rfl ?_
      have h := Option.some.inj h
      subst h
      exact az_E.ret (v := some (.int (-1 : Int32))) (σ' := (97, I, J, R)) rfl (hQ _ hR_3_2 hR_3_3)
    · rw [if_neg hc_3] at h
      refine az_E.sn 2 (pc' := 7) (L' := [.int (a1 / (1000 : Int32)), .int (0 : Int32), .int (143 : Int32)]) (S' := [.int (143 : Int32), .int (a1 / (1000 : Int32))]) (σ' := (97, I, J, R)) rfl ?_
      refine az_E.br (c := (143 : Int32) < (a1 / (1000 : Int32))) (tt := 14) (ff := 10) (L' := [.int (a1 / (1000 : Int32)), .int (0 : Int32), .int (143 : Int32)]) (S' := []) (σ' := (97, I, J, R)) rfl (fun hc_4 => ?_) (fun hc_4 => ?_)
      · rw [if_pos hc_4] at h
        refine az_E.sn 1 (pc' := 15) (L' := [.int (a1 / (1000 : Int32)), .int (0 : Int32), .int (143 : Int32)]) (S' := [.int (0 : Int32)]) (σ' := (97, I, J, R)) rfl ?_
        refine az_E.ret (v := some (.int (0 : Int32))) (σ' := (97, I, J, R)) rfl ?_
        show az_E az_F ex 121 133 8 [.int (a1 / (1000 : Int32))] [.int (0 : Int32)] (97, I, J, R) _
        refine az_E.ret (v := some (.int (0 : Int32))) (σ' := (97, I, J, R)) rfl ?_
        show az_E az_F ex 122 101 12 [.ref 3, .int a1, .int a2, .int a3, .retAddr 0] [.int (0 : Int32)] (97, I, J, R) _
        refine az_E.br (c := (0 : Int32) = 0) (tt := 28) (ff := 15) (L' := [.ref 3, .int a1, .int a2, .int a3, .retAddr 0]) (S' := []) (σ' := (97, I, J, R)) rfl (fun _ => ?_) (fun hn => absurd (by decide) hn)
        refine az_E.sn 1 (pc' := 29) (L' := [.ref 3, .int a1, .int a2, .int a3, .retAddr 0]) (S' := [.int (-1 : Int32)]) (σ' := (97, I, J, R)) rfl ?_
        have h := Option.some.inj h
        subst h
        exact az_E.ret (v := some (.int (-1 : Int32))) (σ' := (97, I, J, R)) rfl (hQ _ hR_3_2 hR_3_3)
      · rw [if_neg hc_4] at h
        refine az_E.sn 2 (pc' := 15) (L' := [.int (a1 / (1000 : Int32)), .int (0 : Int32), .int (143 : Int32)]) (S' := [.int (1 : Int32)]) (σ' := (97, I, J, R)) rfl ?_
        refine az_E.ret (v := some (.int (1 : Int32))) (σ' := (97, I, J, R)) rfl ?_
        show az_E az_F ex 121 133 8 [.int (a1 / (1000 : Int32))] [.int (1 : Int32)] (97, I, J, R) _
        refine az_E.ret (v := some (.int (1 : Int32))) (σ' := (97, I, J, R)) rfl ?_
        show az_E az_F ex 122 101 12 [.ref 3, .int a1, .int a2, .int a3, .retAddr 0] [.int (1 : Int32)] (97, I, J, R) _
        refine az_E.br (c := (1 : Int32) = 0) (tt := 28) (ff := 15) (L' := [.ref 3, .int a1, .int a2, .int a3, .retAddr 0]) (S' := []) (σ' := (97, I, J, R)) rfl (fun hn => absurd hn (by decide)) (fun _ => ?_)
        refine az_E.sn 2 (pc' := 17) (L' := [.ref 3, .int a1, .int a2, .int a3, .retAddr 0]) (S' := [.int a2, .ref 3]) (σ' := (97, I, J, R)) rfl ?_
        refine az_E.call (d := 121) (k' := 138) (vs := [.ref 3, .int a2]) (pc' := 20) (S' := []) rfl ?_ (fun _ _ hq => hq)
        show az_E az_F ex 121 138 0 [.ref 3, .int a2] [] (97, I, J, R) _
        refine az_E.sn 7 (pc' := 11) (L' := [.ref 3, .int a2]) (S' := [.int ((I 4 9) - (1 : Int32)), .int (0 : Int32), .int a2]) (σ' := (97, I, J, R)) rfl ?_
        refine az_E.call (d := 120) (k' := 131) (vs := [.int a2, .int (0 : Int32), .int ((I 4 9) - (1 : Int32))]) (pc' := 14) (S' := []) rfl ?_ (fun _ _ hq => hq)
        show az_E az_F ex 120 131 0 [.int a2, .int (0 : Int32), .int ((I 4 9) - (1 : Int32))] [] (97, I, J, R) _
        refine az_E.sn 2 (pc' := 2) (L' := [.int a2, .int (0 : Int32), .int ((I 4 9) - (1 : Int32))]) (S' := [.int (0 : Int32), .int a2]) (σ' := (97, I, J, R)) rfl ?_
        refine az_E.br (c := a2 < (0 : Int32)) (tt := 14) (ff := 5) (L' := [.int a2, .int (0 : Int32), .int ((I 4 9) - (1 : Int32))]) (S' := []) (σ' := (97, I, J, R)) rfl (fun hc_5 => ?_) (fun hc_5 => ?_)
        · rw [if_pos hc_5] at h
          refine az_E.sn 1 (pc' := 15) (L' := [.int a2, .int (0 : Int32), .int ((I 4 9) - (1 : Int32))]) (S' := [.int (0 : Int32)]) (σ' := (97, I, J, R)) rfl ?_
          refine az_E.ret (v := some (.int (0 : Int32))) (σ' := (97, I, J, R)) rfl ?_
          show az_E az_F ex 121 138 14 [.ref 3, .int a2] [.int (0 : Int32)] (97, I, J, R) _
          refine az_E.ret (v := some (.int (0 : Int32))) (σ' := (97, I, J, R)) rfl ?_
          show az_E az_F ex 122 101 20 [.ref 3, .int a1, .int a2, .int a3, .retAddr 0] [.int (0 : Int32)] (97, I, J, R) _
          refine az_E.br (c := (0 : Int32) = 0) (tt := 28) (ff := 23) (L' := [.ref 3, .int a1, .int a2, .int a3, .retAddr 0]) (S' := []) (σ' := (97, I, J, R)) rfl (fun _ => ?_) (fun hn => absurd (by decide) hn)
          refine az_E.sn 1 (pc' := 29) (L' := [.ref 3, .int a1, .int a2, .int a3, .retAddr 0]) (S' := [.int (-1 : Int32)]) (σ' := (97, I, J, R)) rfl ?_
          have h := Option.some.inj h
          subst h
          exact az_E.ret (v := some (.int (-1 : Int32))) (σ' := (97, I, J, R)) rfl (hQ _ hR_3_2 hR_3_3)
        · rw [if_neg hc_5] at h
          refine az_E.sn 2 (pc' := 7) (L' := [.int a2, .int (0 : Int32), .int ((I 4 9) - (1 : Int32))]) (S' := [.int ((I 4 9) - (1 : Int32)), .int a2]) (σ' := (97, I, J, R)) rfl ?_
          refine az_E.br (c := ((I 4 9) - (1 : Int32)) < a2) (tt := 14) (ff := 10) (L' := [.int a2, .int (0 : Int32), .int ((I 4 9) - (1 : Int32))]) (S' := []) (σ' := (97, I, J, R)) rfl (fun hc_6 => ?_) (fun hc_6 => ?_)
          · rw [if_pos hc_6] at h
            refine az_E.sn 1 (pc' := 15) (L' := [.int a2, .int (0 : Int32), .int ((I 4 9) - (1 : Int32))]) (S' := [.int (0 : Int32)]) (σ' := (97, I, J, R)) rfl ?_
            refine az_E.ret (v := some (.int (0 : Int32))) (σ' := (97, I, J, R)) rfl ?_
            show az_E az_F ex 121 138 14 [.ref 3, .int a2] [.int (0 : Int32)] (97, I, J, R) _
            refine az_E.ret (v := some (.int (0 : Int32))) (σ' := (97, I, J, R)) rfl ?_
            show az_E az_F ex 122 101 20 [.ref 3, .int a1, .int a2, .int a3, .retAddr 0] [.int (0 : Int32)] (97, I, J, R) _
            refine az_E.br (c := (0 : Int32) = 0) (tt := 28) (ff := 23) (L' := [.ref 3, .int a1, .int a2, .int a3, .retAddr 0]) (S' := []) (σ' := (97, I, J, R)) rfl (fun _ => ?_) (fun hn => absurd (by decide) hn)
            refine az_E.sn 1 (pc' := 29) (L' := [.ref 3, .int a1, .int a2, .int a3, .retAddr 0]) (S' := [.int (-1 : Int32)]) (σ' := (97, I, J, R)) rfl ?_
            have h := Option.some.inj h
            subst h
            exact az_E.ret (v := some (.int (-1 : Int32))) (σ' := (97, I, J, R)) rfl (hQ _ hR_3_2 hR_3_3)
          · rw [if_neg hc_6] at h
            refine az_E.sn 2 (pc' := 15) (L' := [.int a2, .int (0 : Int32), .int ((I 4 9) - (1 : Int32))]) (S' := [.int (1 : Int32)]) (σ' := (97, I, J, R)) rfl ?_
            refine az_E.ret (v := some (.int (1 : Int32))) (σ' := (97, I, J, R)) rfl ?_
            show az_E az_F ex 121 138 14 [.ref 3, .int a2] [.int (1 : Int32)] (97, I, J, R) _
            refine az_E.ret (v := some (.int (1 : Int32))) (σ' := (97, I, J, R)) rfl ?_
            show az_E az_F ex 122 101 20 [.ref 3, .int a1, .int a2, .int a3, .retAddr 0] [.int (1 : Int32)] (97, I, J, R) _
            refine az_E.br (c := (1 : Int32) = 0) (tt := 28) (ff := 23) (L' := [.ref 3, .int a1, .int a2, .int a3, .retAddr 0]) (S' := []) (σ' := (97, I, J, R)) rfl (fun hn => absurd hn (by decide)) (fun _ => ?_)
            refine az_E.sn 2 (pc' := 25) (L' := [.ref 3, .int a1, .int a2, .int a3, .retAddr 0]) (S' := [.int (-1 : Int32), .int a3]) (σ' := (97, I, J, R)) rfl ?_
            refine az_E.br (c := (-1 : Int32) ≤ a3) (tt := 30) (ff := 28) (L' := [.ref 3, .int a1, .int a2, .int a3, .retAddr 0]) (S' := []) (σ' := (97, I, J, R)) rfl (fun hc_7 => ?_) (fun hc_7 => ?_)
            · rw [if_pos hc_7] at h
              refine az_E.sn 2 (pc' := 34) (L' := [.ref 3, .int a1, .int a2, .int a3, .retAddr 0]) (S' := [.int (1000 : Int32), .int a1]) (σ' := (97, I, J, R)) rfl ?_
              have hd_8 : ¬ ((1000 : Int32) = 0) := by decide
              refine az_E.dv (c := (1000 : Int32) = 0) (pc' := 35) (L' := [.ref 3, .int a1, .int a2, .int a3, .retAddr 0]) (S' := [.int (a1 - a1 / (1000 : Int32) * (1000 : Int32))]) (σ' := (97, I, J, R)) rfl hd_8 ?_
              refine az_E.sn 7 (pc' := 48) (L' := [.ref 3, .int a1, .int a2, .int a3, .int (a1 - a1 / (1000 : Int32) * (1000 : Int32))]) (S' := [.int ((1 : Int32) <<< ((I 4 3) &&& 31)), .int (a1 - a1 / (1000 : Int32) * (1000 : Int32))]) (σ' := (97, I, J, R)) rfl ?_
              refine az_E.br (c := (a1 - a1 / (1000 : Int32) * (1000 : Int32)) < ((1 : Int32) <<< ((I 4 3) &&& 31))) (tt := 53) (ff := 51) (L' := [.ref 3, .int a1, .int a2, .int a3, .int (a1 - a1 / (1000 : Int32) * (1000 : Int32))]) (S' := []) (σ' := (97, I, J, R)) rfl (fun hc_9 => ?_) (fun hc_9 => ?_)
              · rw [if_pos hc_9] at h
                refine az_E.sn 1 (pc' := 55) (L' := [.ref 3, .int a1, .int a2, .int a3, .int (a1 - a1 / (1000 : Int32) * (1000 : Int32))]) (S' := [.int (a1 - a1 / (1000 : Int32) * (1000 : Int32))]) (σ' := (97, I, J, R)) rfl ?_
                cases hx_11 : rs_JI_bitCount (a1 - a1 / (1000 : Int32) * (1000 : Int32)) with
                | none => rw [hx_11] at h; cases h
                | some x_10 =>
                  rw [hx_11] at h
                  dsimp only at h
                  refine az_E.call (d := 121) (k' := 255) (vs := [.int (a1 - a1 / (1000 : Int32) * (1000 : Int32))]) (pc' := 58) (S' := []) (Q1 := fun v s => v = some (.int x_10) ∧ s = (97, I, J, R)) rfl (az_E.deep (by omega) (re_JI_bitCount (J := J) (R := R)  hx_11 ⟨rfl, rfl⟩)) (fun v s hq => ?_)
                  obtain ⟨rfl, rfl⟩ := hq
                  show az_E az_F ex 122 101 58 [.ref 3, .int a1, .int a2, .int a3, .int (a1 - a1 / (1000 : Int32) * (1000 : Int32))] [.int x_10] (97, I, J, R) _
                  refine az_E.sn 1 (pc' := 59) (L' := [.ref 3, .int a1, .int a2, .int a3, .int (a1 - a1 / (1000 : Int32) * (1000 : Int32))]) (S' := [.int (5 : Int32), .int x_10]) (σ' := (97, I, J, R)) rfl ?_
                  refine az_E.br (c := x_10 ≤ (5 : Int32)) (tt := 65) (ff := 62) (L' := [.ref 3, .int a1, .int a2, .int a3, .int (a1 - a1 / (1000 : Int32) * (1000 : Int32))]) (S' := []) (σ' := (97, I, J, R)) rfl (fun hc_12 => ?_) (fun hc_12 => ?_)
                  · rw [if_pos hc_12] at h
                    refine az_E.sn 2 (pc' := 68) (L' := [.ref 3, .int a1, .int a2, .int a3, .int (a1 - a1 / (1000 : Int32) * (1000 : Int32))]) (S' := [.int (a1 - a1 / (1000 : Int32) * (1000 : Int32)), .int a3]) (σ' := (97, I, J, R)) rfl ?_
                    refine az_E.call (d := 121) (k' := 255) (vs := [.int (a1 - a1 / (1000 : Int32) * (1000 : Int32))]) (pc' := 71) (S' := [.int a3]) (Q1 := fun v s => v = some (.int x_10) ∧ s = (97, I, J, R)) rfl (az_E.deep (by omega) (re_JI_bitCount (J := J) (R := R)  hx_11 ⟨rfl, rfl⟩)) (fun v s hq => ?_)
                    obtain ⟨rfl, rfl⟩ := hq
                    show az_E az_F ex 122 101 71 [.ref 3, .int a1, .int a2, .int a3, .int (a1 - a1 / (1000 : Int32) * (1000 : Int32))] [.int x_10, .int a3] (97, I, J, R) _
                    refine az_E.br (c := a3 < x_10) (tt := 77) (ff := 74) (L' := [.ref 3, .int a1, .int a2, .int a3, .int (a1 - a1 / (1000 : Int32) * (1000 : Int32))]) (S' := []) (σ' := (97, I, J, R)) rfl (fun hc_13 => ?_) (fun hc_13 => ?_)
                    · rw [if_pos hc_13] at h
                      refine az_E.sn 2 (pc' := 79) (L' := [.ref 3, .int a1, .int a2, .int a3, .int (a1 - a1 / (1000 : Int32) * (1000 : Int32))]) (S' := [.int a2, .ref 3]) (σ' := (97, I, J, R)) rfl ?_
                      cases hx_15 : rs_X_setPace 16 I a2 with
                      | none => rw [hx_15] at h; cases h
                      | some I_14 =>
                        rw [hx_15] at h
                        dsimp only at h
                        refine az_E.call (d := 121) (k' := 144) (vs := [.ref 3, .int a2]) (pc' := 82) (S' := []) (Q1 := fun v s => v = none ∧ s = (97, I_14, J, (az_u (az_u R 26 2 (some 16)) 26 3 (some 5)))) rfl (az_E.deep (by omega) (re_X_setPace_16 (J := J) (R := R) hR_3_2 hx_15 ⟨rfl, rfl⟩)) (fun v s hq => ?_)
                        obtain ⟨rfl, rfl⟩ := hq
                        show az_E az_F ex 122 101 82 [.ref 3, .int a1, .int a2, .int a3, .int (a1 - a1 / (1000 : Int32) * (1000 : Int32))] [] (97, I_14, J, (az_u (az_u R 26 2 (some 16)) 26 3 (some 5))) _
                        refine az_E.sn 3 (pc' := 87) (L' := [.ref 3, .int a1, .int a2, .int a3, .int (a1 - a1 / (1000 : Int32) * (1000 : Int32))]) (S' := [.int (1000 : Int32), .int a1, .ref 3]) (σ' := (97, I_14, J, (az_u (az_u R 26 2 (some 16)) 26 3 (some 5)))) rfl ?_
                        have hd_16 : ¬ ((1000 : Int32) = 0) := by decide
                        refine az_E.dv (c := (1000 : Int32) = 0) (pc' := 88) (L' := [.ref 3, .int a1, .int a2, .int a3, .int (a1 - a1 / (1000 : Int32) * (1000 : Int32))]) (S' := [.int (a1 / (1000 : Int32)), .ref 3]) (σ' := (97, I_14, J, (az_u (az_u R 26 2 (some 16)) 26 3 (some 5)))) rfl hd_16 ?_
                        refine az_E.sn 1 (pc' := 90) (L' := [.ref 3, .int a1, .int a2, .int a3, .int (a1 - a1 / (1000 : Int32) * (1000 : Int32))]) (S' := [.int (a1 - a1 / (1000 : Int32) * (1000 : Int32)), .int (a1 / (1000 : Int32)), .ref 3]) (σ' := (97, I_14, J, (az_u (az_u R 26 2 (some 16)) 26 3 (some 5)))) rfl ?_
                        cases hx_18 : rs_X_measureTour I_14 (a1 / (1000 : Int32)) (a1 - a1 / (1000 : Int32) * (1000 : Int32)) with
                        | none => rw [hx_18] at h; cases h
                        | some I_17 =>
                          rw [hx_18] at h
                          dsimp only at h
                          refine az_E.call (d := 121) (k' := 152) (vs := [.ref 3, .int (a1 / (1000 : Int32)), .int (a1 - a1 / (1000 : Int32) * (1000 : Int32))]) (pc' := 93) (S' := []) (Q1 := fun v s => v = none ∧ s = (97, I_17, J, (az_u (az_u R 26 2 (some 16)) 26 3 (some 5)))) rfl (az_E.deep (by omega) (re_X_measureTour_5 (J := J) (R := (az_u (az_u R 26 2 (some 16)) 26 3 (some 5))) rfl hx_18 ⟨rfl, rfl⟩)) (fun v s hq => ?_)
                          obtain ⟨rfl, rfl⟩ := hq
                          show az_E az_F ex 122 101 93 [.ref 3, .int a1, .int a2, .int a3, .int (a1 - a1 / (1000 : Int32) * (1000 : Int32))] [] (97, I_17, J, (az_u (az_u R 26 2 (some 16)) 26 3 (some 5))) _
                          refine az_E.sn 2 (pc' := 97) (L' := [.ref 3, .int a1, .int a2, .int a3, .int (a1 - a1 / (1000 : Int32) * (1000 : Int32))]) (S' := [.ref 39]) (σ' := (97, I_17, J, (az_u (az_u R 26 2 (some 16)) 26 3 (some 5)))) rfl ?_
                          cases hx_20 : rs_To_findBest I_17 with
                          | none => rw [hx_20] at h; cases h
                          | some I_19 =>
                            rw [hx_20] at h
                            dsimp only at h
                            refine az_E.call (d := 121) (k' := 80) (vs := [.ref 39]) (pc' := 100) (S' := []) (Q1 := fun v s => v = none ∧ s = (97, I_19, J, (az_u (az_u R 26 2 (some 16)) 26 3 (some 5)))) rfl (az_E.deep (by omega) (re_To_findBest (J := J) (R := (az_u (az_u R 26 2 (some 16)) 26 3 (some 5)))  hx_20 ⟨rfl, rfl⟩)) (fun v s hq => ?_)
                            obtain ⟨rfl, rfl⟩ := hq
                            show az_E az_F ex 122 101 100 [.ref 3, .int a1, .int a2, .int a3, .int (a1 - a1 / (1000 : Int32) * (1000 : Int32))] [] (97, I_19, J, (az_u (az_u R 26 2 (some 16)) 26 3 (some 5))) _
                            refine az_E.sn 2 (pc' := 102) (L' := [.ref 3, .int a1, .int a2, .int a3, .int (a1 - a1 / (1000 : Int32) * (1000 : Int32))]) (S' := [.int (-1 : Int32), .int a3]) (σ' := (97, I_19, J, (az_u (az_u R 26 2 (some 16)) 26 3 (some 5)))) rfl ?_
                            refine az_E.br (c := a3 = (-1 : Int32)) (tt := 105) (ff := 115) (L' := [.ref 3, .int a1, .int a2, .int a3, .int (a1 - a1 / (1000 : Int32) * (1000 : Int32))]) (S' := []) (σ' := (97, I_19, J, (az_u (az_u R 26 2 (some 16)) 26 3 (some 5)))) rfl (fun hc_21 => ?_) (fun hc_21 => ?_)
                            · rw [if_pos hc_21] at h
                              refine az_E.sn 4 (pc' := 124) (L' := [.ref 3, .int a1, .int a2, .int a3, .int (a1 - a1 / (1000 : Int32) * (1000 : Int32))]) (S' := [.int (I_19 39 5)]) (σ' := (97, I_19, J, (az_u (az_u R 26 2 (some 16)) 26 3 (some 5)))) rfl ?_
                              have h := Option.some.inj h
                              subst h
                              exact az_E.ret (v := some (.int (I_19 39 5))) (σ' := (97, I_19, J, (az_u (az_u R 26 2 (some 16)) 26 3 (some 5)))) rfl (hQ _ hR_3_2 hR_3_3)
                            · rw [if_neg hc_21] at h
                              refine az_E.sn 4 (pc' := 123) (L' := [.ref 3, .int a1, .int a2, .int a3, .int (a1 - a1 / (1000 : Int32) * (1000 : Int32))]) (S' := [.int a3, .ref 43]) (σ' := (97, I_19, J, (az_u (az_u R 26 2 (some 16)) 26 3 (some 5)))) rfl ?_
                              by_cases hc_22 : a3 < 0 ∨ 6 ≤ a3.toNatClampNeg
                              · rw [if_pos hc_22] at h; cases h
                              · rw [if_neg hc_22] at h
                                refine az_E.oi (o := az_ai az_F ex (97, I_19, J, (az_u (az_u R 26 2 (some 16)) 26 3 (some 5))) 43 a3) (pc' := 124) (L' := [.ref 3, .int a1, .int a2, .int a3, .int (a1 - a1 / (1000 : Int32) * (1000 : Int32))]) (S' := []) (σ' := (97, I_19, J, (az_u (az_u R 26 2 (some 16)) 26 3 (some 5)))) (x := (I_19 43 a3.toNatClampNeg)) rfl (if_neg hc_22) ?_
                                have h := Option.some.inj h
                                subst h
                                exact az_E.ret (v := some (.int (I_19 43 a3.toNatClampNeg))) (σ' := (97, I_19, J, (az_u (az_u R 26 2 (some 16)) 26 3 (some 5)))) rfl (hQ _ hR_3_2 hR_3_3)
                    · rw [if_neg hc_13] at h
                      refine az_E.sn 1 (pc' := 76) (L' := [.ref 3, .int a1, .int a2, .int a3, .int (a1 - a1 / (1000 : Int32) * (1000 : Int32))]) (S' := [.int (-2 : Int32)]) (σ' := (97, I, J, R)) rfl ?_
                      have h := Option.some.inj h
                      subst h
                      exact az_E.ret (v := some (.int (-2 : Int32))) (σ' := (97, I, J, R)) rfl (hQ _ hR_3_2 hR_3_3)
                  · rw [if_neg hc_12] at h
                    refine az_E.sn 1 (pc' := 64) (L' := [.ref 3, .int a1, .int a2, .int a3, .int (a1 - a1 / (1000 : Int32) * (1000 : Int32))]) (S' := [.int (-5 : Int32)]) (σ' := (97, I, J, R)) rfl ?_
                    have h := Option.some.inj h
                    subst h
                    exact az_E.ret (v := some (.int (-5 : Int32))) (σ' := (97, I, J, R)) rfl (hQ _ hR_3_2 hR_3_3)
              · rw [if_neg hc_9] at h
                refine az_E.sn 1 (pc' := 52) (L' := [.ref 3, .int a1, .int a2, .int a3, .int (a1 - a1 / (1000 : Int32) * (1000 : Int32))]) (S' := [.int (-1 : Int32)]) (σ' := (97, I, J, R)) rfl ?_
                have h := Option.some.inj h
                subst h
                exact az_E.ret (v := some (.int (-1 : Int32))) (σ' := (97, I, J, R)) rfl (hQ _ hR_3_2 hR_3_3)
            · rw [if_neg hc_7] at h
              refine az_E.sn 1 (pc' := 29) (L' := [.ref 3, .int a1, .int a2, .int a3, .retAddr 0]) (S' := [.int (-1 : Int32)]) (σ' := (97, I, J, R)) rfl ?_
              have h := Option.some.inj h
              subst h
              exact az_E.ret (v := some (.int (-1 : Int32))) (σ' := (97, I, J, R)) rfl (hQ _ hR_3_2 hR_3_3)
set_option maxRecDepth 100000 in
set_option maxHeartbeats 4000000 in
theorem re_M_asksApart_115 {ex : az_X} {I : Nat → Nat → Int32} {J : Nat → Nat → Int64} {R : Nat → Nat → Option Nat} {v1 : Int32} {v2 : Int32} {v3 : Int32} {v4 : Int32} {s0 : Int32} {s1 : Int32} {x : ((Int32 × (Nat → Nat → Int32)) ⊕ (((Int32 × (Nat → Nat → Int32)) ⊕ ((Nat → Nat → Int32)))))} (h : rs_M_asksApart_115 I v1 v2 v3 v4 s0 s1 = some x) {Q : Option Value → az_S → Prop} (hQ : Sum.elim (fun s => az_E az_F ex 3 211 50 [.ref 73, .int v1, .int v2, .int v3, .int s.1] [] (97, s.2, J, R) Q) (fun x => Sum.elim (fun s => az_E az_F ex 3 211 2 [.ref 73, .int v1, .int v2, .int s.1, .retAddr 0] [] (97, s.2, J, R) Q) (fun x => Q none (97, x, J, R)) x) x) : az_E az_F ex 3 211 115 [.ref 73, .int v1, .int v2, .int v3, .int v4] [.int s0, .int s1, .ref 89] (97, I, J, R) Q := by
  unfold rs_M_asksApart_115 at h
  by_cases hc_10 : s1 < 0 ∨ 81 ≤ s1.toNatClampNeg
  · rw [if_pos hc_10] at h; cases h
  · rw [if_neg hc_10] at h
    refine az_E.o (o := az_si az_F (97, I, J, R) 89 s1 s0) (pc' := 116) (L' := [.ref 73, .int v1, .int v2, .int v3, .int v4]) (S' := []) (x := (97, (az_u I 89 s1.toNatClampNeg s0), J, R)) rfl (if_neg hc_10) ?_
    refine az_E.sn 2 (pc' := 50) (L' := [.ref 73, .int v1, .int v2, .int v3, .int (v4 + (1 : Int32))]) (S' := []) (σ' := (97, (az_u I 89 s1.toNatClampNeg s0), J, R)) rfl ?_
    have h := Option.some.inj h
    subst h
    exact az_E.forget (L := [.ref 73, .int v1, .int v2, .int v3, .int (v4 + (1 : Int32))]) ⟨rfl, rfl, rfl, rfl, rfl, trivial⟩ hQ
set_option maxRecDepth 100000 in
set_option maxHeartbeats 4000000 in
theorem re_M_asksApart_114 {ex : az_X} {I : Nat → Nat → Int32} {J : Nat → Nat → Int64} {R : Nat → Nat → Option Nat} {v1 : Int32} {v2 : Int32} {v3 : Int32} {v4 : Int32} {s0 : Int32} {s2 : Int32} {x : ((Int32 × (Nat → Nat → Int32)) ⊕ (((Int32 × (Nat → Nat → Int32)) ⊕ ((Nat → Nat → Int32)))))} (h : rs_M_asksApart_114 I v1 v2 v3 v4 s0 s2 = some x) {Q : Option Value → az_S → Prop} (hQ : Sum.elim (fun s => az_E az_F ex 3 211 50 [.ref 73, .int v1, .int v2, .int v3, .int s.1] [] (97, s.2, J, R) Q) (fun x => Sum.elim (fun s => az_E az_F ex 3 211 2 [.ref 73, .int v1, .int v2, .int s.1, .retAddr 0] [] (97, s.2, J, R) Q) (fun x => Q none (97, x, J, R)) x) x) : az_E az_F ex 3 211 114 [.ref 73, .int v1, .int v2, .int v3, .int v4] [.int s0, .ref 84, .int s2, .ref 89] (97, I, J, R) Q := by
  unfold rs_M_asksApart_114 at h
  by_cases hc_9 : s0 < 0 ∨ 144 ≤ s0.toNatClampNeg
  · rw [if_pos hc_9] at h; cases h
  · rw [if_neg hc_9] at h
    refine az_E.oi (o := az_ai az_F ex (97, I, J, R) 84 s0) (pc' := 115) (L' := [.ref 73, .int v1, .int v2, .int v3, .int v4]) (S' := [.int s2, .ref 89]) (σ' := (97, I, J, R)) (x := (I 84 s0.toNatClampNeg)) rfl (if_neg hc_9) ?_
    exact az_E.forget (L := [.ref 73, .int v1, .int v2, .int v3, .int v4]) ⟨rfl, rfl, rfl, rfl, rfl, trivial⟩ (re_M_asksApart_115 (I := I) (J := J) (R := R)  h hQ)
set_option maxRecDepth 100000 in
set_option maxHeartbeats 4000000 in
theorem re_M_asksApart_88 {ex : az_X} {I : Nat → Nat → Int32} {J : Nat → Nat → Int64} {R : Nat → Nat → Option Nat} {v1 : Int32} {v2 : Int32} {v3 : Int32} {v4 : Int32} {s0 : Int32} {x : ((Int32 × (Nat → Nat → Int32)) ⊕ (((Int32 × (Nat → Nat → Int32)) ⊕ ((Nat → Nat → Int32)))))} (h : rs_M_asksApart_88 I v1 v2 v3 v4 s0 = some x) {Q : Option Value → az_S → Prop} (hQ : Sum.elim (fun s => az_E az_F ex 3 211 50 [.ref 73, .int v1, .int v2, .int v3, .int s.1] [] (97, s.2, J, R) Q) (fun x => Sum.elim (fun s => az_E az_F ex 3 211 2 [.ref 73, .int v1, .int v2, .int s.1, .retAddr 0] [] (97, s.2, J, R) Q) (fun x => Q none (97, x, J, R)) x) x) : az_E az_F ex 3 211 88 [.ref 73, .int v1, .int v2, .int v3, .int v4] [.int s0, .ref 89] (97, I, J, R) Q := by
  unfold rs_M_asksApart_88 at h
  refine az_E.sn 4 (pc' := 96) (L' := [.ref 73, .int v1, .int v2, .int v3, .int v4]) (S' := [.int (8 : Int32), .int v4, .ref 84, .int s0, .ref 89]) (σ' := (97, I, J, R)) rfl ?_
  refine az_E.br (c := v4 = (8 : Int32)) (tt := 99) (ff := 103) (L' := [.ref 73, .int v1, .int v2, .int v3, .int v4]) (S' := [.ref 84, .int s0, .ref 89]) (σ' := (97, I, J, R)) rfl (fun hc_8 => ?_) (fun hc_8 => ?_)
  · rw [if_pos hc_8] at h
    refine az_E.sn 2 (pc' := 114) (L' := [.ref 73, .int v1, .int v2, .int v3, .int v4]) (S' := [.int v2, .ref 84, .int s0, .ref 89]) (σ' := (97, I, J, R)) rfl ?_
    exact az_E.forget (L := [.ref 73, .int v1, .int v2, .int v3, .int v4]) ⟨rfl, rfl, rfl, rfl, rfl, trivial⟩ (re_M_asksApart_114 (I := I) (J := J) (R := R)  h hQ)
  · rw [if_neg hc_8] at h
    refine az_E.sn 5 (pc' := 113) (L' := [.ref 73, .int v1, .int v2, .int v3, .int v4]) (S' := [.int ((144 : Int32) + v4), .ref 74, .ref 84, .int s0, .ref 89]) (σ' := (97, I, J, R)) rfl ?_
    by_cases hc_11 : ((144 : Int32) + v4) < 0 ∨ 179 ≤ ((144 : Int32) + v4).toNatClampNeg
    · rw [if_pos hc_11] at h; cases h
    · rw [if_neg hc_11] at h
      refine az_E.oi (o := az_ai az_F ex (97, I, J, R) 74 ((144 : Int32) + v4)) (pc' := 114) (L' := [.ref 73, .int v1, .int v2, .int v3, .int v4]) (S' := [.ref 84, .int s0, .ref 89]) (σ' := (97, I, J, R)) (x := (I 74 ((144 : Int32) + v4).toNatClampNeg)) rfl (if_neg hc_11) ?_
      exact az_E.forget (L := [.ref 73, .int v1, .int v2, .int v3, .int v4]) ⟨rfl, rfl, rfl, rfl, rfl, trivial⟩ (re_M_asksApart_114 (I := I) (J := J) (R := R)  h hQ)
set_option maxRecDepth 100000 in
set_option maxHeartbeats 4000000 in
theorem re_M_asksApart_50_b {ex : az_X} {I : Nat → Nat → Int32} {J : Nat → Nat → Int64} {R : Nat → Nat → Option Nat} {v1 : Int32} {v2 : Int32} {v3 : Int32} {v4 : Int32} {x : ((Int32 × (Nat → Nat → Int32)) ⊕ (((Int32 × (Nat → Nat → Int32)) ⊕ ((Nat → Nat → Int32)))))} (h : rs_M_asksApart_50_b v1 v2 v3 v4 I = some x) {Q : Option Value → az_S → Prop} (hQ : Sum.elim (fun s => az_E az_F ex 3 211 50 [.ref 73, .int v1, .int v2, .int v3, .int s.1] [] (97, s.2, J, R) Q) (fun x => Sum.elim (fun s => az_E az_F ex 3 211 2 [.ref 73, .int v1, .int v2, .int s.1, .retAddr 0] [] (97, s.2, J, R) Q) (fun x => Q none (97, x, J, R)) x) x) : az_E az_F ex 3 211 50 [.ref 73, .int v1, .int v2, .int v3, .int v4] [] (97, I, J, R) Q := by
  unfold rs_M_asksApart_50_b at h
  refine az_E.sn 2 (pc' := 54) (L' := [.ref 73, .int v1, .int v2, .int v3, .int v4]) (S' := [.int (8 : Int32), .int v4]) (σ' := (97, I, J, R)) rfl ?_
  refine az_E.br (c := (8 : Int32) < v4) (tt := 122) (ff := 57) (L' := [.ref 73, .int v1, .int v2, .int v3, .int v4]) (S' := []) (σ' := (97, I, J, R)) rfl (fun hc_6 => ?_) (fun hc_6 => ?_)
  · rw [if_pos hc_6] at h
    refine az_E.sn 2 (pc' := 2) (L' := [.ref 73, .int v1, .int v2, .int (v3 + (1 : Int32)), .int v4]) (S' := []) (σ' := (97, I, J, R)) rfl ?_
    have h := Option.some.inj h
    subst h
    exact az_E.forget (L := [.ref 73, .int v1, .int v2, .int (v3 + (1 : Int32)), .retAddr 0]) ⟨rfl, rfl, rfl, rfl, trivial, trivial⟩ hQ
  · rw [if_neg hc_6] at h
    refine az_E.sn 9 (pc' := 72) (L' := [.ref 73, .int v1, .int v2, .int v3, .int v4]) (S' := [.int (8 : Int32), .int v4, .int (((9 : Int32) * v3) + v4), .ref 89]) (σ' := (97, I, J, R)) rfl ?_
    refine az_E.br (c := (8 : Int32) ≤ v4) (tt := 88) (ff := 75) (L' := [.ref 73, .int v1, .int v2, .int v3, .int v4]) (S' := [.int (((9 : Int32) * v3) + v4), .ref 89]) (σ' := (97, I, J, R)) rfl (fun hc_7 => ?_) (fun hc_7 => ?_)
    · rw [if_pos hc_7] at h
      exact az_E.forget (L := [.ref 73, .int v1, .int v2, .int v3, .int v4]) ⟨rfl, rfl, rfl, rfl, rfl, trivial⟩ (re_M_asksApart_88 (I := I) (J := J) (R := R)  h hQ)
    · rw [if_neg hc_7] at h
      refine az_E.sn 2 (pc' := 78) (L' := [.ref 73, .int v1, .int v2, .int v3, .int v4]) (S' := [.int v4, .int v1, .int (((9 : Int32) * v3) + v4), .ref 89]) (σ' := (97, I, J, R)) rfl ?_
      refine az_E.call (d := 2) (k' := 155) (vs := [.int v1, .int v4]) (pc' := 81) (S' := [.int (((9 : Int32) * v3) + v4), .ref 89]) rfl ?_ (fun _ _ hq => hq)
      show az_E az_F ex 2 155 0 [.int v1, .int v4] [] (97, I, J, R) _
      refine az_E.sn 6 (pc' := 6) (L' := [.int v1, .int v4]) (S' := [.int (1 : Int32), .int ((v1 >>> (v4 &&& 31)) &&& (1 : Int32))]) (σ' := (97, I, J, R)) rfl ?_
      refine az_E.br (c := ((v1 >>> (v4 &&& 31)) &&& (1 : Int32)) = (1 : Int32)) (tt := 9) (ff := 13) (L' := [.int v1, .int v4]) (S' := []) (σ' := (97, I, J, R)) rfl (fun hc_12 => ?_) (fun hc_12 => ?_)
      · rw [if_pos hc_12] at h
        refine az_E.sn 2 (pc' := 14) (L' := [.int v1, .int v4]) (S' := [.int (1 : Int32)]) (σ' := (97, I, J, R)) rfl ?_
        refine az_E.ret (v := some (.int (1 : Int32))) (σ' := (97, I, J, R)) rfl ?_
        show az_E az_F ex 3 211 81 [.ref 73, .int v1, .int v2, .int v3, .int v4] [.int (1 : Int32), .int (((9 : Int32) * v3) + v4), .ref 89] (97, I, J, R) _
        refine az_E.br (c := (1 : Int32) = 0) (tt := 84) (ff := 88) (L' := [.ref 73, .int v1, .int v2, .int v3, .int v4]) (S' := [.int (((9 : Int32) * v3) + v4), .ref 89]) (σ' := (97, I, J, R)) rfl (fun hn => absurd hn (by decide)) (fun _ => ?_)
        exact az_E.forget (L := [.ref 73, .int v1, .int v2, .int v3, .int v4]) ⟨rfl, rfl, rfl, rfl, rfl, trivial⟩ (re_M_asksApart_88 (I := I) (J := J) (R := R)  h hQ)
      · rw [if_neg hc_12] at h
        refine az_E.sn 1 (pc' := 14) (L' := [.int v1, .int v4]) (S' := [.int (0 : Int32)]) (σ' := (97, I, J, R)) rfl ?_
        refine az_E.ret (v := some (.int (0 : Int32))) (σ' := (97, I, J, R)) rfl ?_
        show az_E az_F ex 3 211 81 [.ref 73, .int v1, .int v2, .int v3, .int v4] [.int (0 : Int32), .int (((9 : Int32) * v3) + v4), .ref 89] (97, I, J, R) _
        refine az_E.br (c := (0 : Int32) = 0) (tt := 84) (ff := 88) (L' := [.ref 73, .int v1, .int v2, .int v3, .int v4]) (S' := [.int (((9 : Int32) * v3) + v4), .ref 89]) (σ' := (97, I, J, R)) rfl (fun _ => ?_) (fun hn => absurd (by decide) hn)
        refine az_E.sn 2 (pc' := 115) (L' := [.ref 73, .int v1, .int v2, .int v3, .int v4]) (S' := [.int (0 : Int32), .int (((9 : Int32) * v3) + v4), .ref 89]) (σ' := (97, I, J, R)) rfl ?_
        exact az_E.forget (L := [.ref 73, .int v1, .int v2, .int v3, .int v4]) ⟨rfl, rfl, rfl, rfl, rfl, trivial⟩ (re_M_asksApart_115 (I := I) (J := J) (R := R)  h hQ)
set_option maxRecDepth 100000 in
set_option maxHeartbeats 4000000 in
theorem re_M_asksApart_50 {ex : az_X} {I : Nat → Nat → Int32} {J : Nat → Nat → Int64} {R : Nat → Nat → Option Nat} {v1 : Int32} {v2 : Int32} {v3 : Int32} {v4 : Int32} {x : ((Int32 × (Nat → Nat → Int32)) ⊕ ((Nat → Nat → Int32)))} (h : rs_M_asksApart_50 I v1 v2 v3 v4 = some x) {Q : Option Value → az_S → Prop} (hQ : Sum.elim (fun s => az_E az_F ex 3 211 2 [.ref 73, .int v1, .int v2, .int s.1, .retAddr 0] [] (97, s.2, J, R) Q) (fun x => Q none (97, x, J, R)) x) : az_E az_F ex 3 211 50 [.ref 73, .int v1, .int v2, .int v3, .int v4] [] (97, I, J, R) Q := by
  unfold rs_M_asksApart_50 at h
  refine az_lp_E (G := fun s => az_E az_F ex 3 211 50 [.ref 73, .int v1, .int v2, .int v3, .int s.1] [] (97, s.2, J, R) Q) (H := fun x => Sum.elim (fun s => az_E az_F ex 3 211 2 [.ref 73, .int v1, .int v2, .int s.1, .retAddr 0] [] (97, s.2, J, R) Q) (fun x => Q none (97, x, J, R)) x) (fun s o hb ho => ?_) _ _ _ h hQ
  exact re_M_asksApart_50_b  hb ho
set_option maxRecDepth 100000 in
set_option maxHeartbeats 4000000 in
theorem re_M_asksApart_43 {ex : az_X} {I : Nat → Nat → Int32} {J : Nat → Nat → Int64} {R : Nat → Nat → Option Nat} {v1 : Int32} {v2 : Int32} {v3 : Int32} {s0 : Int32} {x : ((Int32 × (Nat → Nat → Int32)) ⊕ ((Nat → Nat → Int32)))} (h : rs_M_asksApart_43 I v1 v2 v3 s0 = some x) {Q : Option Value → az_S → Prop} (hQ : Sum.elim (fun s => az_E az_F ex 3 211 2 [.ref 73, .int v1, .int v2, .int s.1, .retAddr 0] [] (97, s.2, J, R) Q) (fun x => Q none (97, x, J, R)) x) : az_E az_F ex 3 211 43 [.ref 73, .int v1, .int v2, .int v3, .retAddr 0] [.int s0, .ref 73] (97, I, J, R) Q := by
  unfold rs_M_asksApart_43 at h
  refine az_E.sn 1 (pc' := 44) (L' := [.ref 73, .int v1, .int v2, .int v3, .retAddr 0]) (S' := [.int (1 : Int32), .int s0, .ref 73]) (σ' := (97, I, J, R)) rfl ?_
  cases hx_5 : rs_M_asksMinutes I s0 (1 : Int32) with
  | none => rw [hx_5] at h; cases h
  | some I_4 =>
    rw [hx_5] at h
    dsimp only at h
    refine az_E.call (d := 2) (k' := 194) (vs := [.ref 73, .int s0, .int (1 : Int32)]) (pc' := 47) (S' := []) (Q1 := fun v s => v = none ∧ s = (97, I_4, J, R)) rfl (az_E.deep (by omega) (re_M_asksMinutes (J := J) (R := R)  hx_5 ⟨rfl, rfl⟩)) (fun v s hq => ?_)
    obtain ⟨rfl, rfl⟩ := hq
    show az_E az_F ex 3 211 47 [.ref 73, .int v1, .int v2, .int v3, .retAddr 0] [] (97, I_4, J, R) _
    refine az_E.sn 2 (pc' := 50) (L' := [.ref 73, .int v1, .int v2, .int v3, .int (0 : Int32)]) (S' := []) (σ' := (97, I_4, J, R)) rfl ?_
    exact az_E.forget (L := [.ref 73, .int v1, .int v2, .int v3, .int (0 : Int32)]) ⟨rfl, rfl, rfl, rfl, rfl, trivial⟩ (re_M_asksApart_50 (I := I_4) (J := J) (R := R)  h hQ)
set_option maxRecDepth 100000 in
set_option maxHeartbeats 4000000 in
theorem re_M_asksApart_22 {ex : az_X} {I : Nat → Nat → Int32} {J : Nat → Nat → Int64} {R : Nat → Nat → Option Nat} {v1 : Int32} {v2 : Int32} {v3 : Int32} {x : ((Int32 × (Nat → Nat → Int32)) ⊕ ((Nat → Nat → Int32)))} (h : rs_M_asksApart_22 I v1 v2 v3 = some x) {Q : Option Value → az_S → Prop} (hQ : Sum.elim (fun s => az_E az_F ex 3 211 2 [.ref 73, .int v1, .int v2, .int s.1, .retAddr 0] [] (97, s.2, J, R) Q) (fun x => Q none (97, x, J, R)) x) : az_E az_F ex 3 211 22 [.ref 73, .int v1, .int v2, .int v3, .retAddr 0] [] (97, I, J, R) Q := by
  unfold rs_M_asksApart_22 at h
  refine az_E.sn 3 (pc' := 26) (L' := [.ref 73, .int v1, .int v2, .int v3, .retAddr 0]) (S' := [.int (8 : Int32), .int v3, .ref 73]) (σ' := (97, I, J, R)) rfl ?_
  refine az_E.br (c := v3 = (8 : Int32)) (tt := 29) (ff := 33) (L' := [.ref 73, .int v1, .int v2, .int v3, .retAddr 0]) (S' := [.ref 73]) (σ' := (97, I, J, R)) rfl (fun hc_3 => ?_) (fun hc_3 => ?_)
  · rw [if_pos hc_3] at h
    refine az_E.sn 2 (pc' := 43) (L' := [.ref 73, .int v1, .int v2, .int v3, .retAddr 0]) (S' := [.int v2, .ref 73]) (σ' := (97, I, J, R)) rfl ?_
    exact az_E.forget (L := [.ref 73, .int v1, .int v2, .int v3, .retAddr 0]) ⟨rfl, rfl, rfl, rfl, trivial, trivial⟩ (re_M_asksApart_43 (I := I) (J := J) (R := R)  h hQ)
  · rw [if_neg hc_3] at h
    refine az_E.sn 5 (pc' := 42) (L' := [.ref 73, .int v1, .int v2, .int v3, .retAddr 0]) (S' := [.int ((144 : Int32) + v3), .ref 74, .ref 73]) (σ' := (97, I, J, R)) rfl ?_
    by_cases hc_13 : ((144 : Int32) + v3) < 0 ∨ 179 ≤ ((144 : Int32) + v3).toNatClampNeg
    · rw [if_pos hc_13] at h; cases h
    · rw [if_neg hc_13] at h
      refine az_E.oi (o := az_ai az_F ex (97, I, J, R) 74 ((144 : Int32) + v3)) (pc' := 43) (L' := [.ref 73, .int v1, .int v2, .int v3, .retAddr 0]) (S' := [.ref 73]) (σ' := (97, I, J, R)) (x := (I 74 ((144 : Int32) + v3).toNatClampNeg)) rfl (if_neg hc_13) ?_
      exact az_E.forget (L := [.ref 73, .int v1, .int v2, .int v3, .retAddr 0]) ⟨rfl, rfl, rfl, rfl, trivial, trivial⟩ (re_M_asksApart_43 (I := I) (J := J) (R := R)  h hQ)
set_option maxRecDepth 100000 in
set_option maxHeartbeats 4000000 in
theorem re_M_asksApart_2_b {ex : az_X} {I : Nat → Nat → Int32} {J : Nat → Nat → Int64} {R : Nat → Nat → Option Nat} {v1 : Int32} {v2 : Int32} {v3 : Int32} {x : ((Int32 × (Nat → Nat → Int32)) ⊕ ((Nat → Nat → Int32)))} (h : rs_M_asksApart_2_b v1 v2 v3 I = some x) {Q : Option Value → az_S → Prop} (hQ : Sum.elim (fun s => az_E az_F ex 3 211 2 [.ref 73, .int v1, .int v2, .int s.1, .retAddr 0] [] (97, s.2, J, R) Q) (fun x => Q none (97, x, J, R)) x) : az_E az_F ex 3 211 2 [.ref 73, .int v1, .int v2, .int v3, .retAddr 0] [] (97, I, J, R) Q := by
  unfold rs_M_asksApart_2_b at h
  refine az_E.sn 2 (pc' := 5) (L' := [.ref 73, .int v1, .int v2, .int v3, .retAddr 0]) (S' := [.int (8 : Int32), .int v3]) (σ' := (97, I, J, R)) rfl ?_
  refine az_E.br (c := (8 : Int32) < v3) (tt := 128) (ff := 8) (L' := [.ref 73, .int v1, .int v2, .int v3, .retAddr 0]) (S' := []) (σ' := (97, I, J, R)) rfl (fun hc_1 => ?_) (fun hc_1 => ?_)
  · rw [if_pos hc_1] at h
    have h := Option.some.inj h
    subst h
    exact az_E.ret (v := none) (σ' := (97, I, J, R)) rfl hQ
  · rw [if_neg hc_1] at h
    refine az_E.sn 2 (pc' := 11) (L' := [.ref 73, .int v1, .int v2, .int v3, .retAddr 0]) (S' := [.int (8 : Int32), .int v3]) (σ' := (97, I, J, R)) rfl ?_
    refine az_E.br (c := v3 = (8 : Int32)) (tt := 22) (ff := 14) (L' := [.ref 73, .int v1, .int v2, .int v3, .retAddr 0]) (S' := []) (σ' := (97, I, J, R)) rfl (fun hc_2 => ?_) (fun hc_2 => ?_)
    · rw [if_pos hc_2] at h
      exact az_E.forget (L := [.ref 73, .int v1, .int v2, .int v3, .retAddr 0]) ⟨rfl, rfl, rfl, rfl, trivial, trivial⟩ (re_M_asksApart_22 (I := I) (J := J) (R := R)  h hQ)
    · rw [if_neg hc_2] at h
      refine az_E.sn 2 (pc' := 16) (L' := [.ref 73, .int v1, .int v2, .int v3, .retAddr 0]) (S' := [.int v3, .int v1]) (σ' := (97, I, J, R)) rfl ?_
      refine az_E.call (d := 2) (k' := 155) (vs := [.int v1, .int v3]) (pc' := 19) (S' := []) rfl ?_ (fun _ _ hq => hq)
      show az_E az_F ex 2 155 0 [.int v1, .int v3] [] (97, I, J, R) _
      refine az_E.sn 6 (pc' := 6) (L' := [.int v1, .int v3]) (S' := [.int (1 : Int32), .int ((v1 >>> (v3 &&& 31)) &&& (1 : Int32))]) (σ' := (97, I, J, R)) rfl ?_
      refine az_E.br (c := ((v1 >>> (v3 &&& 31)) &&& (1 : Int32)) = (1 : Int32)) (tt := 9) (ff := 13) (L' := [.int v1, .int v3]) (S' := []) (σ' := (97, I, J, R)) rfl (fun hc_14 => ?_) (fun hc_14 => ?_)
      · rw [if_pos hc_14] at h
        refine az_E.sn 2 (pc' := 14) (L' := [.int v1, .int v3]) (S' := [.int (1 : Int32)]) (σ' := (97, I, J, R)) rfl ?_
        refine az_E.ret (v := some (.int (1 : Int32))) (σ' := (97, I, J, R)) rfl ?_
        show az_E az_F ex 3 211 19 [.ref 73, .int v1, .int v2, .int v3, .retAddr 0] [.int (1 : Int32)] (97, I, J, R) _
        refine az_E.br (c := (1 : Int32) = 0) (tt := 122) (ff := 22) (L' := [.ref 73, .int v1, .int v2, .int v3, .retAddr 0]) (S' := []) (σ' := (97, I, J, R)) rfl (fun hn => absurd hn (by decide)) (fun _ => ?_)
        exact az_E.forget (L := [.ref 73, .int v1, .int v2, .int v3, .retAddr 0]) ⟨rfl, rfl, rfl, rfl, trivial, trivial⟩ (re_M_asksApart_22 (I := I) (J := J) (R := R)  h hQ)
      · rw [if_neg hc_14] at h
        refine az_E.sn 1 (pc' := 14) (L' := [.int v1, .int v3]) (S' := [.int (0 : Int32)]) (σ' := (97, I, J, R)) rfl ?_
        refine az_E.ret (v := some (.int (0 : Int32))) (σ' := (97, I, J, R)) rfl ?_
        show az_E az_F ex 3 211 19 [.ref 73, .int v1, .int v2, .int v3, .retAddr 0] [.int (0 : Int32)] (97, I, J, R) _
        refine az_E.br (c := (0 : Int32) = 0) (tt := 122) (ff := 22) (L' := [.ref 73, .int v1, .int v2, .int v3, .retAddr 0]) (S' := []) (σ' := (97, I, J, R)) rfl (fun _ => ?_) (fun hn => absurd (by decide) hn)
        refine az_E.sn 2 (pc' := 2) (L' := [.ref 73, .int v1, .int v2, .int (v3 + (1 : Int32)), .retAddr 0]) (S' := []) (σ' := (97, I, J, R)) rfl ?_
        have h := Option.some.inj h
        subst h
        exact az_E.forget (L := [.ref 73, .int v1, .int v2, .int (v3 + (1 : Int32)), .retAddr 0]) ⟨rfl, rfl, rfl, rfl, trivial, trivial⟩ hQ
set_option maxRecDepth 100000 in
set_option maxHeartbeats 4000000 in
theorem re_M_asksApart_2 {ex : az_X} {I : Nat → Nat → Int32} {J : Nat → Nat → Int64} {R : Nat → Nat → Option Nat} {v1 : Int32} {v2 : Int32} {v3 : Int32} {x : (Nat → Nat → Int32)} (h : rs_M_asksApart_2 I v1 v2 v3 = some x) {Q : Option Value → az_S → Prop} (hQ : Q none (97, x, J, R)) : az_E az_F ex 3 211 2 [.ref 73, .int v1, .int v2, .int v3, .retAddr 0] [] (97, I, J, R) Q := by
  unfold rs_M_asksApart_2 at h
  refine az_lp_E (G := fun s => az_E az_F ex 3 211 2 [.ref 73, .int v1, .int v2, .int s.1, .retAddr 0] [] (97, s.2, J, R) Q) (H := fun x => Q none (97, x, J, R)) (fun s o hb ho => ?_) _ _ _ h hQ
  exact re_M_asksApart_2_b  hb ho
set_option maxRecDepth 100000 in
set_option maxHeartbeats 4000000 in
theorem re_M_asksApart {ex : az_X} {I : Nat → Nat → Int32} {J : Nat → Nat → Int64} {R : Nat → Nat → Option Nat} {a1 : Int32} {a2 : Int32} {o : (Nat → Nat → Int32)} (h : rs_M_asksApart I a1 a2 = some o) {Q : Option Value → az_S → Prop} (hQ : Q none (97, o, J, R)) : az_E az_F ex 3 211 0 [.ref 73, .int a1, .int a2, .retAddr 0, .retAddr 0] [] (97, I, J, R) Q := by
  unfold rs_M_asksApart at h
  refine az_E.sn 2 (pc' := 2) (L' := [.ref 73, .int a1, .int a2, .int (0 : Int32), .retAddr 0]) (S' := []) (σ' := (97, I, J, R)) rfl ?_
  exact az_E.forget (L := [.ref 73, .int a1, .int a2, .int (0 : Int32), .retAddr 0]) ⟨rfl, rfl, rfl, rfl, trivial, trivial⟩ (re_M_asksApart_2 (I := I) (J := J) (R := R)  h hQ)
set_option maxRecDepth 100000 in
set_option maxHeartbeats 4000000 in
theorem re_M_roundOf_48 {ex : az_X} {I : Nat → Nat → Int32} {J : Nat → Nat → Int64} {R : Nat → Nat → Option Nat} {v1 : Int32} {v2 : Int32} {v3 : Int32} {x : Int32} (h : rs_M_roundOf_48 I v1 v2 v3 = some x) {Q : Option Value → az_S → Prop} (hQ : Q (some (.int x)) (97, I, J, R)) : az_E az_F ex 0 209 48 [.ref 73, .int v1, .int v2, .int v3, .retAddr 0] [] (97, I, J, R) Q := by
  unfold rs_M_roundOf_48 at h
  refine az_E.sn 2 (pc' := 50) (L' := [.ref 73, .int v1, .int v2, .int v3, .retAddr 0]) (S' := [.int v1, .int v2]) (σ' := (97, I, J, R)) rfl ?_
  refine az_E.br (c := v1 = 0) (tt := 53) (ff := 57) (L' := [.ref 73, .int v1, .int v2, .int v3, .retAddr 0]) (S' := [.int v2]) (σ' := (97, I, J, R)) rfl (fun hc_2 => ?_) (fun hc_2 => ?_)
  · rw [if_pos hc_2] at h
    refine az_E.sn 3 (pc' := 70) (L' := [.ref 73, .int v1, .int v2, .int v3, .retAddr 0]) (S' := [.int (v2 + (0 : Int32))]) (σ' := (97, I, J, R)) rfl ?_
    have h := Option.some.inj h
    subst h
    exact az_E.ret (v := some (.int (v2 + (0 : Int32)))) (σ' := (97, I, J, R)) rfl hQ
  · rw [if_neg hc_2] at h
    refine az_E.sn 7 (pc' := 68) (L' := [.ref 73, .int v1, .int v2, .int v3, .retAddr 0]) (S' := [.int (((9 : Int32) * v3) + (8 : Int32)), .ref 89, .int v2]) (σ' := (97, I, J, R)) rfl ?_
    by_cases hc_3 : (((9 : Int32) * v3) + (8 : Int32)) < 0 ∨ 81 ≤ (((9 : Int32) * v3) + (8 : Int32)).toNatClampNeg
    · rw [if_pos hc_3] at h; cases h
    · rw [if_neg hc_3] at h
      refine az_E.oi (o := az_ai az_F ex (97, I, J, R) 89 (((9 : Int32) * v3) + (8 : Int32))) (pc' := 69) (L' := [.ref 73, .int v1, .int v2, .int v3, .retAddr 0]) (S' := [.int v2]) (σ' := (97, I, J, R)) (x := (I 89 (((9 : Int32) * v3) + (8 : Int32)).toNatClampNeg)) rfl (if_neg hc_3) ?_
      refine az_E.sn 1 (pc' := 70) (L' := [.ref 73, .int v1, .int v2, .int v3, .retAddr 0]) (S' := [.int (v2 + (I 89 (((9 : Int32) * v3) + (8 : Int32)).toNatClampNeg))]) (σ' := (97, I, J, R)) rfl ?_
      have h := Option.some.inj h
      subst h
      exact az_E.ret (v := some (.int (v2 + (I 89 (((9 : Int32) * v3) + (8 : Int32)).toNatClampNeg)))) (σ' := (97, I, J, R)) rfl hQ
set_option maxRecDepth 100000 in
set_option maxHeartbeats 4000000 in
theorem re_M_roundOf_8_b {ex : az_X} {I : Nat → Nat → Int32} {J : Nat → Nat → Int64} {R : Nat → Nat → Option Nat} {v1 : Int32} {v2 : Int32} {v3 : Int32} {v4 : Int32} {x : ((Int32 × Int32 × Int32) ⊕ (Int32))} (h : rs_M_roundOf_8_b I v1 v2 v3 v4 = some x) {Q : Option Value → az_S → Prop} (hQ : Sum.elim (fun s => az_E az_F ex 0 209 8 [.ref 73, .int v1, .int s.1, .int s.2.1, .int s.2.2] [] (97, I, J, R) Q) (fun x => Q (some (.int x)) (97, I, J, R)) x) : az_E az_F ex 0 209 8 [.ref 73, .int v1, .int v2, .int v3, .int v4] [] (97, I, J, R) Q := by
  unfold rs_M_roundOf_8_b at h
  refine az_E.sn 2 (pc' := 11) (L' := [.ref 73, .int v1, .int v2, .int v3, .int v4]) (S' := [.int v1, .int v4]) (σ' := (97, I, J, R)) rfl ?_
  refine az_E.br (c := v1 ≤ v4) (tt := 48) (ff := 14) (L' := [.ref 73, .int v1, .int v2, .int v3, .int v4]) (S' := []) (σ' := (97, I, J, R)) rfl (fun hc_1 => ?_) (fun hc_1 => ?_)
  · rw [if_pos hc_1] at h
    obtain ⟨x, hx, rfl⟩ := Option.map_eq_some_iff.mp h
    exact az_E.forget (L := [.ref 73, .int v1, .int v2, .int v3, .retAddr 0]) ⟨rfl, rfl, rfl, rfl, trivial, trivial⟩ (re_M_roundOf_48 (I := I) (J := J) (R := R)  hx hQ)
  · rw [if_neg hc_1] at h
    refine az_E.sn 9 (pc' := 29) (L' := [.ref 73, .int v1, .int v2, .int v3, .int v4]) (S' := [.int v4, .ref 88, .int ((9 : Int32) * v3), .ref 89, .int v2]) (σ' := (97, I, J, R)) rfl ?_
    by_cases hc_4 : v4 < 0 ∨ 5 ≤ v4.toNatClampNeg
    · rw [if_pos hc_4] at h; cases h
    · rw [if_neg hc_4] at h
      refine az_E.oi (o := az_ai az_F ex (97, I, J, R) 88 v4) (pc' := 30) (L' := [.ref 73, .int v1, .int v2, .int v3, .int v4]) (S' := [.int ((9 : Int32) * v3), .ref 89, .int v2]) (σ' := (97, I, J, R)) (x := (I 88 v4.toNatClampNeg)) rfl (if_neg hc_4) ?_
      refine az_E.sn 1 (pc' := 31) (L' := [.ref 73, .int v1, .int v2, .int v3, .int v4]) (S' := [.int (((9 : Int32) * v3) + (I 88 v4.toNatClampNeg)), .ref 89, .int v2]) (σ' := (97, I, J, R)) rfl ?_
      by_cases hc_5 : (((9 : Int32) * v3) + (I 88 v4.toNatClampNeg)) < 0 ∨ 81 ≤ (((9 : Int32) * v3) + (I 88 v4.toNatClampNeg)).toNatClampNeg
      · rw [if_pos hc_5] at h; cases h
      · rw [if_neg hc_5] at h
        refine az_E.oi (o := az_ai az_F ex (97, I, J, R) 89 (((9 : Int32) * v3) + (I 88 v4.toNatClampNeg))) (pc' := 32) (L' := [.ref 73, .int v1, .int v2, .int v3, .int v4]) (S' := [.int v2]) (σ' := (97, I, J, R)) (x := (I 89 (((9 : Int32) * v3) + (I 88 v4.toNatClampNeg)).toNatClampNeg)) rfl (if_neg hc_5) ?_
        refine az_E.sn 5 (pc' := 40) (L' := [.ref 73, .int v1, .int (v2 + (I 89 (((9 : Int32) * v3) + (I 88 v4.toNatClampNeg)).toNatClampNeg)), .int v3, .int v4]) (S' := [.int v4, .ref 88]) (σ' := (97, I, J, R)) rfl ?_
        by_cases hc_6 : v4 < 0 ∨ 5 ≤ v4.toNatClampNeg
        · rw [if_pos hc_6] at h; cases h
        · rw [if_neg hc_6] at h
          refine az_E.oi (o := az_ai az_F ex (97, I, J, R) 88 v4) (pc' := 41) (L' := [.ref 73, .int v1, .int (v2 + (I 89 (((9 : Int32) * v3) + (I 88 v4.toNatClampNeg)).toNatClampNeg)), .int v3, .int v4]) (S' := []) (σ' := (97, I, J, R)) (x := (I 88 v4.toNatClampNeg)) rfl (if_neg hc_6) ?_
          refine az_E.sn 3 (pc' := 8) (L' := [.ref 73, .int v1, .int (v2 + (I 89 (((9 : Int32) * v3) + (I 88 v4.toNatClampNeg)).toNatClampNeg)), .int (I 88 v4.toNatClampNeg), .int (v4 + (1 : Int32))]) (S' := []) (σ' := (97, I, J, R)) rfl ?_
          have h := Option.some.inj h
          subst h
          exact az_E.forget (L := [.ref 73, .int v1, .int (v2 + (I 89 (((9 : Int32) * v3) + (I 88 v4.toNatClampNeg)).toNatClampNeg)), .int (I 88 v4.toNatClampNeg), .int (v4 + (1 : Int32))]) ⟨rfl, rfl, rfl, rfl, rfl, trivial⟩ hQ
set_option maxRecDepth 100000 in
set_option maxHeartbeats 4000000 in
theorem re_M_roundOf_8 {ex : az_X} {I : Nat → Nat → Int32} {J : Nat → Nat → Int64} {R : Nat → Nat → Option Nat} {v1 : Int32} {v2 : Int32} {v3 : Int32} {v4 : Int32} {x : Int32} (h : rs_M_roundOf_8 I v1 v2 v3 v4 = some x) {Q : Option Value → az_S → Prop} (hQ : Q (some (.int x)) (97, I, J, R)) : az_E az_F ex 0 209 8 [.ref 73, .int v1, .int v2, .int v3, .int v4] [] (97, I, J, R) Q := by
  unfold rs_M_roundOf_8 at h
  refine az_lp_E (G := fun s => az_E az_F ex 0 209 8 [.ref 73, .int v1, .int s.1, .int s.2.1, .int s.2.2] [] (97, I, J, R) Q) (H := fun x => Q (some (.int x)) (97, I, J, R)) (fun s o hb ho => ?_) _ _ _ h hQ
  exact re_M_roundOf_8_b  hb ho
set_option maxRecDepth 100000 in
set_option maxHeartbeats 4000000 in
theorem re_M_roundOf {ex : az_X} {I : Nat → Nat → Int32} {J : Nat → Nat → Int64} {R : Nat → Nat → Option Nat} {a1 : Int32} {o : Int32} (h : rs_M_roundOf I a1 = some o) {Q : Option Value → az_S → Prop} (hQ : Q (some (.int o)) (97, I, J, R)) : az_E az_F ex 0 209 0 [.ref 73, .int a1, .retAddr 0, .retAddr 0, .retAddr 0] [] (97, I, J, R) Q := by
  unfold rs_M_roundOf at h
  refine az_E.sn 6 (pc' := 8) (L' := [.ref 73, .int a1, .int (0 : Int32), .int (8 : Int32), .int (0 : Int32)]) (S' := []) (σ' := (97, I, J, R)) rfl ?_
  exact az_E.forget (L := [.ref 73, .int a1, .int (0 : Int32), .int (8 : Int32), .int (0 : Int32)]) ⟨rfl, rfl, rfl, rfl, rfl, trivial⟩ (re_M_roundOf_8 (I := I) (J := J) (R := R)  h hQ)
set_option maxRecDepth 100000 in
set_option maxHeartbeats 4000000 in
theorem re_M_nextOrder_100_b {ex : az_X} {I : Nat → Nat → Int32} {J : Nat → Nat → Int64} {R : Nat → Nat → Option Nat} {v5 : Int32} {v6 : Int32} {x : ((Int32 × Int32 × (Nat → Nat → Int32)) ⊕ (Int32 × (Nat → Nat → Int32)))} (h : rs_M_nextOrder_100_b v5 v6 I = some x) {Q : Option Value → az_S → Prop} (hQ : Sum.elim (fun s => az_E az_F ex 0 210 100 [.ref 73, .retAddr 0, .retAddr 0, .retAddr 0, .retAddr 0, .int s.1, .int s.2.1] [] (97, s.2.2, J, R) Q) (fun x => Q (some (.int x.1)) (97, x.2, J, R)) x) : az_E az_F ex 0 210 100 [.ref 73, .retAddr 0, .retAddr 0, .retAddr 0, .retAddr 0, .int v5, .int v6] [] (97, I, J, R) Q := by
  unfold rs_M_nextOrder_100_b at h
  refine az_E.sn 2 (pc' := 104) (L' := [.ref 73, .retAddr 0, .retAddr 0, .retAddr 0, .retAddr 0, .int v5, .int v6]) (S' := [.int v6, .int v5]) (σ' := (97, I, J, R)) rfl ?_
  refine az_E.br (c := v6 ≤ v5) (tt := 148) (ff := 107) (L' := [.ref 73, .retAddr 0, .retAddr 0, .retAddr 0, .retAddr 0, .int v5, .int v6]) (S' := []) (σ' := (97, I, J, R)) rfl (fun hc_10 => ?_) (fun hc_10 => ?_)
  · rw [if_pos hc_10] at h
    refine az_E.sn 1 (pc' := 149) (L' := [.ref 73, .retAddr 0, .retAddr 0, .retAddr 0, .retAddr 0, .int v5, .int v6]) (S' := [.int (1 : Int32)]) (σ' := (97, I, J, R)) rfl ?_
    have h := Option.some.inj h
    subst h
    exact az_E.ret (v := some (.int (1 : Int32))) (σ' := (97, I, J, R)) rfl hQ
  · rw [if_neg hc_10] at h
    refine az_E.sn 3 (pc' := 113) (L' := [.ref 73, .retAddr 0, .retAddr 0, .retAddr 0, .retAddr 0, .int v5, .int v6]) (S' := [.int v5, .ref 88]) (σ' := (97, I, J, R)) rfl ?_
    by_cases hc_11 : v5 < 0 ∨ 5 ≤ v5.toNatClampNeg
    · rw [if_pos hc_11] at h; cases h
    · rw [if_neg hc_11] at h
      refine az_E.oi (o := az_ai az_F ex (97, I, J, R) 88 v5) (pc' := 114) (L' := [.ref 73, .retAddr 0, .retAddr 0, .retAddr 0, .retAddr 0, .int v5, .int v6]) (S' := []) (σ' := (97, I, J, R)) (x := (I 88 v5.toNatClampNeg)) rfl (if_neg hc_11) ?_
      refine az_E.sn 7 (pc' := 128) (L' := [.ref 73, .retAddr 0, .retAddr 0, .retAddr 0, .int (I 88 v5.toNatClampNeg), .int v5, .int v6]) (S' := [.int v6, .ref 88, .int v5, .ref 88]) (σ' := (97, I, J, R)) rfl ?_
      by_cases hc_12 : v6 < 0 ∨ 5 ≤ v6.toNatClampNeg
      · rw [if_pos hc_12] at h; cases h
      · rw [if_neg hc_12] at h
        refine az_E.oi (o := az_ai az_F ex (97, I, J, R) 88 v6) (pc' := 129) (L' := [.ref 73, .retAddr 0, .retAddr 0, .retAddr 0, .int (I 88 v5.toNatClampNeg), .int v5, .int v6]) (S' := [.int v5, .ref 88]) (σ' := (97, I, J, R)) (x := (I 88 v6.toNatClampNeg)) rfl (if_neg hc_12) ?_
        by_cases hc_13 : v5 < 0 ∨ 5 ≤ v5.toNatClampNeg
        · rw [if_pos hc_13] at h; cases h
        · rw [if_neg hc_13] at h
          refine az_E.o (o := az_si az_F (97, I, J, R) 88 v5 (I 88 v6.toNatClampNeg)) (pc' := 130) (L' := [.ref 73, .retAddr 0, .retAddr 0, .retAddr 0, .int (I 88 v5.toNatClampNeg), .int v5, .int v6]) (S' := []) (x := (97, (az_u I 88 v5.toNatClampNeg (I 88 v6.toNatClampNeg)), J, R)) rfl (if_neg hc_13) ?_
          refine az_E.sn 4 (pc' := 138) (L' := [.ref 73, .retAddr 0, .retAddr 0, .retAddr 0, .int (I 88 v5.toNatClampNeg), .int v5, .int v6]) (S' := [.int (I 88 v5.toNatClampNeg), .int v6, .ref 88]) (σ' := (97, (az_u I 88 v5.toNatClampNeg (I 88 v6.toNatClampNeg)), J, R)) rfl ?_
          by_cases hc_14 : v6 < 0 ∨ 5 ≤ v6.toNatClampNeg
          · rw [if_pos hc_14] at h; cases h
          · rw [if_neg hc_14] at h
            refine az_E.o (o := az_si az_F (97, (az_u I 88 v5.toNatClampNeg (I 88 v6.toNatClampNeg)), J, R) 88 v6 (I 88 v5.toNatClampNeg)) (pc' := 139) (L' := [.ref 73, .retAddr 0, .retAddr 0, .retAddr 0, .int (I 88 v5.toNatClampNeg), .int v5, .int v6]) (S' := []) (x := (97, (az_u (az_u I 88 v5.toNatClampNeg (I 88 v6.toNatClampNeg)) 88 v6.toNatClampNeg (I 88 v5.toNatClampNeg)), J, R)) rfl (if_neg hc_14) ?_
            refine az_E.sn 3 (pc' := 100) (L' := [.ref 73, .retAddr 0, .retAddr 0, .retAddr 0, .int (I 88 v5.toNatClampNeg), .int (v5 + (1 : Int32)), .int (v6 + (-1 : Int32))]) (S' := []) (σ' := (97, (az_u (az_u I 88 v5.toNatClampNeg (I 88 v6.toNatClampNeg)) 88 v6.toNatClampNeg (I 88 v5.toNatClampNeg)), J, R)) rfl ?_
            have h := Option.some.inj h
            subst h
            exact az_E.forget (L := [.ref 73, .retAddr 0, .retAddr 0, .retAddr 0, .retAddr 0, .int (v5 + (1 : Int32)), .int (v6 + (-1 : Int32))]) ⟨rfl, trivial, trivial, trivial, trivial, rfl, rfl, trivial⟩ hQ
set_option maxRecDepth 100000 in
set_option maxHeartbeats 4000000 in
theorem re_M_nextOrder_100 {ex : az_X} {I : Nat → Nat → Int32} {J : Nat → Nat → Int64} {R : Nat → Nat → Option Nat} {v5 : Int32} {v6 : Int32} {x : Int32 × (Nat → Nat → Int32)} (h : rs_M_nextOrder_100 I v5 v6 = some x) {Q : Option Value → az_S → Prop} (hQ : Q (some (.int x.1)) (97, x.2, J, R)) : az_E az_F ex 0 210 100 [.ref 73, .retAddr 0, .retAddr 0, .retAddr 0, .retAddr 0, .int v5, .int v6] [] (97, I, J, R) Q := by
  unfold rs_M_nextOrder_100 at h
  refine az_lp_E (G := fun s => az_E az_F ex 0 210 100 [.ref 73, .retAddr 0, .retAddr 0, .retAddr 0, .retAddr 0, .int s.1, .int s.2.1] [] (97, s.2.2, J, R) Q) (H := fun x => Q (some (.int x.1)) (97, x.2, J, R)) (fun s o hb ho => ?_) _ _ _ h hQ
  exact re_M_nextOrder_100_b  hb ho
set_option maxRecDepth 100000 in
set_option maxHeartbeats 4000000 in
theorem re_M_nextOrder_62 {ex : az_X} {I : Nat → Nat → Int32} {J : Nat → Nat → Int64} {R : Nat → Nat → Option Nat} {v1 : Int32} {v2 : Int32} {v3 : Int32} {x : Int32 × (Nat → Nat → Int32)} (h : rs_M_nextOrder_62 I v1 v2 v3 = some x) {Q : Option Value → az_S → Prop} (hQ : Q (some (.int x.1)) (97, x.2, J, R)) : az_E az_F ex 0 210 62 [.ref 73, .int v1, .int v2, .int v3, .retAddr 0, .retAddr 0, .retAddr 0] [] (97, I, J, R) Q := by
  unfold rs_M_nextOrder_62 at h
  refine az_E.sn 3 (pc' := 67) (L' := [.ref 73, .int v1, .int v2, .int v3, .retAddr 0, .retAddr 0, .retAddr 0]) (S' := [.int v2, .ref 88]) (σ' := (97, I, J, R)) rfl ?_
  by_cases hc_6 : v2 < 0 ∨ 5 ≤ v2.toNatClampNeg
  · rw [if_pos hc_6] at h; cases h
  · rw [if_neg hc_6] at h
    refine az_E.oi (o := az_ai az_F ex (97, I, J, R) 88 v2) (pc' := 68) (L' := [.ref 73, .int v1, .int v2, .int v3, .retAddr 0, .retAddr 0, .retAddr 0]) (S' := []) (σ' := (97, I, J, R)) (x := (I 88 v2.toNatClampNeg)) rfl (if_neg hc_6) ?_
    refine az_E.sn 7 (pc' := 80) (L' := [.ref 73, .int v1, .int v2, .int v3, .int (I 88 v2.toNatClampNeg), .retAddr 0, .retAddr 0]) (S' := [.int v3, .ref 88, .int v2, .ref 88]) (σ' := (97, I, J, R)) rfl ?_
    by_cases hc_7 : v3 < 0 ∨ 5 ≤ v3.toNatClampNeg
    · rw [if_pos hc_7] at h; cases h
    · rw [if_neg hc_7] at h
      refine az_E.oi (o := az_ai az_F ex (97, I, J, R) 88 v3) (pc' := 81) (L' := [.ref 73, .int v1, .int v2, .int v3, .int (I 88 v2.toNatClampNeg), .retAddr 0, .retAddr 0]) (S' := [.int v2, .ref 88]) (σ' := (97, I, J, R)) (x := (I 88 v3.toNatClampNeg)) rfl (if_neg hc_7) ?_
      by_cases hc_8 : v2 < 0 ∨ 5 ≤ v2.toNatClampNeg
      · rw [if_pos hc_8] at h; cases h
      · rw [if_neg hc_8] at h
        refine az_E.o (o := az_si az_F (97, I, J, R) 88 v2 (I 88 v3.toNatClampNeg)) (pc' := 82) (L' := [.ref 73, .int v1, .int v2, .int v3, .int (I 88 v2.toNatClampNeg), .retAddr 0, .retAddr 0]) (S' := []) (x := (97, (az_u I 88 v2.toNatClampNeg (I 88 v3.toNatClampNeg)), J, R)) rfl (if_neg hc_8) ?_
        refine az_E.sn 4 (pc' := 89) (L' := [.ref 73, .int v1, .int v2, .int v3, .int (I 88 v2.toNatClampNeg), .retAddr 0, .retAddr 0]) (S' := [.int (I 88 v2.toNatClampNeg), .int v3, .ref 88]) (σ' := (97, (az_u I 88 v2.toNatClampNeg (I 88 v3.toNatClampNeg)), J, R)) rfl ?_
        by_cases hc_9 : v3 < 0 ∨ 5 ≤ v3.toNatClampNeg
        · rw [if_pos hc_9] at h; cases h
        · rw [if_neg hc_9] at h
          refine az_E.o (o := az_si az_F (97, (az_u I 88 v2.toNatClampNeg (I 88 v3.toNatClampNeg)), J, R) 88 v3 (I 88 v2.toNatClampNeg)) (pc' := 90) (L' := [.ref 73, .int v1, .int v2, .int v3, .int (I 88 v2.toNatClampNeg), .retAddr 0, .retAddr 0]) (S' := []) (x := (97, (az_u (az_u I 88 v2.toNatClampNeg (I 88 v3.toNatClampNeg)) 88 v3.toNatClampNeg (I 88 v2.toNatClampNeg)), J, R)) rfl (if_neg hc_9) ?_
          refine az_E.sn 8 (pc' := 100) (L' := [.ref 73, .int v1, .int v2, .int v3, .int (I 88 v2.toNatClampNeg), .int (v2 + (1 : Int32)), .int (v1 - (1 : Int32))]) (S' := []) (σ' := (97, (az_u (az_u I 88 v2.toNatClampNeg (I 88 v3.toNatClampNeg)) 88 v3.toNatClampNeg (I 88 v2.toNatClampNeg)), J, R)) rfl ?_
          exact az_E.forget (L := [.ref 73, .retAddr 0, .retAddr 0, .retAddr 0, .retAddr 0, .int (v2 + (1 : Int32)), .int (v1 - (1 : Int32))]) ⟨rfl, trivial, trivial, trivial, trivial, rfl, rfl, trivial⟩ (re_M_nextOrder_100 (I := (az_u (az_u I 88 v2.toNatClampNeg (I 88 v3.toNatClampNeg)) 88 v3.toNatClampNeg (I 88 v2.toNatClampNeg))) (J := J) (R := R)  h hQ)
set_option maxRecDepth 100000 in
set_option maxHeartbeats 4000000 in
theorem re_M_nextOrder_41_b {ex : az_X} {I : Nat → Nat → Int32} {J : Nat → Nat → Int64} {R : Nat → Nat → Option Nat} {v1 : Int32} {v2 : Int32} {v3 : Int32} {x : ((Int32) ⊕ (Int32 × (Nat → Nat → Int32)))} (h : rs_M_nextOrder_41_b I v1 v2 v3 = some x) {Q : Option Value → az_S → Prop} (hQ : Sum.elim (fun s => az_E az_F ex 0 210 41 [.ref 73, .int v1, .int v2, .int s, .retAddr 0, .retAddr 0, .retAddr 0] [] (97, I, J, R) Q) (fun x => Q (some (.int x.1)) (97, x.2, J, R)) x) : az_E az_F ex 0 210 41 [.ref 73, .int v1, .int v2, .int v3, .retAddr 0, .retAddr 0, .retAddr 0] [] (97, I, J, R) Q := by
  unfold rs_M_nextOrder_41_b at h
  refine az_E.sn 3 (pc' := 46) (L' := [.ref 73, .int v1, .int v2, .int v3, .retAddr 0, .retAddr 0, .retAddr 0]) (S' := [.int v3, .ref 88]) (σ' := (97, I, J, R)) rfl ?_
  by_cases hc_3 : v3 < 0 ∨ 5 ≤ v3.toNatClampNeg
  · rw [if_pos hc_3] at h; cases h
  · rw [if_neg hc_3] at h
    refine az_E.oi (o := az_ai az_F ex (97, I, J, R) 88 v3) (pc' := 47) (L' := [.ref 73, .int v1, .int v2, .int v3, .retAddr 0, .retAddr 0, .retAddr 0]) (S' := []) (σ' := (97, I, J, R)) (x := (I 88 v3.toNatClampNeg)) rfl (if_neg hc_3) ?_
    refine az_E.sn 3 (pc' := 52) (L' := [.ref 73, .int v1, .int v2, .int v3, .retAddr 0, .retAddr 0, .retAddr 0]) (S' := [.int v2, .ref 88, .int (I 88 v3.toNatClampNeg)]) (σ' := (97, I, J, R)) rfl ?_
    by_cases hc_4 : v2 < 0 ∨ 5 ≤ v2.toNatClampNeg
    · rw [if_pos hc_4] at h; cases h
    · rw [if_neg hc_4] at h
      refine az_E.oi (o := az_ai az_F ex (97, I, J, R) 88 v2) (pc' := 53) (L' := [.ref 73, .int v1, .int v2, .int v3, .retAddr 0, .retAddr 0, .retAddr 0]) (S' := [.int (I 88 v3.toNatClampNeg)]) (σ' := (97, I, J, R)) (x := (I 88 v2.toNatClampNeg)) rfl (if_neg hc_4) ?_
      refine az_E.br (c := (I 88 v2.toNatClampNeg) ≤ (I 88 v3.toNatClampNeg)) (tt := 62) (ff := 56) (L' := [.ref 73, .int v1, .int v2, .int v3, .retAddr 0, .retAddr 0, .retAddr 0]) (S' := []) (σ' := (97, I, J, R)) rfl (fun hc_5 => ?_) (fun hc_5 => ?_)
      · rw [if_pos hc_5] at h
        obtain ⟨x, hx, rfl⟩ := Option.map_eq_some_iff.mp h
        exact az_E.forget (L := [.ref 73, .int v1, .int v2, .int v3, .retAddr 0, .retAddr 0, .retAddr 0]) ⟨rfl, rfl, rfl, rfl, trivial, trivial, trivial, trivial⟩ (re_M_nextOrder_62 (I := I) (J := J) (R := R)  hx hQ)
      · rw [if_neg hc_5] at h
        refine az_E.sn 2 (pc' := 41) (L' := [.ref 73, .int v1, .int v2, .int (v3 + (-1 : Int32)), .retAddr 0, .retAddr 0, .retAddr 0]) (S' := []) (σ' := (97, I, J, R)) rfl ?_
        have h := Option.some.inj h
        subst h
        exact az_E.forget (L := [.ref 73, .int v1, .int v2, .int (v3 + (-1 : Int32)), .retAddr 0, .retAddr 0, .retAddr 0]) ⟨rfl, rfl, rfl, rfl, trivial, trivial, trivial, trivial⟩ hQ
set_option maxRecDepth 100000 in
set_option maxHeartbeats 4000000 in
theorem re_M_nextOrder_41 {ex : az_X} {I : Nat → Nat → Int32} {J : Nat → Nat → Int64} {R : Nat → Nat → Option Nat} {v1 : Int32} {v2 : Int32} {v3 : Int32} {x : Int32 × (Nat → Nat → Int32)} (h : rs_M_nextOrder_41 I v1 v2 v3 = some x) {Q : Option Value → az_S → Prop} (hQ : Q (some (.int x.1)) (97, x.2, J, R)) : az_E az_F ex 0 210 41 [.ref 73, .int v1, .int v2, .int v3, .retAddr 0, .retAddr 0, .retAddr 0] [] (97, I, J, R) Q := by
  unfold rs_M_nextOrder_41 at h
  refine az_lp_E (G := fun s => az_E az_F ex 0 210 41 [.ref 73, .int v1, .int v2, .int s, .retAddr 0, .retAddr 0, .retAddr 0] [] (97, I, J, R) Q) (H := fun x => Q (some (.int x.1)) (97, x.2, J, R)) (fun s o hb ho => ?_) _ _ _ h hQ
  exact re_M_nextOrder_41_b  hb ho
set_option maxRecDepth 100000 in
set_option maxHeartbeats 4000000 in
theorem re_M_nextOrder_31 {ex : az_X} {I : Nat → Nat → Int32} {J : Nat → Nat → Int64} {R : Nat → Nat → Option Nat} {v1 : Int32} {v2 : Int32} {x : Int32 × (Nat → Nat → Int32)} (h : rs_M_nextOrder_31 I v1 v2 = some x) {Q : Option Value → az_S → Prop} (hQ : Q (some (.int x.1)) (97, x.2, J, R)) : az_E az_F ex 0 210 31 [.ref 73, .int v1, .int v2, .retAddr 0, .retAddr 0, .retAddr 0, .retAddr 0] [] (97, I, J, R) Q := by
  unfold rs_M_nextOrder_31 at h
  refine az_E.sn 1 (pc' := 32) (L' := [.ref 73, .int v1, .int v2, .retAddr 0, .retAddr 0, .retAddr 0, .retAddr 0]) (S' := [.int v2]) (σ' := (97, I, J, R)) rfl ?_
  refine az_E.br (c := 0 ≤ v2) (tt := 37) (ff := 35) (L' := [.ref 73, .int v1, .int v2, .retAddr 0, .retAddr 0, .retAddr 0, .retAddr 0]) (S' := []) (σ' := (97, I, J, R)) rfl (fun hc_2 => ?_) (fun hc_2 => ?_)
  · rw [if_pos hc_2] at h
    refine az_E.sn 4 (pc' := 41) (L' := [.ref 73, .int v1, .int v2, .int (v1 - (1 : Int32)), .retAddr 0, .retAddr 0, .retAddr 0]) (S' := []) (σ' := (97, I, J, R)) rfl ?_
    exact az_E.forget (L := [.ref 73, .int v1, .int v2, .int (v1 - (1 : Int32)), .retAddr 0, .retAddr 0, .retAddr 0]) ⟨rfl, rfl, rfl, rfl, trivial, trivial, trivial, trivial⟩ (re_M_nextOrder_41 (I := I) (J := J) (R := R)  h hQ)
  · rw [if_neg hc_2] at h
    refine az_E.sn 1 (pc' := 36) (L' := [.ref 73, .int v1, .int v2, .retAddr 0, .retAddr 0, .retAddr 0, .retAddr 0]) (S' := [.int (0 : Int32)]) (σ' := (97, I, J, R)) rfl ?_
    have h := Option.some.inj h
    subst h
    exact az_E.ret (v := some (.int (0 : Int32))) (σ' := (97, I, J, R)) rfl hQ
set_option maxRecDepth 100000 in
set_option maxHeartbeats 4000000 in
theorem re_M_nextOrder_4_b {ex : az_X} {I : Nat → Nat → Int32} {J : Nat → Nat → Int64} {R : Nat → Nat → Option Nat} {v1 : Int32} {v2 : Int32} {x : ((Int32) ⊕ (Int32 × (Nat → Nat → Int32)))} (h : rs_M_nextOrder_4_b I v1 v2 = some x) {Q : Option Value → az_S → Prop} (hQ : Sum.elim (fun s => az_E az_F ex 0 210 4 [.ref 73, .int v1, .int s, .retAddr 0, .retAddr 0, .retAddr 0, .retAddr 0] [] (97, I, J, R) Q) (fun x => Q (some (.int x.1)) (97, x.2, J, R)) x) : az_E az_F ex 0 210 4 [.ref 73, .int v1, .int v2, .retAddr 0, .retAddr 0, .retAddr 0, .retAddr 0] [] (97, I, J, R) Q := by
  unfold rs_M_nextOrder_4_b at h
  refine az_E.sn 1 (pc' := 5) (L' := [.ref 73, .int v1, .int v2, .retAddr 0, .retAddr 0, .retAddr 0, .retAddr 0]) (S' := [.int v2]) (σ' := (97, I, J, R)) rfl ?_
  refine az_E.br (c := v2 < 0) (tt := 31) (ff := 8) (L' := [.ref 73, .int v1, .int v2, .retAddr 0, .retAddr 0, .retAddr 0, .retAddr 0]) (S' := []) (σ' := (97, I, J, R)) rfl (fun hc_1 => ?_) (fun hc_1 => ?_)
  · rw [if_pos hc_1] at h
    obtain ⟨x, hx, rfl⟩ := Option.map_eq_some_iff.mp h
    exact az_E.forget (L := [.ref 73, .int v1, .int v2, .retAddr 0, .retAddr 0, .retAddr 0, .retAddr 0]) ⟨rfl, rfl, rfl, trivial, trivial, trivial, trivial, trivial⟩ (re_M_nextOrder_31 (I := I) (J := J) (R := R)  hx hQ)
  · rw [if_neg hc_1] at h
    refine az_E.sn 3 (pc' := 13) (L' := [.ref 73, .int v1, .int v2, .retAddr 0, .retAddr 0, .retAddr 0, .retAddr 0]) (S' := [.int v2, .ref 88]) (σ' := (97, I, J, R)) rfl ?_
    by_cases hc_15 : v2 < 0 ∨ 5 ≤ v2.toNatClampNeg
    · rw [if_pos hc_15] at h; cases h
    · rw [if_neg hc_15] at h
      refine az_E.oi (o := az_ai az_F ex (97, I, J, R) 88 v2) (pc' := 14) (L' := [.ref 73, .int v1, .int v2, .retAddr 0, .retAddr 0, .retAddr 0, .retAddr 0]) (S' := []) (σ' := (97, I, J, R)) (x := (I 88 v2.toNatClampNeg)) rfl (if_neg hc_15) ?_
      refine az_E.sn 5 (pc' := 21) (L' := [.ref 73, .int v1, .int v2, .retAddr 0, .retAddr 0, .retAddr 0, .retAddr 0]) (S' := [.int (v2 + (1 : Int32)), .ref 88, .int (I 88 v2.toNatClampNeg)]) (σ' := (97, I, J, R)) rfl ?_
      by_cases hc_16 : (v2 + (1 : Int32)) < 0 ∨ 5 ≤ (v2 + (1 : Int32)).toNatClampNeg
      · rw [if_pos hc_16] at h; cases h
      · rw [if_neg hc_16] at h
        refine az_E.oi (o := az_ai az_F ex (97, I, J, R) 88 (v2 + (1 : Int32))) (pc' := 22) (L' := [.ref 73, .int v1, .int v2, .retAddr 0, .retAddr 0, .retAddr 0, .retAddr 0]) (S' := [.int (I 88 v2.toNatClampNeg)]) (σ' := (97, I, J, R)) (x := (I 88 (v2 + (1 : Int32)).toNatClampNeg)) rfl (if_neg hc_16) ?_
        refine az_E.br (c := (I 88 v2.toNatClampNeg) ≤ (I 88 (v2 + (1 : Int32)).toNatClampNeg)) (tt := 31) (ff := 25) (L' := [.ref 73, .int v1, .int v2, .retAddr 0, .retAddr 0, .retAddr 0, .retAddr 0]) (S' := []) (σ' := (97, I, J, R)) rfl (fun hc_17 => ?_) (fun hc_17 => ?_)
        · rw [if_pos hc_17] at h
          obtain ⟨x, hx, rfl⟩ := Option.map_eq_some_iff.mp h
          exact az_E.forget (L := [.ref 73, .int v1, .int v2, .retAddr 0, .retAddr 0, .retAddr 0, .retAddr 0]) ⟨rfl, rfl, rfl, trivial, trivial, trivial, trivial, trivial⟩ (re_M_nextOrder_31 (I := I) (J := J) (R := R)  hx hQ)
        · rw [if_neg hc_17] at h
          refine az_E.sn 2 (pc' := 4) (L' := [.ref 73, .int v1, .int (v2 + (-1 : Int32)), .retAddr 0, .retAddr 0, .retAddr 0, .retAddr 0]) (S' := []) (σ' := (97, I, J, R)) rfl ?_
          have h := Option.some.inj h
          subst h
          exact az_E.forget (L := [.ref 73, .int v1, .int (v2 + (-1 : Int32)), .retAddr 0, .retAddr 0, .retAddr 0, .retAddr 0]) ⟨rfl, rfl, rfl, trivial, trivial, trivial, trivial, trivial⟩ hQ
set_option maxRecDepth 100000 in
set_option maxHeartbeats 4000000 in
theorem re_M_nextOrder_4 {ex : az_X} {I : Nat → Nat → Int32} {J : Nat → Nat → Int64} {R : Nat → Nat → Option Nat} {v1 : Int32} {v2 : Int32} {x : Int32 × (Nat → Nat → Int32)} (h : rs_M_nextOrder_4 I v1 v2 = some x) {Q : Option Value → az_S → Prop} (hQ : Q (some (.int x.1)) (97, x.2, J, R)) : az_E az_F ex 0 210 4 [.ref 73, .int v1, .int v2, .retAddr 0, .retAddr 0, .retAddr 0, .retAddr 0] [] (97, I, J, R) Q := by
  unfold rs_M_nextOrder_4 at h
  refine az_lp_E (G := fun s => az_E az_F ex 0 210 4 [.ref 73, .int v1, .int s, .retAddr 0, .retAddr 0, .retAddr 0, .retAddr 0] [] (97, I, J, R) Q) (H := fun x => Q (some (.int x.1)) (97, x.2, J, R)) (fun s o hb ho => ?_) _ _ _ h hQ
  exact re_M_nextOrder_4_b  hb ho
set_option maxRecDepth 100000 in
set_option maxHeartbeats 4000000 in
theorem re_M_nextOrder {ex : az_X} {I : Nat → Nat → Int32} {J : Nat → Nat → Int64} {R : Nat → Nat → Option Nat} {a1 : Int32} {o : Int32 × (Nat → Nat → Int32)} (h : rs_M_nextOrder I a1 = some o) {Q : Option Value → az_S → Prop} (hQ : Q (some (.int o.1)) (97, o.2, J, R)) : az_E az_F ex 0 210 0 [.ref 73, .int a1, .retAddr 0, .retAddr 0, .retAddr 0, .retAddr 0, .retAddr 0] [] (97, I, J, R) Q := by
  unfold rs_M_nextOrder at h
  refine az_E.sn 4 (pc' := 4) (L' := [.ref 73, .int a1, .int (a1 - (2 : Int32)), .retAddr 0, .retAddr 0, .retAddr 0, .retAddr 0]) (S' := []) (σ' := (97, I, J, R)) rfl ?_
  exact az_E.forget (L := [.ref 73, .int a1, .int (a1 - (2 : Int32)), .retAddr 0, .retAddr 0, .retAddr 0, .retAddr 0]) ⟨rfl, rfl, rfl, trivial, trivial, trivial, trivial, trivial⟩ (re_M_nextOrder_4 (I := I) (J := J) (R := R)  h hQ)
set_option maxRecDepth 100000 in
set_option maxHeartbeats 4000000 in
theorem re_M_round_255 {ex : az_X} {I : Nat → Nat → Int32} {J : Nat → Nat → Int64} {R : Nat → Nat → Option Nat} {v3 : Int32} {v6 : Int32} {v7 : Int32} {x : Int32 × (Nat → Nat → Int32)} (h : rs_M_round_255 I v3 v6 v7 = some x) {Q : Option Value → az_S → Prop} (hQ : Q (some (.int x.1)) (97, x.2, J, R)) : az_E az_F ex 125 212 255 [.retAddr 0, .retAddr 0, .retAddr 0, .int v3, .retAddr 0, .retAddr 0, .int v6, .int v7, .retAddr 0] [] (97, I, J, R) Q := by
  unfold rs_M_round_255 at h
  refine az_E.sn 2 (pc' := 257) (L' := [.retAddr 0, .retAddr 0, .retAddr 0, .int v3, .retAddr 0, .retAddr 0, .int v6, .int v7, .retAddr 0]) (S' := [.int (-1 : Int32), .int v3]) (σ' := (97, I, J, R)) rfl ?_
  refine az_E.br (c := v3 = (-1 : Int32)) (tt := 260) (ff := 265) (L' := [.retAddr 0, .retAddr 0, .retAddr 0, .int v3, .retAddr 0, .retAddr 0, .int v6, .int v7, .retAddr 0]) (S' := []) (σ' := (97, I, J, R)) rfl (fun hc_27 => ?_) (fun hc_27 => ?_)
  · rw [if_pos hc_27] at h
    refine az_E.sn 2 (pc' := 267) (L' := [.retAddr 0, .retAddr 0, .retAddr 0, .int v3, .retAddr 0, .retAddr 0, .int v6, .int v7, .retAddr 0]) (S' := [.int v6]) (σ' := (97, I, J, R)) rfl ?_
    have h := Option.some.inj h
    subst h
    exact az_E.ret (v := some (.int v6)) (σ' := (97, I, J, R)) rfl hQ
  · rw [if_neg hc_27] at h
    refine az_E.sn 1 (pc' := 267) (L' := [.retAddr 0, .retAddr 0, .retAddr 0, .int v3, .retAddr 0, .retAddr 0, .int v6, .int v7, .retAddr 0]) (S' := [.int v7]) (σ' := (97, I, J, R)) rfl ?_
    have h := Option.some.inj h
    subst h
    exact az_E.ret (v := some (.int v7)) (σ' := (97, I, J, R)) rfl hQ
set_option maxRecDepth 100000 in
set_option maxHeartbeats 4000000 in
theorem re_M_round_201_b {ex : az_X} {I : Nat → Nat → Int32} {J : Nat → Nat → Int64} {R : Nat → Nat → Option Nat} {v3 : Int32} {v5 : Int32} {v6 : Int32} {v7 : Int32} {x : ((Int32 × Int32 × (Nat → Nat → Int32)) ⊕ (Int32 × (Nat → Nat → Int32)))} (h : rs_M_round_201_b v3 v5 v6 v7 I = some x) {Q : Option Value → az_S → Prop} (hQ : Sum.elim (fun s => az_E az_F ex 125 212 201 [.ref 73, .retAddr 0, .retAddr 0, .int v3, .retAddr 0, .int v5, .int s.1, .int s.2.1, .retAddr 0] [] (97, s.2.2, J, R) Q) (fun x => Q (some (.int x.1)) (97, x.2, J, R)) x) : az_E az_F ex 125 212 201 [.ref 73, .retAddr 0, .retAddr 0, .int v3, .retAddr 0, .int v5, .int v6, .int v7, .retAddr 0] [] (97, I, J, R) Q := by
  unfold rs_M_round_201_b at h
  refine az_E.sn 2 (pc' := 204) (L' := [.ref 73, .retAddr 0, .retAddr 0, .int v3, .retAddr 0, .int v5, .int v6, .int v7, .retAddr 0]) (S' := [.int v5, .ref 73]) (σ' := (97, I, J, R)) rfl ?_
  cases hx_25 : rs_M_nextOrder I v5 with
  | none => rw [hx_25] at h; cases h
  | some o =>
    rw [hx_25] at h
    obtain ⟨x_23, I_24⟩ := o
    dsimp only at h
    refine az_E.call (d := 124) (k' := 210) (vs := [.ref 73, .int v5]) (pc' := 207) (S' := []) (Q1 := fun v s => v = some (.int x_23) ∧ s = (97, I_24, J, R)) rfl (az_E.deep (by omega) (re_M_nextOrder (J := J) (R := R)  hx_25 ⟨rfl, rfl⟩)) (fun v s hq => ?_)
    obtain ⟨rfl, rfl⟩ := hq
    show az_E az_F ex 125 212 207 [.ref 73, .retAddr 0, .retAddr 0, .int v3, .retAddr 0, .int v5, .int v6, .int v7, .retAddr 0] [.int x_23] (97, I_24, J, R) _
    refine az_E.br (c := x_23 = 0) (tt := 255) (ff := 210) (L' := [.ref 73, .retAddr 0, .retAddr 0, .int v3, .retAddr 0, .int v5, .int v6, .int v7, .retAddr 0]) (S' := []) (σ' := (97, I_24, J, R)) rfl (fun hc_26 => ?_) (fun hc_26 => ?_)
    · rw [if_pos hc_26] at h
      obtain ⟨x, hx, rfl⟩ := Option.map_eq_some_iff.mp h
      exact az_E.forget (L := [.retAddr 0, .retAddr 0, .retAddr 0, .int v3, .retAddr 0, .retAddr 0, .int v6, .int v7, .retAddr 0]) ⟨trivial, trivial, trivial, rfl, trivial, trivial, rfl, rfl, trivial, trivial⟩ (re_M_round_255 (I := I_24) (J := J) (R := R)  hx hQ)
    · rw [if_neg hc_26] at h
      refine az_E.sn 2 (pc' := 213) (L' := [.ref 73, .retAddr 0, .retAddr 0, .int v3, .retAddr 0, .int v5, .int v6, .int v7, .retAddr 0]) (S' := [.int v5, .ref 73]) (σ' := (97, I_24, J, R)) rfl ?_
      cases hx_29 : rs_M_roundOf I_24 v5 with
      | none => rw [hx_29] at h; cases h
      | some x_28 =>
        rw [hx_29] at h
        dsimp only at h
        refine az_E.call (d := 124) (k' := 209) (vs := [.ref 73, .int v5]) (pc' := 216) (S' := []) (Q1 := fun v s => v = some (.int x_28) ∧ s = (97, I_24, J, R)) rfl (az_E.deep (by omega) (re_M_roundOf (J := J) (R := R)  hx_29 ⟨rfl, rfl⟩)) (fun v s hq => ?_)
        obtain ⟨rfl, rfl⟩ := hq
        show az_E az_F ex 125 212 216 [.ref 73, .retAddr 0, .retAddr 0, .int v3, .retAddr 0, .int v5, .int v6, .int v7, .retAddr 0] [.int x_28] (97, I_24, J, R) _
        refine az_E.sn 3 (pc' := 222) (L' := [.ref 73, .retAddr 0, .retAddr 0, .int v3, .retAddr 0, .int v5, .int v6, .int v7, .int x_28]) (S' := [.int v6, .int x_28]) (σ' := (97, I_24, J, R)) rfl ?_
        refine az_E.br (c := v6 ≤ x_28) (tt := 252) (ff := 225) (L' := [.ref 73, .retAddr 0, .retAddr 0, .int v3, .retAddr 0, .int v5, .int v6, .int v7, .int x_28]) (S' := []) (σ' := (97, I_24, J, R)) rfl (fun hc_30 => ?_) (fun hc_30 => ?_)
        · rw [if_pos hc_30] at h
          refine az_E.sn 1 (pc' := 201) (L' := [.ref 73, .retAddr 0, .retAddr 0, .int v3, .retAddr 0, .int v5, .int v6, .int v7, .int x_28]) (S' := []) (σ' := (97, I_24, J, R)) rfl ?_
          have h := Option.some.inj h
          subst h
          exact az_E.forget (L := [.ref 73, .retAddr 0, .retAddr 0, .int v3, .retAddr 0, .int v5, .int v6, .int v7, .retAddr 0]) ⟨rfl, trivial, trivial, rfl, trivial, rfl, rfl, rfl, trivial, trivial⟩ hQ
        · rw [if_neg hc_30] at h
          refine az_E.sn 3 (pc' := 230) (L' := [.ref 73, .retAddr 0, .retAddr 0, .int v3, .retAddr 0, .int v5, .int x_28, .int v7, .int x_28]) (S' := [.int v3]) (σ' := (97, I_24, J, R)) rfl ?_
          refine az_E.br (c := v3 < 0) (tt := 248) (ff := 233) (L' := [.ref 73, .retAddr 0, .retAddr 0, .int v3, .retAddr 0, .int v5, .int x_28, .int v7, .int x_28]) (S' := []) (σ' := (97, I_24, J, R)) rfl (fun hc_31 => ?_) (fun hc_31 => ?_)
          · rw [if_pos hc_31] at h
            refine az_E.sn 3 (pc' := 201) (L' := [.ref 73, .retAddr 0, .retAddr 0, .int v3, .retAddr 0, .int v5, .int x_28, .int (-2 : Int32), .int x_28]) (S' := []) (σ' := (97, I_24, J, R)) rfl ?_
            have h := Option.some.inj h
            subst h
            exact az_E.forget (L := [.ref 73, .retAddr 0, .retAddr 0, .int v3, .retAddr 0, .int v5, .int x_28, .int (-2 : Int32), .retAddr 0]) ⟨rfl, trivial, trivial, rfl, trivial, rfl, rfl, rfl, trivial, trivial⟩ hQ
          · rw [if_neg hc_31] at h
            refine az_E.sn 2 (pc' := 236) (L' := [.ref 73, .retAddr 0, .retAddr 0, .int v3, .retAddr 0, .int v5, .int x_28, .int v7, .int x_28]) (S' := [.int v5, .int v3]) (σ' := (97, I_24, J, R)) rfl ?_
            refine az_E.br (c := v5 ≤ v3) (tt := 248) (ff := 239) (L' := [.ref 73, .retAddr 0, .retAddr 0, .int v3, .retAddr 0, .int v5, .int x_28, .int v7, .int x_28]) (S' := []) (σ' := (97, I_24, J, R)) rfl (fun hc_32 => ?_) (fun hc_32 => ?_)
            · rw [if_pos hc_32] at h
              refine az_E.sn 3 (pc' := 201) (L' := [.ref 73, .retAddr 0, .retAddr 0, .int v3, .retAddr 0, .int v5, .int x_28, .int (-2 : Int32), .int x_28]) (S' := []) (σ' := (97, I_24, J, R)) rfl ?_
              have h := Option.some.inj h
              subst h
              exact az_E.forget (L := [.ref 73, .retAddr 0, .retAddr 0, .int v3, .retAddr 0, .int v5, .int x_28, .int (-2 : Int32), .retAddr 0]) ⟨rfl, trivial, trivial, rfl, trivial, rfl, rfl, rfl, trivial, trivial⟩ hQ
            · rw [if_neg hc_32] at h
              refine az_E.sn 3 (pc' := 244) (L' := [.ref 73, .retAddr 0, .retAddr 0, .int v3, .retAddr 0, .int v5, .int x_28, .int v7, .int x_28]) (S' := [.int v3, .ref 88]) (σ' := (97, I_24, J, R)) rfl ?_
              by_cases hc_33 : v3 < 0 ∨ 5 ≤ v3.toNatClampNeg
              · rw [if_pos hc_33] at h; cases h
              · rw [if_neg hc_33] at h
                refine az_E.oi (o := az_ai az_F ex (97, I_24, J, R) 88 v3) (pc' := 245) (L' := [.ref 73, .retAddr 0, .retAddr 0, .int v3, .retAddr 0, .int v5, .int x_28, .int v7, .int x_28]) (S' := []) (σ' := (97, I_24, J, R)) (x := (I_24 88 v3.toNatClampNeg)) rfl (if_neg hc_33) ?_
                refine az_E.sn 3 (pc' := 201) (L' := [.ref 73, .retAddr 0, .retAddr 0, .int v3, .retAddr 0, .int v5, .int x_28, .int (I_24 88 v3.toNatClampNeg), .int x_28]) (S' := []) (σ' := (97, I_24, J, R)) rfl ?_
                have h := Option.some.inj h
                subst h
                exact az_E.forget (L := [.ref 73, .retAddr 0, .retAddr 0, .int v3, .retAddr 0, .int v5, .int x_28, .int (I_24 88 v3.toNatClampNeg), .retAddr 0]) ⟨rfl, trivial, trivial, rfl, trivial, rfl, rfl, rfl, trivial, trivial⟩ hQ
set_option maxRecDepth 100000 in
set_option maxHeartbeats 4000000 in
theorem re_M_round_201 {ex : az_X} {I : Nat → Nat → Int32} {J : Nat → Nat → Int64} {R : Nat → Nat → Option Nat} {v3 : Int32} {v5 : Int32} {v6 : Int32} {v7 : Int32} {x : Int32 × (Nat → Nat → Int32)} (h : rs_M_round_201 I v3 v5 v6 v7 = some x) {Q : Option Value → az_S → Prop} (hQ : Q (some (.int x.1)) (97, x.2, J, R)) : az_E az_F ex 125 212 201 [.ref 73, .retAddr 0, .retAddr 0, .int v3, .retAddr 0, .int v5, .int v6, .int v7, .retAddr 0] [] (97, I, J, R) Q := by
  unfold rs_M_round_201 at h
  refine az_lp_E (G := fun s => az_E az_F ex 125 212 201 [.ref 73, .retAddr 0, .retAddr 0, .int v3, .retAddr 0, .int v5, .int s.1, .int s.2.1, .retAddr 0] [] (97, s.2.2, J, R) Q) (H := fun x => Q (some (.int x.1)) (97, x.2, J, R)) (fun s o hb ho => ?_) _ _ _ h hQ
  exact re_M_round_201_b  hb ho
set_option maxRecDepth 100000 in
set_option maxHeartbeats 4000000 in
theorem re_M_round_154 {ex : az_X} {I : Nat → Nat → Int32} {J : Nat → Nat → Int64} {R : Nat → Nat → Option Nat} {v1 : Int32} {v2 : Int32} {v3 : Int32} {v4 : Int32} {v5 : Int32} {x : Int32 × (Nat → Nat → Int32)} (h : rs_M_round_154 I v1 v2 v3 v4 v5 = some x) {Q : Option Value → az_S → Prop} (hQ : Q (some (.int x.1)) (97, x.2, J, R)) : az_E az_F ex 125 212 154 [.ref 73, .int v1, .int v2, .int v3, .int v4, .int v5, .retAddr 0, .retAddr 0, .retAddr 0] [] (97, I, J, R) Q := by
  unfold rs_M_round_154 at h
  refine az_E.sn 2 (pc' := 156) (L' := [.ref 73, .int v1, .int v2, .int v3, .int v4, .int v5, .retAddr 0, .retAddr 0, .retAddr 0]) (S' := [.int v2, .ref 73]) (σ' := (97, I, J, R)) rfl ?_
  cases hx_16 : rs_M_asksFor I v2 with
  | none => rw [hx_16] at h; cases h
  | some I_15 =>
    rw [hx_16] at h
    dsimp only at h
    refine az_E.call (d := 124) (k' := 190) (vs := [.ref 73, .int v2]) (pc' := 159) (S' := []) (Q1 := fun v s => v = none ∧ s = (97, I_15, J, R)) rfl (az_E.deep (by omega) (re_M_asksFor (J := J) (R := R)  hx_16 ⟨rfl, rfl⟩)) (fun v s hq => ?_)
    obtain ⟨rfl, rfl⟩ := hq
    show az_E az_F ex 125 212 159 [.ref 73, .int v1, .int v2, .int v3, .int v4, .int v5, .retAddr 0, .retAddr 0, .retAddr 0] [] (97, I_15, J, R) _
    refine az_E.sn 4 (pc' := 166) (L' := [.ref 73, .int v1, .int v2, .int v3, .int v4, .int v5, .retAddr 0, .retAddr 0, .retAddr 0]) (S' := [.int (1000 : Int32), .int v1, .int v4, .ref 73]) (σ' := (97, I_15, J, R)) rfl ?_
    have hd_17 : ¬ ((1000 : Int32) = 0) := by decide
    refine az_E.dv (c := (1000 : Int32) = 0) (pc' := 167) (L' := [.ref 73, .int v1, .int v2, .int v3, .int v4, .int v5, .retAddr 0, .retAddr 0, .retAddr 0]) (S' := [.int (v1 / (1000 : Int32)), .int v4, .ref 73]) (σ' := (97, I_15, J, R)) rfl hd_17 ?_
    cases hx_19 : rs_M_asksApart I_15 v4 (v1 / (1000 : Int32)) with
    | none => rw [hx_19] at h; cases h
    | some I_18 =>
      rw [hx_19] at h
      dsimp only at h
      refine az_E.call (d := 124) (k' := 211) (vs := [.ref 73, .int v4, .int (v1 / (1000 : Int32))]) (pc' := 170) (S' := []) (Q1 := fun v s => v = none ∧ s = (97, I_18, J, R)) rfl (az_E.deep (by omega) (re_M_asksApart (J := J) (R := R)  hx_19 ⟨rfl, rfl⟩)) (fun v s hq => ?_)
      obtain ⟨rfl, rfl⟩ := hq
      show az_E az_F ex 125 212 170 [.ref 73, .int v1, .int v2, .int v3, .int v4, .int v5, .retAddr 0, .retAddr 0, .retAddr 0] [] (97, I_18, J, R) _
      refine az_E.sn 2 (pc' := 173) (L' := [.ref 73, .int v1, .int v2, .int v3, .int v4, .int v5, .retAddr 0, .retAddr 0, .retAddr 0]) (S' := [.int v5, .ref 73]) (σ' := (97, I_18, J, R)) rfl ?_
      cases hx_21 : rs_M_roundOf I_18 v5 with
      | none => rw [hx_21] at h; cases h
      | some x_20 =>
        rw [hx_21] at h
        dsimp only at h
        refine az_E.call (d := 124) (k' := 209) (vs := [.ref 73, .int v5]) (pc' := 176) (S' := []) (Q1 := fun v s => v = some (.int x_20) ∧ s = (97, I_18, J, R)) rfl (az_E.deep (by omega) (re_M_roundOf (J := J) (R := R)  hx_21 ⟨rfl, rfl⟩)) (fun v s hq => ?_)
        obtain ⟨rfl, rfl⟩ := hq
        show az_E az_F ex 125 212 176 [.ref 73, .int v1, .int v2, .int v3, .int v4, .int v5, .retAddr 0, .retAddr 0, .retAddr 0] [.int x_20] (97, I_18, J, R) _
        refine az_E.sn 2 (pc' := 179) (L' := [.ref 73, .int v1, .int v2, .int v3, .int v4, .int v5, .int x_20, .retAddr 0, .retAddr 0]) (S' := [.int v3]) (σ' := (97, I_18, J, R)) rfl ?_
        refine az_E.br (c := v3 < 0) (tt := 197) (ff := 182) (L' := [.ref 73, .int v1, .int v2, .int v3, .int v4, .int v5, .int x_20, .retAddr 0, .retAddr 0]) (S' := []) (σ' := (97, I_18, J, R)) rfl (fun hc_22 => ?_) (fun hc_22 => ?_)
        · rw [if_pos hc_22] at h
          refine az_E.sn 2 (pc' := 201) (L' := [.ref 73, .int v1, .int v2, .int v3, .int v4, .int v5, .int x_20, .int (-2 : Int32), .retAddr 0]) (S' := []) (σ' := (97, I_18, J, R)) rfl ?_
          exact az_E.forget (L := [.ref 73, .retAddr 0, .retAddr 0, .int v3, .retAddr 0, .int v5, .int x_20, .int (-2 : Int32), .retAddr 0]) ⟨rfl, trivial, trivial, rfl, trivial, rfl, rfl, rfl, trivial, trivial⟩ (re_M_round_201 (I := I_18) (J := J) (R := R)  h hQ)
        · rw [if_neg hc_22] at h
          refine az_E.sn 2 (pc' := 185) (L' := [.ref 73, .int v1, .int v2, .int v3, .int v4, .int v5, .int x_20, .retAddr 0, .retAddr 0]) (S' := [.int v5, .int v3]) (σ' := (97, I_18, J, R)) rfl ?_
          refine az_E.br (c := v5 ≤ v3) (tt := 197) (ff := 188) (L' := [.ref 73, .int v1, .int v2, .int v3, .int v4, .int v5, .int x_20, .retAddr 0, .retAddr 0]) (S' := []) (σ' := (97, I_18, J, R)) rfl (fun hc_34 => ?_) (fun hc_34 => ?_)
          · rw [if_pos hc_34] at h
            refine az_E.sn 2 (pc' := 201) (L' := [.ref 73, .int v1, .int v2, .int v3, .int v4, .int v5, .int x_20, .int (-2 : Int32), .retAddr 0]) (S' := []) (σ' := (97, I_18, J, R)) rfl ?_
            exact az_E.forget (L := [.ref 73, .retAddr 0, .retAddr 0, .int v3, .retAddr 0, .int v5, .int x_20, .int (-2 : Int32), .retAddr 0]) ⟨rfl, trivial, trivial, rfl, trivial, rfl, rfl, rfl, trivial, trivial⟩ (re_M_round_201 (I := I_18) (J := J) (R := R)  h hQ)
          · rw [if_neg hc_34] at h
            refine az_E.sn 3 (pc' := 193) (L' := [.ref 73, .int v1, .int v2, .int v3, .int v4, .int v5, .int x_20, .retAddr 0, .retAddr 0]) (S' := [.int v3, .ref 88]) (σ' := (97, I_18, J, R)) rfl ?_
            by_cases hc_35 : v3 < 0 ∨ 5 ≤ v3.toNatClampNeg
            · rw [if_pos hc_35] at h; cases h
            · rw [if_neg hc_35] at h
              refine az_E.oi (o := az_ai az_F ex (97, I_18, J, R) 88 v3) (pc' := 194) (L' := [.ref 73, .int v1, .int v2, .int v3, .int v4, .int v5, .int x_20, .retAddr 0, .retAddr 0]) (S' := []) (σ' := (97, I_18, J, R)) (x := (I_18 88 v3.toNatClampNeg)) rfl (if_neg hc_35) ?_
              refine az_E.sn 2 (pc' := 201) (L' := [.ref 73, .int v1, .int v2, .int v3, .int v4, .int v5, .int x_20, .int (I_18 88 v3.toNatClampNeg), .retAddr 0]) (S' := []) (σ' := (97, I_18, J, R)) rfl ?_
              exact az_E.forget (L := [.ref 73, .retAddr 0, .retAddr 0, .int v3, .retAddr 0, .int v5, .int x_20, .int (I_18 88 v3.toNatClampNeg), .retAddr 0]) ⟨rfl, trivial, trivial, rfl, trivial, rfl, rfl, rfl, trivial, trivial⟩ (re_M_round_201 (I := I_18) (J := J) (R := R)  h hQ)
set_option maxRecDepth 100000 in
set_option maxHeartbeats 4000000 in
theorem re_M_round_117_b {ex : az_X} {I : Nat → Nat → Int32} {J : Nat → Nat → Int64} {R : Nat → Nat → Option Nat} {v1 : Int32} {v2 : Int32} {v3 : Int32} {v4 : Int32} {v5 : Int32} {v6 : Int32} {x : ((Int32 × Int32 × (Nat → Nat → Int32)) ⊕ (Int32 × (Nat → Nat → Int32)))} (h : rs_M_round_117_b v1 v2 v3 v4 v5 v6 I = some x) {Q : Option Value → az_S → Prop} (hQ : Sum.elim (fun s => az_E az_F ex 125 212 117 [.ref 73, .int v1, .int v2, .int v3, .int v4, .int s.1, .int s.2.1, .retAddr 0, .retAddr 0] [] (97, s.2.2, J, R) Q) (fun x => Q (some (.int x.1)) (97, x.2, J, R)) x) : az_E az_F ex 125 212 117 [.ref 73, .int v1, .int v2, .int v3, .int v4, .int v5, .int v6, .retAddr 0, .retAddr 0] [] (97, I, J, R) Q := by
  unfold rs_M_round_117_b at h
  refine az_E.sn 3 (pc' := 123) (L' := [.ref 73, .int v1, .int v2, .int v3, .int v4, .int v5, .int v6, .retAddr 0, .retAddr 0]) (S' := [.int (I 73 6), .int v6]) (σ' := (97, I, J, R)) rfl ?_
  refine az_E.br (c := (I 73 6) ≤ v6) (tt := 154) (ff := 126) (L' := [.ref 73, .int v1, .int v2, .int v3, .int v4, .int v5, .int v6, .retAddr 0, .retAddr 0]) (S' := []) (σ' := (97, I, J, R)) rfl (fun hc_14 => ?_) (fun hc_14 => ?_)
  · rw [if_pos hc_14] at h
    obtain ⟨x, hx, rfl⟩ := Option.map_eq_some_iff.mp h
    exact az_E.forget (L := [.ref 73, .int v1, .int v2, .int v3, .int v4, .int v5, .retAddr 0, .retAddr 0, .retAddr 0]) ⟨rfl, rfl, rfl, rfl, rfl, rfl, trivial, trivial, trivial, trivial⟩ (re_M_round_154 (I := I) (J := J) (R := R)  hx hQ)
  · rw [if_neg hc_14] at h
    refine az_E.sn 2 (pc' := 130) (L' := [.ref 73, .int v1, .int v2, .int v3, .int v4, .int v5, .int v6, .retAddr 0, .retAddr 0]) (S' := [.int v6, .int v4]) (σ' := (97, I, J, R)) rfl ?_
    refine az_E.call (d := 124) (k' := 155) (vs := [.int v4, .int v6]) (pc' := 133) (S' := []) rfl ?_ (fun _ _ hq => hq)
    show az_E az_F ex 124 155 0 [.int v4, .int v6] [] (97, I, J, R) _
    refine az_E.sn 6 (pc' := 6) (L' := [.int v4, .int v6]) (S' := [.int (1 : Int32), .int ((v4 >>> (v6 &&& 31)) &&& (1 : Int32))]) (σ' := (97, I, J, R)) rfl ?_
    refine az_E.br (c := ((v4 >>> (v6 &&& 31)) &&& (1 : Int32)) = (1 : Int32)) (tt := 9) (ff := 13) (L' := [.int v4, .int v6]) (S' := []) (σ' := (97, I, J, R)) rfl (fun hc_36 => ?_) (fun hc_36 => ?_)
    · rw [if_pos hc_36] at h
      refine az_E.sn 2 (pc' := 14) (L' := [.int v4, .int v6]) (S' := [.int (1 : Int32)]) (σ' := (97, I, J, R)) rfl ?_
      refine az_E.ret (v := some (.int (1 : Int32))) (σ' := (97, I, J, R)) rfl ?_
      show az_E az_F ex 125 212 133 [.ref 73, .int v1, .int v2, .int v3, .int v4, .int v5, .int v6, .retAddr 0, .retAddr 0] [.int (1 : Int32)] (97, I, J, R) _
      refine az_E.br (c := (1 : Int32) = 0) (tt := 148) (ff := 136) (L' := [.ref 73, .int v1, .int v2, .int v3, .int v4, .int v5, .int v6, .retAddr 0, .retAddr 0]) (S' := []) (σ' := (97, I, J, R)) rfl (fun hn => absurd hn (by decide)) (fun _ => ?_)
      refine az_E.sn 4 (pc' := 144) (L' := [.ref 73, .int v1, .int v2, .int v3, .int v4, .int v5, .int v6, .retAddr 0, .retAddr 0]) (S' := [.int v6, .int v5, .ref 88]) (σ' := (97, I, J, R)) rfl ?_
      by_cases hc_37 : v5 < 0 ∨ 5 ≤ v5.toNatClampNeg
      · rw [if_pos hc_37] at h; cases h
      · rw [if_neg hc_37] at h
        refine az_E.o (o := az_si az_F (97, I, J, R) 88 v5 v6) (pc' := 145) (L' := [.ref 73, .int v1, .int v2, .int v3, .int v4, .int v5, .int v6, .retAddr 0, .retAddr 0]) (S' := []) (x := (97, (az_u I 88 v5.toNatClampNeg v6), J, R)) rfl (if_neg hc_37) ?_
        refine az_E.sn 3 (pc' := 117) (L' := [.ref 73, .int v1, .int v2, .int v3, .int v4, .int (v5 + (1 : Int32)), .int (v6 + (1 : Int32)), .retAddr 0, .retAddr 0]) (S' := []) (σ' := (97, (az_u I 88 v5.toNatClampNeg v6), J, R)) rfl ?_
        have h := Option.some.inj h
        subst h
        exact az_E.forget (L := [.ref 73, .int v1, .int v2, .int v3, .int v4, .int (v5 + (1 : Int32)), .int (v6 + (1 : Int32)), .retAddr 0, .retAddr 0]) ⟨rfl, rfl, rfl, rfl, rfl, rfl, rfl, trivial, trivial, trivial⟩ hQ
    · rw [if_neg hc_36] at h
      refine az_E.sn 1 (pc' := 14) (L' := [.int v4, .int v6]) (S' := [.int (0 : Int32)]) (σ' := (97, I, J, R)) rfl ?_
      refine az_E.ret (v := some (.int (0 : Int32))) (σ' := (97, I, J, R)) rfl ?_
      show az_E az_F ex 125 212 133 [.ref 73, .int v1, .int v2, .int v3, .int v4, .int v5, .int v6, .retAddr 0, .retAddr 0] [.int (0 : Int32)] (97, I, J, R) _
      refine az_E.br (c := (0 : Int32) = 0) (tt := 148) (ff := 136) (L' := [.ref 73, .int v1, .int v2, .int v3, .int v4, .int v5, .int v6, .retAddr 0, .retAddr 0]) (S' := []) (σ' := (97, I, J, R)) rfl (fun _ => ?_) (fun hn => absurd (by decide) hn)
      refine az_E.sn 2 (pc' := 117) (L' := [.ref 73, .int v1, .int v2, .int v3, .int v4, .int v5, .int (v6 + (1 : Int32)), .retAddr 0, .retAddr 0]) (S' := []) (σ' := (97, I, J, R)) rfl ?_
      have h := Option.some.inj h
      subst h
      exact az_E.forget (L := [.ref 73, .int v1, .int v2, .int v3, .int v4, .int v5, .int (v6 + (1 : Int32)), .retAddr 0, .retAddr 0]) ⟨rfl, rfl, rfl, rfl, rfl, rfl, rfl, trivial, trivial, trivial⟩ hQ
set_option maxRecDepth 100000 in
set_option maxHeartbeats 4000000 in
theorem re_M_round_117 {ex : az_X} {I : Nat → Nat → Int32} {J : Nat → Nat → Int64} {R : Nat → Nat → Option Nat} {v1 : Int32} {v2 : Int32} {v3 : Int32} {v4 : Int32} {v5 : Int32} {v6 : Int32} {x : Int32 × (Nat → Nat → Int32)} (h : rs_M_round_117 I v1 v2 v3 v4 v5 v6 = some x) {Q : Option Value → az_S → Prop} (hQ : Q (some (.int x.1)) (97, x.2, J, R)) : az_E az_F ex 125 212 117 [.ref 73, .int v1, .int v2, .int v3, .int v4, .int v5, .int v6, .retAddr 0, .retAddr 0] [] (97, I, J, R) Q := by
  unfold rs_M_round_117 at h
  refine az_lp_E (G := fun s => az_E az_F ex 125 212 117 [.ref 73, .int v1, .int v2, .int v3, .int v4, .int s.1, .int s.2.1, .retAddr 0, .retAddr 0] [] (97, s.2.2, J, R) Q) (H := fun x => Q (some (.int x.1)) (97, x.2, J, R)) (fun s o hb ho => ?_) _ _ _ h hQ
  exact re_M_round_117_b  hb ho
set_option maxRecDepth 100000 in
set_option maxHeartbeats 4000000 in
theorem re_M_round_102 {ex : az_X} {I : Nat → Nat → Int32} {J : Nat → Nat → Int64} {R : Nat → Nat → Option Nat} {v1 : Int32} {v2 : Int32} {v3 : Int32} {v4 : Int32} {v5 : Int32} {x : Int32 × (Nat → Nat → Int32)} (h : rs_M_round_102 I v1 v2 v3 v4 v5 = some x) {Q : Option Value → az_S → Prop} (hQ : Q (some (.int x.1)) (97, x.2, J, R)) : az_E az_F ex 125 212 102 [.ref 73, .int v1, .int v2, .int v3, .int v4, .int v5, .retAddr 0, .retAddr 0, .retAddr 0] [] (97, I, J, R) Q := by
  unfold rs_M_round_102 at h
  refine az_E.sn 2 (pc' := 105) (L' := [.ref 73, .int v1, .int v2, .int v3, .int v4, .int v5, .retAddr 0, .retAddr 0, .retAddr 0]) (S' := [.int (5 : Int32), .int v5]) (σ' := (97, I, J, R)) rfl ?_
  refine az_E.br (c := v5 ≤ (5 : Int32)) (tt := 111) (ff := 108) (L' := [.ref 73, .int v1, .int v2, .int v3, .int v4, .int v5, .retAddr 0, .retAddr 0, .retAddr 0]) (S' := []) (σ' := (97, I, J, R)) rfl (fun hc_13 => ?_) (fun hc_13 => ?_)
  · rw [if_pos hc_13] at h
    refine az_E.sn 4 (pc' := 117) (L' := [.ref 73, .int v1, .int v2, .int v3, .int v4, .int (0 : Int32), .int (0 : Int32), .retAddr 0, .retAddr 0]) (S' := []) (σ' := (97, I, J, R)) rfl ?_
    exact az_E.forget (L := [.ref 73, .int v1, .int v2, .int v3, .int v4, .int (0 : Int32), .int (0 : Int32), .retAddr 0, .retAddr 0]) ⟨rfl, rfl, rfl, rfl, rfl, rfl, rfl, trivial, trivial, trivial⟩ (re_M_round_117 (I := I) (J := J) (R := R)  h hQ)
  · rw [if_neg hc_13] at h
    refine az_E.sn 1 (pc' := 110) (L' := [.ref 73, .int v1, .int v2, .int v3, .int v4, .int v5, .retAddr 0, .retAddr 0, .retAddr 0]) (S' := [.int (-5 : Int32)]) (σ' := (97, I, J, R)) rfl ?_
    have h := Option.some.inj h
    subst h
    exact az_E.ret (v := some (.int (-5 : Int32))) (σ' := (97, I, J, R)) rfl hQ
set_option maxRecDepth 100000 in
set_option maxHeartbeats 4000000 in
theorem re_M_round_67_b {ex : az_X} {I : Nat → Nat → Int32} {J : Nat → Nat → Int64} {R : Nat → Nat → Option Nat} {v1 : Int32} {v2 : Int32} {v3 : Int32} {v4 : Int32} {v5 : Int32} {v6 : Int32} {x : ((Int32 × Int32) ⊕ (Int32 × (Nat → Nat → Int32)))} (h : rs_M_round_67_b I v1 v2 v3 v4 v5 v6 = some x) {Q : Option Value → az_S → Prop} (hQ : Sum.elim (fun s => az_E az_F ex 125 212 67 [.ref 73, .int v1, .int v2, .int v3, .int v4, .int s.1, .int s.2, .retAddr 0, .retAddr 0] [] (97, I, J, R) Q) (fun x => Q (some (.int x.1)) (97, x.2, J, R)) x) : az_E az_F ex 125 212 67 [.ref 73, .int v1, .int v2, .int v3, .int v4, .int v5, .int v6, .retAddr 0, .retAddr 0] [] (97, I, J, R) Q := by
  unfold rs_M_round_67_b at h
  refine az_E.sn 3 (pc' := 73) (L' := [.ref 73, .int v1, .int v2, .int v3, .int v4, .int v5, .int v6, .retAddr 0, .retAddr 0]) (S' := [.int (I 73 6), .int v6]) (σ' := (97, I, J, R)) rfl ?_
  refine az_E.br (c := (I 73 6) ≤ v6) (tt := 102) (ff := 76) (L' := [.ref 73, .int v1, .int v2, .int v3, .int v4, .int v5, .int v6, .retAddr 0, .retAddr 0]) (S' := []) (σ' := (97, I, J, R)) rfl (fun hc_12 => ?_) (fun hc_12 => ?_)
  · rw [if_pos hc_12] at h
    obtain ⟨x, hx, rfl⟩ := Option.map_eq_some_iff.mp h
    exact az_E.forget (L := [.ref 73, .int v1, .int v2, .int v3, .int v4, .int v5, .retAddr 0, .retAddr 0, .retAddr 0]) ⟨rfl, rfl, rfl, rfl, rfl, rfl, trivial, trivial, trivial, trivial⟩ (re_M_round_102 (I := I) (J := J) (R := R)  hx hQ)
  · rw [if_neg hc_12] at h
    refine az_E.sn 3 (pc' := 82) (L' := [.ref 73, .int v1, .int v2, .int v3, .int v4, .int v5, .int v6, .retAddr 0, .retAddr 0]) (S' := [.int v6, .int v4, .int v5]) (σ' := (97, I, J, R)) rfl ?_
    refine az_E.call (d := 124) (k' := 155) (vs := [.int v4, .int v6]) (pc' := 85) (S' := [.int v5]) rfl ?_ (fun _ _ hq => hq)
    show az_E az_F ex 124 155 0 [.int v4, .int v6] [] (97, I, J, R) _
    refine az_E.sn 6 (pc' := 6) (L' := [.int v4, .int v6]) (S' := [.int (1 : Int32), .int ((v4 >>> (v6 &&& 31)) &&& (1 : Int32))]) (σ' := (97, I, J, R)) rfl ?_
    refine az_E.br (c := ((v4 >>> (v6 &&& 31)) &&& (1 : Int32)) = (1 : Int32)) (tt := 9) (ff := 13) (L' := [.int v4, .int v6]) (S' := []) (σ' := (97, I, J, R)) rfl (fun hc_38 => ?_) (fun hc_38 => ?_)
    · rw [if_pos hc_38] at h
      refine az_E.sn 2 (pc' := 14) (L' := [.int v4, .int v6]) (S' := [.int (1 : Int32)]) (σ' := (97, I, J, R)) rfl ?_
      refine az_E.ret (v := some (.int (1 : Int32))) (σ' := (97, I, J, R)) rfl ?_
      show az_E az_F ex 125 212 85 [.ref 73, .int v1, .int v2, .int v3, .int v4, .int v5, .int v6, .retAddr 0, .retAddr 0] [.int (1 : Int32), .int v5] (97, I, J, R) _
      refine az_E.br (c := (1 : Int32) = 0) (tt := 92) (ff := 88) (L' := [.ref 73, .int v1, .int v2, .int v3, .int v4, .int v5, .int v6, .retAddr 0, .retAddr 0]) (S' := [.int v5]) (σ' := (97, I, J, R)) rfl (fun hn => absurd hn (by decide)) (fun _ => ?_)
      refine az_E.sn 6 (pc' := 67) (L' := [.ref 73, .int v1, .int v2, .int v3, .int v4, .int (v5 + (1 : Int32)), .int (v6 + (1 : Int32)), .retAddr 0, .retAddr 0]) (S' := []) (σ' := (97, I, J, R)) rfl ?_
      have h := Option.some.inj h
      subst h
      exact az_E.forget (L := [.ref 73, .int v1, .int v2, .int v3, .int v4, .int (v5 + (1 : Int32)), .int (v6 + (1 : Int32)), .retAddr 0, .retAddr 0]) ⟨rfl, rfl, rfl, rfl, rfl, rfl, rfl, trivial, trivial, trivial⟩ hQ
    · rw [if_neg hc_38] at h
      refine az_E.sn 1 (pc' := 14) (L' := [.int v4, .int v6]) (S' := [.int (0 : Int32)]) (σ' := (97, I, J, R)) rfl ?_
      refine az_E.ret (v := some (.int (0 : Int32))) (σ' := (97, I, J, R)) rfl ?_
      show az_E az_F ex 125 212 85 [.ref 73, .int v1, .int v2, .int v3, .int v4, .int v5, .int v6, .retAddr 0, .retAddr 0] [.int (0 : Int32), .int v5] (97, I, J, R) _
      refine az_E.br (c := (0 : Int32) = 0) (tt := 92) (ff := 88) (L' := [.ref 73, .int v1, .int v2, .int v3, .int v4, .int v5, .int v6, .retAddr 0, .retAddr 0]) (S' := [.int v5]) (σ' := (97, I, J, R)) rfl (fun _ => ?_) (fun hn => absurd (by decide) hn)
      refine az_E.sn 5 (pc' := 67) (L' := [.ref 73, .int v1, .int v2, .int v3, .int v4, .int (v5 + (0 : Int32)), .int (v6 + (1 : Int32)), .retAddr 0, .retAddr 0]) (S' := []) (σ' := (97, I, J, R)) rfl ?_
      have h := Option.some.inj h
      subst h
      exact az_E.forget (L := [.ref 73, .int v1, .int v2, .int v3, .int v4, .int (v5 + (0 : Int32)), .int (v6 + (1 : Int32)), .retAddr 0, .retAddr 0]) ⟨rfl, rfl, rfl, rfl, rfl, rfl, rfl, trivial, trivial, trivial⟩ hQ
set_option maxRecDepth 100000 in
set_option maxHeartbeats 4000000 in
theorem re_M_round_67 {ex : az_X} {I : Nat → Nat → Int32} {J : Nat → Nat → Int64} {R : Nat → Nat → Option Nat} {v1 : Int32} {v2 : Int32} {v3 : Int32} {v4 : Int32} {v5 : Int32} {v6 : Int32} {x : Int32 × (Nat → Nat → Int32)} (h : rs_M_round_67 I v1 v2 v3 v4 v5 v6 = some x) {Q : Option Value → az_S → Prop} (hQ : Q (some (.int x.1)) (97, x.2, J, R)) : az_E az_F ex 125 212 67 [.ref 73, .int v1, .int v2, .int v3, .int v4, .int v5, .int v6, .retAddr 0, .retAddr 0] [] (97, I, J, R) Q := by
  unfold rs_M_round_67 at h
  refine az_lp_E (G := fun s => az_E az_F ex 125 212 67 [.ref 73, .int v1, .int v2, .int v3, .int v4, .int s.1, .int s.2, .retAddr 0, .retAddr 0] [] (97, I, J, R) Q) (H := fun x => Q (some (.int x.1)) (97, x.2, J, R)) (fun s o hb ho => ?_) _ _ _ h hQ
  exact re_M_round_67_b  hb ho
set_option maxRecDepth 100000 in
set_option maxHeartbeats 4000000 in
theorem re_M_round {ex : az_X} {I : Nat → Nat → Int32} {J : Nat → Nat → Int64} {R : Nat → Nat → Option Nat} {a1 : Int32} {a2 : Int32} {a3 : Int32} {o : Int32 × (Nat → Nat → Int32)} (h : rs_M_round I a1 a2 a3 = some o) {Q : Option Value → az_S → Prop} (hQ : Q (some (.int o.1)) (97, o.2, J, R)) : az_E az_F ex 125 212 0 [.ref 73, .int a1, .int a2, .int a3, .retAddr 0, .retAddr 0, .retAddr 0, .retAddr 0, .retAddr 0] [] (97, I, J, R) Q := by
  unfold rs_M_round at h
  refine az_E.sn 1 (pc' := 1) (L' := [.ref 73, .int a1, .int a2, .int a3, .retAddr 0, .retAddr 0, .retAddr 0, .retAddr 0, .retAddr 0]) (S' := [.int a1]) (σ' := (97, I, J, R)) rfl ?_
  refine az_E.br (c := a1 < 0) (tt := 52) (ff := 4) (L' := [.ref 73, .int a1, .int a2, .int a3, .retAddr 0, .retAddr 0, .retAddr 0, .retAddr 0, .retAddr 0]) (S' := []) (σ' := (97, I, J, R)) rfl (fun hc_1 => ?_) (fun hc_1 => ?_)
  · rw [if_pos hc_1] at h
    refine az_E.sn 1 (pc' := 53) (L' := [.ref 73, .int a1, .int a2, .int a3, .retAddr 0, .retAddr 0, .retAddr 0, .retAddr 0, .retAddr 0]) (S' := [.int (-1 : Int32)]) (σ' := (97, I, J, R)) rfl ?_
    have h := Option.some.inj h
    subst h
    exact az_E.ret (v := some (.int (-1 : Int32))) (σ' := (97, I, J, R)) rfl hQ
  · rw [if_neg hc_1] at h
    refine az_E.sn 2 (pc' := 8) (L' := [.ref 73, .int a1, .int a2, .int a3, .retAddr 0, .retAddr 0, .retAddr 0, .retAddr 0, .retAddr 0]) (S' := [.int (1000 : Int32), .int a1]) (σ' := (97, I, J, R)) rfl ?_
    have hd_2 : ¬ ((1000 : Int32) = 0) := by decide
    refine az_E.dv (c := (1000 : Int32) = 0) (pc' := 9) (L' := [.ref 73, .int a1, .int a2, .int a3, .retAddr 0, .retAddr 0, .retAddr 0, .retAddr 0, .retAddr 0]) (S' := [.int (a1 / (1000 : Int32))]) (σ' := (97, I, J, R)) rfl hd_2 ?_
    refine az_E.sn 1 (pc' := 10) (L' := [.ref 73, .int a1, .int a2, .int a3, .retAddr 0, .retAddr 0, .retAddr 0, .retAddr 0, .retAddr 0]) (S' := [.long (a1 / (1000 : Int32)).toInt64]) (σ' := (97, I, J, R)) rfl ?_
    refine az_E.call (d := 124) (k' := 160) (vs := [.long (a1 / (1000 : Int32)).toInt64]) (pc' := 13) (S' := []) rfl ?_ (fun _ _ hq => hq)
    show az_E az_F ex 124 160 0 [.long (a1 / (1000 : Int32)).toInt64, .retAddr 0] [] (97, I, J, R) _
    refine az_E.sn 3 (pc' := 5) (L' := [.long (a1 / (1000 : Int32)).toInt64, .retAddr 0]) (S' := [.long (143 : Int64), .long (0 : Int64), .long (a1 / (1000 : Int32)).toInt64]) (σ' := (97, I, J, R)) rfl ?_
    refine az_E.call (d := 123) (k' := 154) (vs := [.long (a1 / (1000 : Int32)).toInt64, .long (0 : Int64), .long (143 : Int64)]) (pc' := 8) (S' := []) rfl ?_ (fun _ _ hq => hq)
    show az_E az_F ex 123 154 0 [.long (a1 / (1000 : Int32)).toInt64, .retAddr 0, .long (0 : Int64), .retAddr 0, .long (143 : Int64), .retAddr 0] [] (97, I, J, R) _
    refine az_E.sn 3 (pc' := 3) (L' := [.long (a1 / (1000 : Int32)).toInt64, .retAddr 0, .long (0 : Int64), .retAddr 0, .long (143 : Int64), .retAddr 0]) (S' := [.int (lg_cmp (a1 / (1000 : Int32)).toInt64 (0 : Int64))]) (σ' := (97, I, J, R)) rfl ?_
    refine az_E.br (c := (lg_cmp (a1 / (1000 : Int32)).toInt64 (0 : Int64)) < 0) (tt := 17) (ff := 6) (L' := [.long (a1 / (1000 : Int32)).toInt64, .retAddr 0, .long (0 : Int64), .retAddr 0, .long (143 : Int64), .retAddr 0]) (S' := []) (σ' := (97, I, J, R)) rfl (fun hc_3 => ?_) (fun hc_3 => ?_)
    · rw [if_pos hc_3] at h
      refine az_E.sn 1 (pc' := 18) (L' := [.long (a1 / (1000 : Int32)).toInt64, .retAddr 0, .long (0 : Int64), .retAddr 0, .long (143 : Int64), .retAddr 0]) (S' := [.int (0 : Int32)]) (σ' := (97, I, J, R)) rfl ?_
      refine az_E.ret (v := some (.int (0 : Int32))) (σ' := (97, I, J, R)) rfl ?_
      show az_E az_F ex 124 160 8 [.long (a1 / (1000 : Int32)).toInt64, .retAddr 0] [.int (0 : Int32)] (97, I, J, R) _
      refine az_E.ret (v := some (.int (0 : Int32))) (σ' := (97, I, J, R)) rfl ?_
      show az_E az_F ex 125 212 13 [.ref 73, .int a1, .int a2, .int a3, .retAddr 0, .retAddr 0, .retAddr 0, .retAddr 0, .retAddr 0] [.int (0 : Int32)] (97, I, J, R) _
      refine az_E.br (c := (0 : Int32) = 0) (tt := 52) (ff := 16) (L' := [.ref 73, .int a1, .int a2, .int a3, .retAddr 0, .retAddr 0, .retAddr 0, .retAddr 0, .retAddr 0]) (S' := []) (σ' := (97, I, J, R)) rfl (fun _ => ?_) (fun hn => absurd (by decide) hn)
      refine az_E.sn 1 (pc' := 53) (L' := [.ref 73, .int a1, .int a2, .int a3, .retAddr 0, .retAddr 0, .retAddr 0, .retAddr 0, .retAddr 0]) (S' := [.int (-1 : Int32)]) (σ' := (97, I, J, R)) rfl ?_
      have h := Option.some.inj h
      subst h
      exact az_E.ret (v := some (.int (-1 : Int32))) (σ' := (97, I, J, R)) rfl hQ
    · rw [if_neg hc_3] at h
      refine az_E.sn 3 (pc' := 10) (L' := [.long (a1 / (1000 : Int32)).toInt64, .retAddr 0, .long (0 : Int64), .retAddr 0, .long (143 : Int64), .retAddr 0]) (S' := [.int (lg_cmp (a1 / (1000 : Int32)).toInt64 (143 : Int64))]) (σ' := (97, I, J, R)) rfl ?_
      refine az_E.br (c := 0 < (lg_cmp (a1 / (1000 : Int32)).toInt64 (143 : Int64))) (tt := 17) (ff := 13) (L' := [.long (a1 / (1000 : Int32)).toInt64, .retAddr 0, .long (0 : Int64), .retAddr 0, .long (143 : Int64), .retAddr 0]) (S' := []) (σ' := (97, I, J, R)) rfl (fun hc_4 => ?_) (fun hc_4 => ?_)
      · rw [if_pos hc_4] at h
        refine az_E.sn 1 (pc' := 18) (L' := [.long (a1 / (1000 : Int32)).toInt64, .retAddr 0, .long (0 : Int64), .retAddr 0, .long (143 : Int64), .retAddr 0]) (S' := [.int (0 : Int32)]) (σ' := (97, I, J, R)) rfl ?_
        refine az_E.ret (v := some (.int (0 : Int32))) (σ' := (97, I, J, R)) rfl ?_
        show az_E az_F ex 124 160 8 [.long (a1 / (1000 : Int32)).toInt64, .retAddr 0] [.int (0 : Int32)] (97, I, J, R) _
        refine az_E.ret (v := some (.int (0 : Int32))) (σ' := (97, I, J, R)) rfl ?_
        show az_E az_F ex 125 212 13 [.ref 73, .int a1, .int a2, .int a3, .retAddr 0, .retAddr 0, .retAddr 0, .retAddr 0, .retAddr 0] [.int (0 : Int32)] (97, I, J, R) _
        refine az_E.br (c := (0 : Int32) = 0) (tt := 52) (ff := 16) (L' := [.ref 73, .int a1, .int a2, .int a3, .retAddr 0, .retAddr 0, .retAddr 0, .retAddr 0, .retAddr 0]) (S' := []) (σ' := (97, I, J, R)) rfl (fun _ => ?_) (fun hn => absurd (by decide) hn)
        refine az_E.sn 1 (pc' := 53) (L' := [.ref 73, .int a1, .int a2, .int a3, .retAddr 0, .retAddr 0, .retAddr 0, .retAddr 0, .retAddr 0]) (S' := [.int (-1 : Int32)]) (σ' := (97, I, J, R)) rfl ?_
        have h := Option.some.inj h
        subst h
        exact az_E.ret (v := some (.int (-1 : Int32))) (σ' := (97, I, J, R)) rfl hQ
      · rw [if_neg hc_4] at h
        refine az_E.sn 2 (pc' := 18) (L' := [.long (a1 / (1000 : Int32)).toInt64, .retAddr 0, .long (0 : Int64), .retAddr 0, .long (143 : Int64), .retAddr 0]) (S' := [.int (1 : Int32)]) (σ' := (97, I, J, R)) rfl ?_
        refine az_E.ret (v := some (.int (1 : Int32))) (σ' := (97, I, J, R)) rfl ?_
        show az_E az_F ex 124 160 8 [.long (a1 / (1000 : Int32)).toInt64, .retAddr 0] [.int (1 : Int32)] (97, I, J, R) _
        refine az_E.ret (v := some (.int (1 : Int32))) (σ' := (97, I, J, R)) rfl ?_
        show az_E az_F ex 125 212 13 [.ref 73, .int a1, .int a2, .int a3, .retAddr 0, .retAddr 0, .retAddr 0, .retAddr 0, .retAddr 0] [.int (1 : Int32)] (97, I, J, R) _
        refine az_E.br (c := (1 : Int32) = 0) (tt := 52) (ff := 16) (L' := [.ref 73, .int a1, .int a2, .int a3, .retAddr 0, .retAddr 0, .retAddr 0, .retAddr 0, .retAddr 0]) (S' := []) (σ' := (97, I, J, R)) rfl (fun hn => absurd hn (by decide)) (fun _ => ?_)
        refine az_E.sn 2 (pc' := 20) (L' := [.ref 73, .int a1, .int a2, .int a3, .retAddr 0, .retAddr 0, .retAddr 0, .retAddr 0, .retAddr 0]) (S' := [.int (1000 : Int32), .int a1]) (σ' := (97, I, J, R)) rfl ?_
        have hd_5 : ¬ ((1000 : Int32) = 0) := by decide
        refine az_E.dv (c := (1000 : Int32) = 0) (pc' := 21) (L' := [.ref 73, .int a1, .int a2, .int a3, .retAddr 0, .retAddr 0, .retAddr 0, .retAddr 0, .retAddr 0]) (S' := [.int (a1 - a1 / (1000 : Int32) * (1000 : Int32))]) (σ' := (97, I, J, R)) rfl hd_5 ?_
        refine az_E.sn 9 (pc' := 32) (L' := [.ref 73, .int a1, .int a2, .int a3, .retAddr 0, .retAddr 0, .retAddr 0, .retAddr 0, .retAddr 0]) (S' := [.long (((1 : Int32) <<< ((I 73 6) &&& 31)) - (1 : Int32)).toInt64, .long (0 : Int64), .long (a1 - a1 / (1000 : Int32) * (1000 : Int32)).toInt64]) (σ' := (97, I, J, R)) rfl ?_
        refine az_E.call (d := 124) (k' := 154) (vs := [.long (a1 - a1 / (1000 : Int32) * (1000 : Int32)).toInt64, .long (0 : Int64), .long (((1 : Int32) <<< ((I 73 6) &&& 31)) - (1 : Int32)).toInt64]) (pc' := 35) (S' := []) rfl ?_ (fun _ _ hq => hq)
        show az_E az_F ex 124 154 0 [.long (a1 - a1 / (1000 : Int32) * (1000 : Int32)).toInt64, .retAddr 0, .long (0 : Int64), .retAddr 0, .long (((1 : Int32) <<< ((I 73 6) &&& 31)) - (1 : Int32)).toInt64, .retAddr 0] [] (97, I, J, R) _
        refine az_E.sn 3 (pc' := 3) (L' := [.long (a1 - a1 / (1000 : Int32) * (1000 : Int32)).toInt64, .retAddr 0, .long (0 : Int64), .retAddr 0, .long (((1 : Int32) <<< ((I 73 6) &&& 31)) - (1 : Int32)).toInt64, .retAddr 0]) (S' := [.int (lg_cmp (a1 - a1 / (1000 : Int32) * (1000 : Int32)).toInt64 (0 : Int64))]) (σ' := (97, I, J, R)) rfl ?_
        refine az_E.br (c := (lg_cmp (a1 - a1 / (1000 : Int32) * (1000 : Int32)).toInt64 (0 : Int64)) < 0) (tt := 17) (ff := 6) (L' := [.long (a1 - a1 / (1000 : Int32) * (1000 : Int32)).toInt64, .retAddr 0, .long (0 : Int64), .retAddr 0, .long (((1 : Int32) <<< ((I 73 6) &&& 31)) - (1 : Int32)).toInt64, .retAddr 0]) (S' := []) (σ' := (97, I, J, R)) rfl (fun hc_6 => ?_) (fun hc_6 => ?_)
        · rw [if_pos hc_6] at h
          refine az_E.sn 1 (pc' := 18) (L' := [.long (a1 - a1 / (1000 : Int32) * (1000 : Int32)).toInt64, .retAddr 0, .long (0 : Int64), .retAddr 0, .long (((1 : Int32) <<< ((I 73 6) &&& 31)) - (1 : Int32)).toInt64, .retAddr 0]) (S' := [.int (0 : Int32)]) (σ' := (97, I, J, R)) rfl ?_
          refine az_E.ret (v := some (.int (0 : Int32))) (σ' := (97, I, J, R)) rfl ?_
          show az_E az_F ex 125 212 35 [.ref 73, .int a1, .int a2, .int a3, .retAddr 0, .retAddr 0, .retAddr 0, .retAddr 0, .retAddr 0] [.int (0 : Int32)] (97, I, J, R) _
          refine az_E.br (c := (0 : Int32) = 0) (tt := 52) (ff := 38) (L' := [.ref 73, .int a1, .int a2, .int a3, .retAddr 0, .retAddr 0, .retAddr 0, .retAddr 0, .retAddr 0]) (S' := []) (σ' := (97, I, J, R)) rfl (fun _ => ?_) (fun hn => absurd (by decide) hn)
          refine az_E.sn 1 (pc' := 53) (L' := [.ref 73, .int a1, .int a2, .int a3, .retAddr 0, .retAddr 0, .retAddr 0, .retAddr 0, .retAddr 0]) (S' := [.int (-1 : Int32)]) (σ' := (97, I, J, R)) rfl ?_
          have h := Option.some.inj h
          subst h
          exact az_E.ret (v := some (.int (-1 : Int32))) (σ' := (97, I, J, R)) rfl hQ
        · rw [if_neg hc_6] at h
          refine az_E.sn 3 (pc' := 10) (L' := [.long (a1 - a1 / (1000 : Int32) * (1000 : Int32)).toInt64, .retAddr 0, .long (0 : Int64), .retAddr 0, .long (((1 : Int32) <<< ((I 73 6) &&& 31)) - (1 : Int32)).toInt64, .retAddr 0]) (S' := [.int (lg_cmp (a1 - a1 / (1000 : Int32) * (1000 : Int32)).toInt64 (((1 : Int32) <<< ((I 73 6) &&& 31)) - (1 : Int32)).toInt64)]) (σ' := (97, I, J, R)) rfl ?_
          refine az_E.br (c := 0 < (lg_cmp (a1 - a1 / (1000 : Int32) * (1000 : Int32)).toInt64 (((1 : Int32) <<< ((I 73 6) &&& 31)) - (1 : Int32)).toInt64)) (tt := 17) (ff := 13) (L' := [.long (a1 - a1 / (1000 : Int32) * (1000 : Int32)).toInt64, .retAddr 0, .long (0 : Int64), .retAddr 0, .long (((1 : Int32) <<< ((I 73 6) &&& 31)) - (1 : Int32)).toInt64, .retAddr 0]) (S' := []) (σ' := (97, I, J, R)) rfl (fun hc_7 => ?_) (fun hc_7 => ?_)
          · rw [if_pos hc_7] at h
            refine az_E.sn 1 (pc' := 18) (L' := [.long (a1 - a1 / (1000 : Int32) * (1000 : Int32)).toInt64, .retAddr 0, .long (0 : Int64), .retAddr 0, .long (((1 : Int32) <<< ((I 73 6) &&& 31)) - (1 : Int32)).toInt64, .retAddr 0]) (S' := [.int (0 : Int32)]) (σ' := (97, I, J, R)) rfl ?_
            refine az_E.ret (v := some (.int (0 : Int32))) (σ' := (97, I, J, R)) rfl ?_
            show az_E az_F ex 125 212 35 [.ref 73, .int a1, .int a2, .int a3, .retAddr 0, .retAddr 0, .retAddr 0, .retAddr 0, .retAddr 0] [.int (0 : Int32)] (97, I, J, R) _
            refine az_E.br (c := (0 : Int32) = 0) (tt := 52) (ff := 38) (L' := [.ref 73, .int a1, .int a2, .int a3, .retAddr 0, .retAddr 0, .retAddr 0, .retAddr 0, .retAddr 0]) (S' := []) (σ' := (97, I, J, R)) rfl (fun _ => ?_) (fun hn => absurd (by decide) hn)
            refine az_E.sn 1 (pc' := 53) (L' := [.ref 73, .int a1, .int a2, .int a3, .retAddr 0, .retAddr 0, .retAddr 0, .retAddr 0, .retAddr 0]) (S' := [.int (-1 : Int32)]) (σ' := (97, I, J, R)) rfl ?_
            have h := Option.some.inj h
            subst h
            exact az_E.ret (v := some (.int (-1 : Int32))) (σ' := (97, I, J, R)) rfl hQ
          · rw [if_neg hc_7] at h
            refine az_E.sn 2 (pc' := 18) (L' := [.long (a1 - a1 / (1000 : Int32) * (1000 : Int32)).toInt64, .retAddr 0, .long (0 : Int64), .retAddr 0, .long (((1 : Int32) <<< ((I 73 6) &&& 31)) - (1 : Int32)).toInt64, .retAddr 0]) (S' := [.int (1 : Int32)]) (σ' := (97, I, J, R)) rfl ?_
            refine az_E.ret (v := some (.int (1 : Int32))) (σ' := (97, I, J, R)) rfl ?_
            show az_E az_F ex 125 212 35 [.ref 73, .int a1, .int a2, .int a3, .retAddr 0, .retAddr 0, .retAddr 0, .retAddr 0, .retAddr 0] [.int (1 : Int32)] (97, I, J, R) _
            refine az_E.br (c := (1 : Int32) = 0) (tt := 52) (ff := 38) (L' := [.ref 73, .int a1, .int a2, .int a3, .retAddr 0, .retAddr 0, .retAddr 0, .retAddr 0, .retAddr 0]) (S' := []) (σ' := (97, I, J, R)) rfl (fun hn => absurd hn (by decide)) (fun _ => ?_)
            refine az_E.sn 3 (pc' := 41) (L' := [.ref 73, .int a1, .int a2, .int a3, .retAddr 0, .retAddr 0, .retAddr 0, .retAddr 0, .retAddr 0]) (S' := [.long a2.toInt64, .ref 73]) (σ' := (97, I, J, R)) rfl ?_
            refine az_E.call (d := 124) (k' := 162) (vs := [.ref 73, .long a2.toInt64]) (pc' := 44) (S' := []) rfl ?_ (fun _ _ hq => hq)
            show az_E az_F ex 124 162 0 [.ref 73, .long a2.toInt64, .retAddr 0] [] (97, I, J, R) _
            refine az_E.sn 7 (pc' := 9) (L' := [.ref 73, .long a2.toInt64, .retAddr 0]) (S' := [.long ((I 73 7) - (1 : Int32)).toInt64, .long (0 : Int64), .long a2.toInt64]) (σ' := (97, I, J, R)) rfl ?_
            refine az_E.call (d := 123) (k' := 154) (vs := [.long a2.toInt64, .long (0 : Int64), .long ((I 73 7) - (1 : Int32)).toInt64]) (pc' := 12) (S' := []) rfl ?_ (fun _ _ hq => hq)
            show az_E az_F ex 123 154 0 [.long a2.toInt64, .retAddr 0, .long (0 : Int64), .retAddr 0, .long ((I 73 7) - (1 : Int32)).toInt64, .retAddr 0] [] (97, I, J, R) _
            refine az_E.sn 3 (pc' := 3) (L' := [.long a2.toInt64, .retAddr 0, .long (0 : Int64), .retAddr 0, .long ((I 73 7) - (1 : Int32)).toInt64, .retAddr 0]) (S' := [.int (lg_cmp a2.toInt64 (0 : Int64))]) (σ' := (97, I, J, R)) rfl ?_
            refine az_E.br (c := (lg_cmp a2.toInt64 (0 : Int64)) < 0) (tt := 17) (ff := 6) (L' := [.long a2.toInt64, .retAddr 0, .long (0 : Int64), .retAddr 0, .long ((I 73 7) - (1 : Int32)).toInt64, .retAddr 0]) (S' := []) (σ' := (97, I, J, R)) rfl (fun hc_8 => ?_) (fun hc_8 => ?_)
            · rw [if_pos hc_8] at h
              refine az_E.sn 1 (pc' := 18) (L' := [.long a2.toInt64, .retAddr 0, .long (0 : Int64), .retAddr 0, .long ((I 73 7) - (1 : Int32)).toInt64, .retAddr 0]) (S' := [.int (0 : Int32)]) (σ' := (97, I, J, R)) rfl ?_
              refine az_E.ret (v := some (.int (0 : Int32))) (σ' := (97, I, J, R)) rfl ?_
              show az_E az_F ex 124 162 12 [.ref 73, .long a2.toInt64, .retAddr 0] [.int (0 : Int32)] (97, I, J, R) _
              refine az_E.ret (v := some (.int (0 : Int32))) (σ' := (97, I, J, R)) rfl ?_
              show az_E az_F ex 125 212 44 [.ref 73, .int a1, .int a2, .int a3, .retAddr 0, .retAddr 0, .retAddr 0, .retAddr 0, .retAddr 0] [.int (0 : Int32)] (97, I, J, R) _
              refine az_E.br (c := (0 : Int32) = 0) (tt := 52) (ff := 47) (L' := [.ref 73, .int a1, .int a2, .int a3, .retAddr 0, .retAddr 0, .retAddr 0, .retAddr 0, .retAddr 0]) (S' := []) (σ' := (97, I, J, R)) rfl (fun _ => ?_) (fun hn => absurd (by decide) hn)
              refine az_E.sn 1 (pc' := 53) (L' := [.ref 73, .int a1, .int a2, .int a3, .retAddr 0, .retAddr 0, .retAddr 0, .retAddr 0, .retAddr 0]) (S' := [.int (-1 : Int32)]) (σ' := (97, I, J, R)) rfl ?_
              have h := Option.some.inj h
              subst h
              exact az_E.ret (v := some (.int (-1 : Int32))) (σ' := (97, I, J, R)) rfl hQ
            · rw [if_neg hc_8] at h
              refine az_E.sn 3 (pc' := 10) (L' := [.long a2.toInt64, .retAddr 0, .long (0 : Int64), .retAddr 0, .long ((I 73 7) - (1 : Int32)).toInt64, .retAddr 0]) (S' := [.int (lg_cmp a2.toInt64 ((I 73 7) - (1 : Int32)).toInt64)]) (σ' := (97, I, J, R)) rfl ?_
              refine az_E.br (c := 0 < (lg_cmp a2.toInt64 ((I 73 7) - (1 : Int32)).toInt64)) (tt := 17) (ff := 13) (L' := [.long a2.toInt64, .retAddr 0, .long (0 : Int64), .retAddr 0, .long ((I 73 7) - (1 : Int32)).toInt64, .retAddr 0]) (S' := []) (σ' := (97, I, J, R)) rfl (fun hc_9 => ?_) (fun hc_9 => ?_)
              · rw [if_pos hc_9] at h
                refine az_E.sn 1 (pc' := 18) (L' := [.long a2.toInt64, .retAddr 0, .long (0 : Int64), .retAddr 0, .long ((I 73 7) - (1 : Int32)).toInt64, .retAddr 0]) (S' := [.int (0 : Int32)]) (σ' := (97, I, J, R)) rfl ?_
                refine az_E.ret (v := some (.int (0 : Int32))) (σ' := (97, I, J, R)) rfl ?_
                show az_E az_F ex 124 162 12 [.ref 73, .long a2.toInt64, .retAddr 0] [.int (0 : Int32)] (97, I, J, R) _
                refine az_E.ret (v := some (.int (0 : Int32))) (σ' := (97, I, J, R)) rfl ?_
                show az_E az_F ex 125 212 44 [.ref 73, .int a1, .int a2, .int a3, .retAddr 0, .retAddr 0, .retAddr 0, .retAddr 0, .retAddr 0] [.int (0 : Int32)] (97, I, J, R) _
                refine az_E.br (c := (0 : Int32) = 0) (tt := 52) (ff := 47) (L' := [.ref 73, .int a1, .int a2, .int a3, .retAddr 0, .retAddr 0, .retAddr 0, .retAddr 0, .retAddr 0]) (S' := []) (σ' := (97, I, J, R)) rfl (fun _ => ?_) (fun hn => absurd (by decide) hn)
                refine az_E.sn 1 (pc' := 53) (L' := [.ref 73, .int a1, .int a2, .int a3, .retAddr 0, .retAddr 0, .retAddr 0, .retAddr 0, .retAddr 0]) (S' := [.int (-1 : Int32)]) (σ' := (97, I, J, R)) rfl ?_
                have h := Option.some.inj h
                subst h
                exact az_E.ret (v := some (.int (-1 : Int32))) (σ' := (97, I, J, R)) rfl hQ
              · rw [if_neg hc_9] at h
                refine az_E.sn 2 (pc' := 18) (L' := [.long a2.toInt64, .retAddr 0, .long (0 : Int64), .retAddr 0, .long ((I 73 7) - (1 : Int32)).toInt64, .retAddr 0]) (S' := [.int (1 : Int32)]) (σ' := (97, I, J, R)) rfl ?_
                refine az_E.ret (v := some (.int (1 : Int32))) (σ' := (97, I, J, R)) rfl ?_
                show az_E az_F ex 124 162 12 [.ref 73, .long a2.toInt64, .retAddr 0] [.int (1 : Int32)] (97, I, J, R) _
                refine az_E.ret (v := some (.int (1 : Int32))) (σ' := (97, I, J, R)) rfl ?_
                show az_E az_F ex 125 212 44 [.ref 73, .int a1, .int a2, .int a3, .retAddr 0, .retAddr 0, .retAddr 0, .retAddr 0, .retAddr 0] [.int (1 : Int32)] (97, I, J, R) _
                refine az_E.br (c := (1 : Int32) = 0) (tt := 52) (ff := 47) (L' := [.ref 73, .int a1, .int a2, .int a3, .retAddr 0, .retAddr 0, .retAddr 0, .retAddr 0, .retAddr 0]) (S' := []) (σ' := (97, I, J, R)) rfl (fun hn => absurd hn (by decide)) (fun _ => ?_)
                refine az_E.sn 2 (pc' := 49) (L' := [.ref 73, .int a1, .int a2, .int a3, .retAddr 0, .retAddr 0, .retAddr 0, .retAddr 0, .retAddr 0]) (S' := [.int (-1 : Int32), .int a3]) (σ' := (97, I, J, R)) rfl ?_
                refine az_E.br (c := (-1 : Int32) ≤ a3) (tt := 54) (ff := 52) (L' := [.ref 73, .int a1, .int a2, .int a3, .retAddr 0, .retAddr 0, .retAddr 0, .retAddr 0, .retAddr 0]) (S' := []) (σ' := (97, I, J, R)) rfl (fun hc_10 => ?_) (fun hc_10 => ?_)
                · rw [if_pos hc_10] at h
                  refine az_E.sn 2 (pc' := 58) (L' := [.ref 73, .int a1, .int a2, .int a3, .retAddr 0, .retAddr 0, .retAddr 0, .retAddr 0, .retAddr 0]) (S' := [.int (1000 : Int32), .int a1]) (σ' := (97, I, J, R)) rfl ?_
                  have hd_11 : ¬ ((1000 : Int32) = 0) := by decide
                  refine az_E.dv (c := (1000 : Int32) = 0) (pc' := 59) (L' := [.ref 73, .int a1, .int a2, .int a3, .retAddr 0, .retAddr 0, .retAddr 0, .retAddr 0, .retAddr 0]) (S' := [.int (a1 - a1 / (1000 : Int32) * (1000 : Int32))]) (σ' := (97, I, J, R)) rfl hd_11 ?_
                  refine az_E.sn 5 (pc' := 67) (L' := [.ref 73, .int a1, .int a2, .int a3, .int (a1 - a1 / (1000 : Int32) * (1000 : Int32)), .int (0 : Int32), .int (0 : Int32), .retAddr 0, .retAddr 0]) (S' := []) (σ' := (97, I, J, R)) rfl ?_
                  exact az_E.forget (L := [.ref 73, .int a1, .int a2, .int a3, .int (a1 - a1 / (1000 : Int32) * (1000 : Int32)), .int (0 : Int32), .int (0 : Int32), .retAddr 0, .retAddr 0]) ⟨rfl, rfl, rfl, rfl, rfl, rfl, rfl, trivial, trivial, trivial⟩ (re_M_round_67 (I := I) (J := J) (R := R)  h hQ)
                · rw [if_neg hc_10] at h
                  refine az_E.sn 1 (pc' := 53) (L' := [.ref 73, .int a1, .int a2, .int a3, .retAddr 0, .retAddr 0, .retAddr 0, .retAddr 0, .retAddr 0]) (S' := [.int (-1 : Int32)]) (σ' := (97, I, J, R)) rfl ?_
                  have h := Option.some.inj h
                  subst h
                  exact az_E.ret (v := some (.int (-1 : Int32))) (σ' := (97, I, J, R)) rfl hQ
set_option maxRecDepth 100000 in
set_option maxHeartbeats 4000000 in
theorem re_X_hearts_99_16_21 {ex : az_X} {I : Nat → Nat → Int32} {J : Nat → Nat → Int64} {R : Nat → Nat → Option Nat} {v3 : Int32} {v4 : Int32} {v5 : Int32} (hR_3_2 : R 3 2 = some 16) (hR_3_3 : R 3 3 = some 21) {x : Int32 × (Nat → Nat → Int32)} (h : rs_X_hearts_99 21 16 I v3 v4 v5 = some x) {Q : Option Value → az_S → Prop} (hQ : ∀ R' : Nat → Nat → Option Nat, R' 3 2 = some 16 → R' 3 3 = some 21 → Q (some (.int x.1)) (97, x.2, J, R')) : az_E az_F ex 6 102 99 [.retAddr 0, .retAddr 0, .retAddr 0, .int v3, .int v4, .int v5, .retAddr 0] [] (97, I, J, (az_u (az_u R 26 2 (some 16)) 26 3 (some 5))) Q := by
  unfold rs_X_hearts_99 at h
  refine az_E.sn 1 (pc' := 100) (L' := [.retAddr 0, .retAddr 0, .retAddr 0, .int v3, .int v4, .int v5, .retAddr 0]) (S' := [.int v3]) (σ' := (97, I, J, (az_u (az_u R 26 2 (some 16)) 26 3 (some 5)))) rfl ?_
  refine az_E.br (c := v3 = 0) (tt := 103) (ff := 108) (L' := [.retAddr 0, .retAddr 0, .retAddr 0, .int v3, .int v4, .int v5, .retAddr 0]) (S' := []) (σ' := (97, I, J, (az_u (az_u R 26 2 (some 16)) 26 3 (some 5)))) rfl (fun hc_14 => ?_) (fun hc_14 => ?_)
  · rw [if_pos hc_14] at h
    refine az_E.sn 2 (pc' := 110) (L' := [.retAddr 0, .retAddr 0, .retAddr 0, .int v3, .int v4, .int v5, .retAddr 0]) (S' := [.int v4]) (σ' := (97, I, J, (az_u (az_u R 26 2 (some 16)) 26 3 (some 5)))) rfl ?_
    have h := Option.some.inj h
    subst h
    exact az_E.ret (v := some (.int v4)) (σ' := (97, I, J, (az_u (az_u R 26 2 (some 16)) 26 3 (some 5)))) rfl (hQ _ hR_3_2 hR_3_3)
  · rw [if_neg hc_14] at h
    refine az_E.sn 1 (pc' := 110) (L' := [.retAddr 0, .retAddr 0, .retAddr 0, .int v3, .int v4, .int v5, .retAddr 0]) (S' := [.int v5]) (σ' := (97, I, J, (az_u (az_u R 26 2 (some 16)) 26 3 (some 5)))) rfl ?_
    have h := Option.some.inj h
    subst h
    exact az_E.ret (v := some (.int v5)) (σ' := (97, I, J, (az_u (az_u R 26 2 (some 16)) 26 3 (some 5)))) rfl (hQ _ hR_3_2 hR_3_3)
set_option maxRecDepth 100000 in
set_option maxHeartbeats 4000000 in
theorem re_X_hearts_48_b_16_21 {ex : az_X} {I : Nat → Nat → Int32} {J : Nat → Nat → Int64} {R : Nat → Nat → Option Nat} {v1 : Int32} {v2 : Int32} {v3 : Int32} {v4 : Int32} {v5 : Int32} {v6 : Int32} (hR_3_2 : R 3 2 = some 16) (hR_3_3 : R 3 3 = some 21) {x : ((Int32 × Int32 × Int32 × (Nat → Nat → Int32)) ⊕ (Int32 × (Nat → Nat → Int32)))} (h : rs_X_hearts_48_b 21 16 v1 v2 v3 v4 v5 v6 I = some x) {Q : Option Value → az_S → Prop} (hQ : Sum.elim (fun s => az_E az_F ex 6 102 48 [.ref 3, .int v1, .int v2, .int v3, .int s.1, .int s.2.1, .int s.2.2.1] [] (97, s.2.2.2, J, (az_u (az_u R 26 2 (some 16)) 26 3 (some 5))) Q) (fun x => ∀ R' : Nat → Nat → Option Nat, R' 3 2 = some 16 → R' 3 3 = some 21 → Q (some (.int x.1)) (97, x.2, J, R')) x) : az_E az_F ex 6 102 48 [.ref 3, .int v1, .int v2, .int v3, .int v4, .int v5, .int v6] [] (97, I, J, (az_u (az_u R 26 2 (some 16)) 26 3 (some 5))) Q := by
  unfold rs_X_hearts_48_b at h
  refine az_E.sn 2 (pc' := 52) (L' := [.ref 3, .int v1, .int v2, .int v3, .int v4, .int v5, .int v6]) (S' := [.int (9 : Int32), .int v6]) (σ' := (97, I, J, (az_u (az_u R 26 2 (some 16)) 26 3 (some 5)))) rfl ?_
  refine az_E.br (c := (9 : Int32) < v6) (tt := 99) (ff := 55) (L' := [.ref 3, .int v1, .int v2, .int v3, .int v4, .int v5, .int v6]) (S' := []) (σ' := (97, I, J, (az_u (az_u R 26 2 (some 16)) 26 3 (some 5)))) rfl (fun hc_13 => ?_) (fun hc_13 => ?_)
  · rw [if_pos hc_13] at h
    obtain ⟨x, hx, rfl⟩ := Option.map_eq_some_iff.mp h
    exact az_E.forget (L := [.retAddr 0, .retAddr 0, .retAddr 0, .int v3, .int v4, .int v5, .retAddr 0]) ⟨trivial, trivial, trivial, rfl, rfl, rfl, trivial, trivial⟩ (re_X_hearts_99_16_21 (I := I) (J := J) (R := R) hR_3_2 hR_3_3 hx hQ)
  · rw [if_neg hc_13] at h
    refine az_E.sn 3 (pc' := 61) (L' := [.ref 3, .int v1, .int v2, .int v3, .int v4, .int v5, .int v6]) (S' := [.int v6, .ref 26]) (σ' := (97, I, J, (az_u (az_u R 26 2 (some 16)) 26 3 (some 5)))) rfl ?_
    cases hx_16 : rs_Pa_withHeart 26 16 I v6 with
    | none => rw [hx_16] at h; cases h
    | some I_15 =>
      rw [hx_16] at h
      dsimp only at h
      refine az_E.call (d := 5) (k' := 44) (vs := [.ref 26, .int v6]) (pc' := 64) (S' := []) (Q1 := fun v s => v = none ∧ s = (97, I_15, J, (az_u (az_u R 26 2 (some 16)) 26 3 (some 5)))) rfl (az_E.deep (by omega) (re_Pa_withHeart_26_16 (J := J) (R := (az_u (az_u R 26 2 (some 16)) 26 3 (some 5))) rfl hx_16 ⟨rfl, rfl⟩)) (fun v s hq => ?_)
      obtain ⟨rfl, rfl⟩ := hq
      show az_E az_F ex 6 102 64 [.ref 3, .int v1, .int v2, .int v3, .int v4, .int v5, .int v6] [] (97, I_15, J, (az_u (az_u R 26 2 (some 16)) 26 3 (some 5))) _
      refine az_E.sn 3 (pc' := 68) (L' := [.ref 3, .int v1, .int v2, .int v3, .int v4, .int v5, .int v6]) (S' := [.int (10 : Int32), .int v1, .ref 3]) (σ' := (97, I_15, J, (az_u (az_u R 26 2 (some 16)) 26 3 (some 5)))) rfl ?_
      have hd_17 : ¬ ((10 : Int32) = 0) := by decide
      refine az_E.dv (c := (10 : Int32) = 0) (pc' := 69) (L' := [.ref 3, .int v1, .int v2, .int v3, .int v4, .int v5, .int v6]) (S' := [.int (v1 / (10 : Int32)), .ref 3]) (σ' := (97, I_15, J, (az_u (az_u R 26 2 (some 16)) 26 3 (some 5)))) rfl hd_17 ?_
      cases hx_20 : rs_X_armAt I_15 (v1 / (10 : Int32)) with
      | none => rw [hx_20] at h; cases h
      | some o =>
        rw [hx_20] at h
        obtain ⟨x_18, I_19⟩ := o
        dsimp only at h
        refine az_E.call (d := 5) (k' := 146) (vs := [.ref 3, .int (v1 / (10 : Int32))]) (pc' := 72) (S' := []) (Q1 := fun v s => v = some (.int x_18) ∧ s = (97, I_19, J, (az_u (az_u R 26 2 (some 16)) 26 3 (some 5)))) rfl (az_E.deep (by omega) (re_X_armAt_5 (J := J) (R := (az_u (az_u R 26 2 (some 16)) 26 3 (some 5))) rfl hx_20 ⟨rfl, rfl⟩)) (fun v s hq => ?_)
        obtain ⟨rfl, rfl⟩ := hq
        show az_E az_F ex 6 102 72 [.ref 3, .int v1, .int v2, .int v3, .int v4, .int v5, .int v6] [.int x_18] (97, I_19, J, (az_u (az_u R 26 2 (some 16)) 26 3 (some 5))) _
        refine az_E.sn 1 (pc' := 73) (L' := [.ref 3, .int v1, .int v2, .int v3, .int v4, .int v5, .int v6]) (S' := [.int v2, .int x_18]) (σ' := (97, I_19, J, (az_u (az_u R 26 2 (some 16)) 26 3 (some 5)))) rfl ?_
        refine az_E.br (c := x_18 = v2) (tt := 76) (ff := 93) (L' := [.ref 3, .int v1, .int v2, .int v3, .int v4, .int v5, .int v6]) (S' := []) (σ' := (97, I_19, J, (az_u (az_u R 26 2 (some 16)) 26 3 (some 5)))) rfl (fun hc_21 => ?_) (fun hc_21 => ?_)
        · rw [if_pos hc_21] at h
          refine az_E.sn 1 (pc' := 78) (L' := [.ref 3, .int v1, .int v2, .int v3, .int v4, .int v5, .int v6]) (S' := [.int v4]) (σ' := (97, I_19, J, (az_u (az_u R 26 2 (some 16)) 26 3 (some 5)))) rfl ?_
          refine az_E.br (c := v4 = 0) (tt := 81) (ff := 86) (L' := [.ref 3, .int v1, .int v2, .int v3, .int v4, .int v5, .int v6]) (S' := []) (σ' := (97, I_19, J, (az_u (az_u R 26 2 (some 16)) 26 3 (some 5)))) rfl (fun hc_22 => ?_) (fun hc_22 => ?_)
          · rw [if_pos hc_22] at h
            refine az_E.sn 6 (pc' := 48) (L' := [.ref 3, .int v1, .int v2, .int v3, .int (v4 + (1 : Int32)), .int v6, .int (v6 + (1 : Int32))]) (S' := []) (σ' := (97, I_19, J, (az_u (az_u R 26 2 (some 16)) 26 3 (some 5)))) rfl ?_
            have h := Option.some.inj h
            subst h
            exact az_E.forget (L := [.ref 3, .int v1, .int v2, .int v3, .int (v4 + (1 : Int32)), .int v6, .int (v6 + (1 : Int32))]) ⟨rfl, rfl, rfl, rfl, rfl, rfl, rfl, trivial⟩ hQ
          · rw [if_neg hc_22] at h
            refine az_E.sn 5 (pc' := 48) (L' := [.ref 3, .int v1, .int v2, .int v3, .int (v4 + (1 : Int32)), .int v5, .int (v6 + (1 : Int32))]) (S' := []) (σ' := (97, I_19, J, (az_u (az_u R 26 2 (some 16)) 26 3 (some 5)))) rfl ?_
            have h := Option.some.inj h
            subst h
            exact az_E.forget (L := [.ref 3, .int v1, .int v2, .int v3, .int (v4 + (1 : Int32)), .int v5, .int (v6 + (1 : Int32))]) ⟨rfl, rfl, rfl, rfl, rfl, rfl, rfl, trivial⟩ hQ
        · rw [if_neg hc_21] at h
          refine az_E.sn 2 (pc' := 48) (L' := [.ref 3, .int v1, .int v2, .int v3, .int v4, .int v5, .int (v6 + (1 : Int32))]) (S' := []) (σ' := (97, I_19, J, (az_u (az_u R 26 2 (some 16)) 26 3 (some 5)))) rfl ?_
          have h := Option.some.inj h
          subst h
          exact az_E.forget (L := [.ref 3, .int v1, .int v2, .int v3, .int v4, .int v5, .int (v6 + (1 : Int32))]) ⟨rfl, rfl, rfl, rfl, rfl, rfl, rfl, trivial⟩ hQ
set_option maxRecDepth 100000 in
set_option maxHeartbeats 4000000 in
theorem re_X_hearts_48_16_21 {ex : az_X} {I : Nat → Nat → Int32} {J : Nat → Nat → Int64} {R : Nat → Nat → Option Nat} {v1 : Int32} {v2 : Int32} {v3 : Int32} {v4 : Int32} {v5 : Int32} {v6 : Int32} (hR_3_2 : R 3 2 = some 16) (hR_3_3 : R 3 3 = some 21) {x : Int32 × (Nat → Nat → Int32)} (h : rs_X_hearts_48 21 16 I v1 v2 v3 v4 v5 v6 = some x) {Q : Option Value → az_S → Prop} (hQ : ∀ R' : Nat → Nat → Option Nat, R' 3 2 = some 16 → R' 3 3 = some 21 → Q (some (.int x.1)) (97, x.2, J, R')) : az_E az_F ex 6 102 48 [.ref 3, .int v1, .int v2, .int v3, .int v4, .int v5, .int v6] [] (97, I, J, (az_u (az_u R 26 2 (some 16)) 26 3 (some 5))) Q := by
  unfold rs_X_hearts_48 at h
  refine az_lp_E (G := fun s => az_E az_F ex 6 102 48 [.ref 3, .int v1, .int v2, .int v3, .int s.1, .int s.2.1, .int s.2.2.1] [] (97, s.2.2.2, J, (az_u (az_u R 26 2 (some 16)) 26 3 (some 5))) Q) (H := fun x => ∀ R' : Nat → Nat → Option Nat, R' 3 2 = some 16 → R' 3 3 = some 21 → Q (some (.int x.1)) (97, x.2, J, R')) (fun s o hb ho => ?_) _ _ _ h hQ
  exact re_X_hearts_48_b_16_21 hR_3_2 hR_3_3 hb ho
set_option maxRecDepth 100000 in
set_option maxHeartbeats 4000000 in
theorem re_X_hearts_16_21 {ex : az_X} {I : Nat → Nat → Int32} {J : Nat → Nat → Int64} {R : Nat → Nat → Option Nat} {a1 : Int32} {a2 : Int32} {a3 : Int32} (hR_3_2 : R 3 2 = some 16) (hR_3_3 : R 3 3 = some 21) {o : Int32 × (Nat → Nat → Int32)} (h : rs_X_hearts 21 16 I a1 a2 a3 = some o) {Q : Option Value → az_S → Prop} (hQ : ∀ R' : Nat → Nat → Option Nat, R' 3 2 = some 16 → R' 3 3 = some 21 → Q (some (.int o.1)) (97, o.2, J, R')) : az_E az_F ex 6 102 0 [.ref 3, .int a1, .int a2, .int a3, .retAddr 0, .retAddr 0, .retAddr 0] [] (97, I, J, R) Q := by
  unfold rs_X_hearts at h
  refine az_E.sn 2 (pc' := 2) (L' := [.ref 3, .int a1, .int a2, .int a3, .retAddr 0, .retAddr 0, .retAddr 0]) (S' := [.int a1, .ref 3]) (σ' := (97, I, J, R)) rfl ?_
  refine az_E.call (d := 5) (k' := 139) (vs := [.ref 3, .int a1]) (pc' := 5) (S' := []) rfl ?_ (fun _ _ hq => hq)
  show az_E az_F ex 5 139 0 [.ref 3, .int a1] [] (97, I, J, R) _
  refine az_E.sn 1 (pc' := 1) (L' := [.ref 3, .int a1]) (S' := [.int a1]) (σ' := (97, I, J, R)) rfl ?_
  refine az_E.br (c := a1 < 0) (tt := 33) (ff := 4) (L' := [.ref 3, .int a1]) (S' := []) (σ' := (97, I, J, R)) rfl (fun hc_1 => ?_) (fun hc_1 => ?_)
  · rw [if_pos hc_1] at h
    refine az_E.sn 1 (pc' := 34) (L' := [.ref 3, .int a1]) (S' := [.int (0 : Int32)]) (σ' := (97, I, J, R)) rfl ?_
    refine az_E.ret (v := some (.int (0 : Int32))) (σ' := (97, I, J, R)) rfl ?_
    show az_E az_F ex 6 102 5 [.ref 3, .int a1, .int a2, .int a3, .retAddr 0, .retAddr 0, .retAddr 0] [.int (0 : Int32)] (97, I, J, R) _
    refine az_E.br (c := (0 : Int32) = 0) (tt := 26) (ff := 8) (L' := [.ref 3, .int a1, .int a2, .int a3, .retAddr 0, .retAddr 0, .retAddr 0]) (S' := []) (σ' := (97, I, J, R)) rfl (fun _ => ?_) (fun hn => absurd (by decide) hn)
    refine az_E.sn 1 (pc' := 28) (L' := [.ref 3, .int a1, .int a2, .int a3, .retAddr 0, .retAddr 0, .retAddr 0]) (S' := [.int (-2000000000 : Int32)]) (σ' := (97, I, J, R)) rfl ?_
    have h := Option.some.inj h
    subst h
    exact az_E.ret (v := some (.int (-2000000000 : Int32))) (σ' := (97, I, J, R)) rfl (hQ _ hR_3_2 hR_3_3)
  · rw [if_neg hc_1] at h
    refine az_E.sn 2 (pc' := 7) (L' := [.ref 3, .int a1]) (S' := [.int (10 : Int32), .int a1]) (σ' := (97, I, J, R)) rfl ?_
    have hd_2 : ¬ ((10 : Int32) = 0) := by decide
    refine az_E.dv (c := (10 : Int32) = 0) (pc' := 8) (L' := [.ref 3, .int a1]) (S' := [.int (a1 / (10 : Int32))]) (σ' := (97, I, J, R)) rfl hd_2 ?_
    refine az_E.sn 3 (pc' := 15) (L' := [.ref 3, .int a1]) (S' := [.int (I 4 3), .int (a1 / (10 : Int32))]) (σ' := (97, I, J, R)) rfl ?_
    refine az_E.br (c := (I 4 3) ≤ (a1 / (10 : Int32))) (tt := 33) (ff := 18) (L' := [.ref 3, .int a1]) (S' := []) (σ' := (97, I, J, R)) rfl (fun hc_3 => ?_) (fun hc_3 => ?_)
    · rw [if_pos hc_3] at h
      refine az_E.sn 1 (pc' := 34) (L' := [.ref 3, .int a1]) (S' := [.int (0 : Int32)]) (σ' := (97, I, J, R)) rfl ?_
      refine az_E.ret (v := some (.int (0 : Int32))) (σ' := (97, I, J, R)) rfl ?_
      show az_E az_F ex 6 102 5 [.ref 3, .int a1, .int a2, .int a3, .retAddr 0, .retAddr 0, .retAddr 0] [.int (0 : Int32)] (97, I, J, R) _
      refine az_E.br (c := (0 : Int32) = 0) (tt := 26) (ff := 8) (L' := [.ref 3, .int a1, .int a2, .int a3, .retAddr 0, .retAddr 0, .retAddr 0]) (S' := []) (σ' := (97, I, J, R)) rfl (fun _ => ?_) (fun hn => absurd (by decide) hn)
      refine az_E.sn 1 (pc' := 28) (L' := [.ref 3, .int a1, .int a2, .int a3, .retAddr 0, .retAddr 0, .retAddr 0]) (S' := [.int (-2000000000 : Int32)]) (σ' := (97, I, J, R)) rfl ?_
      have h := Option.some.inj h
      subst h
      exact az_E.ret (v := some (.int (-2000000000 : Int32))) (σ' := (97, I, J, R)) rfl (hQ _ hR_3_2 hR_3_3)
    · rw [if_neg hc_3] at h
      refine az_E.sn 3 (pc' := 22) (L' := [.ref 3, .int a1]) (S' := [.int (10 : Int32), .int a1, .ref 3]) (σ' := (97, I, J, R)) rfl ?_
      have hd_4 : ¬ ((10 : Int32) = 0) := by decide
      refine az_E.dv (c := (10 : Int32) = 0) (pc' := 23) (L' := [.ref 3, .int a1]) (S' := [.int (a1 - a1 / (10 : Int32) * (10 : Int32)), .ref 3]) (σ' := (97, I, J, R)) rfl hd_4 ?_
      refine az_E.call (d := 4) (k' := 138) (vs := [.ref 3, .int (a1 - a1 / (10 : Int32) * (10 : Int32))]) (pc' := 26) (S' := []) rfl ?_ (fun _ _ hq => hq)
      show az_E az_F ex 4 138 0 [.ref 3, .int (a1 - a1 / (10 : Int32) * (10 : Int32))] [] (97, I, J, R) _
      refine az_E.sn 7 (pc' := 11) (L' := [.ref 3, .int (a1 - a1 / (10 : Int32) * (10 : Int32))]) (S' := [.int ((I 4 9) - (1 : Int32)), .int (0 : Int32), .int (a1 - a1 / (10 : Int32) * (10 : Int32))]) (σ' := (97, I, J, R)) rfl ?_
      refine az_E.call (d := 3) (k' := 131) (vs := [.int (a1 - a1 / (10 : Int32) * (10 : Int32)), .int (0 : Int32), .int ((I 4 9) - (1 : Int32))]) (pc' := 14) (S' := []) rfl ?_ (fun _ _ hq => hq)
      show az_E az_F ex 3 131 0 [.int (a1 - a1 / (10 : Int32) * (10 : Int32)), .int (0 : Int32), .int ((I 4 9) - (1 : Int32))] [] (97, I, J, R) _
      refine az_E.sn 2 (pc' := 2) (L' := [.int (a1 - a1 / (10 : Int32) * (10 : Int32)), .int (0 : Int32), .int ((I 4 9) - (1 : Int32))]) (S' := [.int (0 : Int32), .int (a1 - a1 / (10 : Int32) * (10 : Int32))]) (σ' := (97, I, J, R)) rfl ?_
      refine az_E.br (c := (a1 - a1 / (10 : Int32) * (10 : Int32)) < (0 : Int32)) (tt := 14) (ff := 5) (L' := [.int (a1 - a1 / (10 : Int32) * (10 : Int32)), .int (0 : Int32), .int ((I 4 9) - (1 : Int32))]) (S' := []) (σ' := (97, I, J, R)) rfl (fun hc_5 => ?_) (fun hc_5 => ?_)
      · rw [if_pos hc_5] at h
        refine az_E.sn 1 (pc' := 15) (L' := [.int (a1 - a1 / (10 : Int32) * (10 : Int32)), .int (0 : Int32), .int ((I 4 9) - (1 : Int32))]) (S' := [.int (0 : Int32)]) (σ' := (97, I, J, R)) rfl ?_
        refine az_E.ret (v := some (.int (0 : Int32))) (σ' := (97, I, J, R)) rfl ?_
        show az_E az_F ex 4 138 14 [.ref 3, .int (a1 - a1 / (10 : Int32) * (10 : Int32))] [.int (0 : Int32)] (97, I, J, R) _
        refine az_E.ret (v := some (.int (0 : Int32))) (σ' := (97, I, J, R)) rfl ?_
        show az_E az_F ex 5 139 26 [.ref 3, .int a1] [.int (0 : Int32)] (97, I, J, R) _
        refine az_E.br (c := (0 : Int32) = 0) (tt := 33) (ff := 29) (L' := [.ref 3, .int a1]) (S' := []) (σ' := (97, I, J, R)) rfl (fun _ => ?_) (fun hn => absurd (by decide) hn)
        refine az_E.sn 1 (pc' := 34) (L' := [.ref 3, .int a1]) (S' := [.int (0 : Int32)]) (σ' := (97, I, J, R)) rfl ?_
        refine az_E.ret (v := some (.int (0 : Int32))) (σ' := (97, I, J, R)) rfl ?_
        show az_E az_F ex 6 102 5 [.ref 3, .int a1, .int a2, .int a3, .retAddr 0, .retAddr 0, .retAddr 0] [.int (0 : Int32)] (97, I, J, R) _
        refine az_E.br (c := (0 : Int32) = 0) (tt := 26) (ff := 8) (L' := [.ref 3, .int a1, .int a2, .int a3, .retAddr 0, .retAddr 0, .retAddr 0]) (S' := []) (σ' := (97, I, J, R)) rfl (fun _ => ?_) (fun hn => absurd (by decide) hn)
        refine az_E.sn 1 (pc' := 28) (L' := [.ref 3, .int a1, .int a2, .int a3, .retAddr 0, .retAddr 0, .retAddr 0]) (S' := [.int (-2000000000 : Int32)]) (σ' := (97, I, J, R)) rfl ?_
        have h := Option.some.inj h
        subst h
        exact az_E.ret (v := some (.int (-2000000000 : Int32))) (σ' := (97, I, J, R)) rfl (hQ _ hR_3_2 hR_3_3)
      · rw [if_neg hc_5] at h
        refine az_E.sn 2 (pc' := 7) (L' := [.int (a1 - a1 / (10 : Int32) * (10 : Int32)), .int (0 : Int32), .int ((I 4 9) - (1 : Int32))]) (S' := [.int ((I 4 9) - (1 : Int32)), .int (a1 - a1 / (10 : Int32) * (10 : Int32))]) (σ' := (97, I, J, R)) rfl ?_
        refine az_E.br (c := ((I 4 9) - (1 : Int32)) < (a1 - a1 / (10 : Int32) * (10 : Int32))) (tt := 14) (ff := 10) (L' := [.int (a1 - a1 / (10 : Int32) * (10 : Int32)), .int (0 : Int32), .int ((I 4 9) - (1 : Int32))]) (S' := []) (σ' := (97, I, J, R)) rfl (fun hc_6 => ?_) (fun hc_6 => ?_)
        · rw [if_pos hc_6] at h
          refine az_E.sn 1 (pc' := 15) (L' := [.int (a1 - a1 / (10 : Int32) * (10 : Int32)), .int (0 : Int32), .int ((I 4 9) - (1 : Int32))]) (S' := [.int (0 : Int32)]) (σ' := (97, I, J, R)) rfl ?_
          refine az_E.ret (v := some (.int (0 : Int32))) (σ' := (97, I, J, R)) rfl ?_
          show az_E az_F ex 4 138 14 [.ref 3, .int (a1 - a1 / (10 : Int32) * (10 : Int32))] [.int (0 : Int32)] (97, I, J, R) _
          refine az_E.ret (v := some (.int (0 : Int32))) (σ' := (97, I, J, R)) rfl ?_
          show az_E az_F ex 5 139 26 [.ref 3, .int a1] [.int (0 : Int32)] (97, I, J, R) _
          refine az_E.br (c := (0 : Int32) = 0) (tt := 33) (ff := 29) (L' := [.ref 3, .int a1]) (S' := []) (σ' := (97, I, J, R)) rfl (fun _ => ?_) (fun hn => absurd (by decide) hn)
          refine az_E.sn 1 (pc' := 34) (L' := [.ref 3, .int a1]) (S' := [.int (0 : Int32)]) (σ' := (97, I, J, R)) rfl ?_
          refine az_E.ret (v := some (.int (0 : Int32))) (σ' := (97, I, J, R)) rfl ?_
          show az_E az_F ex 6 102 5 [.ref 3, .int a1, .int a2, .int a3, .retAddr 0, .retAddr 0, .retAddr 0] [.int (0 : Int32)] (97, I, J, R) _
          refine az_E.br (c := (0 : Int32) = 0) (tt := 26) (ff := 8) (L' := [.ref 3, .int a1, .int a2, .int a3, .retAddr 0, .retAddr 0, .retAddr 0]) (S' := []) (σ' := (97, I, J, R)) rfl (fun _ => ?_) (fun hn => absurd (by decide) hn)
          refine az_E.sn 1 (pc' := 28) (L' := [.ref 3, .int a1, .int a2, .int a3, .retAddr 0, .retAddr 0, .retAddr 0]) (S' := [.int (-2000000000 : Int32)]) (σ' := (97, I, J, R)) rfl ?_
          have h := Option.some.inj h
          subst h
          exact az_E.ret (v := some (.int (-2000000000 : Int32))) (σ' := (97, I, J, R)) rfl (hQ _ hR_3_2 hR_3_3)
        · rw [if_neg hc_6] at h
          refine az_E.sn 2 (pc' := 15) (L' := [.int (a1 - a1 / (10 : Int32) * (10 : Int32)), .int (0 : Int32), .int ((I 4 9) - (1 : Int32))]) (S' := [.int (1 : Int32)]) (σ' := (97, I, J, R)) rfl ?_
          refine az_E.ret (v := some (.int (1 : Int32))) (σ' := (97, I, J, R)) rfl ?_
          show az_E az_F ex 4 138 14 [.ref 3, .int (a1 - a1 / (10 : Int32) * (10 : Int32))] [.int (1 : Int32)] (97, I, J, R) _
          refine az_E.ret (v := some (.int (1 : Int32))) (σ' := (97, I, J, R)) rfl ?_
          show az_E az_F ex 5 139 26 [.ref 3, .int a1] [.int (1 : Int32)] (97, I, J, R) _
          refine az_E.br (c := (1 : Int32) = 0) (tt := 33) (ff := 29) (L' := [.ref 3, .int a1]) (S' := []) (σ' := (97, I, J, R)) rfl (fun hn => absurd hn (by decide)) (fun _ => ?_)
          refine az_E.sn 2 (pc' := 34) (L' := [.ref 3, .int a1]) (S' := [.int (1 : Int32)]) (σ' := (97, I, J, R)) rfl ?_
          refine az_E.ret (v := some (.int (1 : Int32))) (σ' := (97, I, J, R)) rfl ?_
          show az_E az_F ex 6 102 5 [.ref 3, .int a1, .int a2, .int a3, .retAddr 0, .retAddr 0, .retAddr 0] [.int (1 : Int32)] (97, I, J, R) _
          refine az_E.br (c := (1 : Int32) = 0) (tt := 26) (ff := 8) (L' := [.ref 3, .int a1, .int a2, .int a3, .retAddr 0, .retAddr 0, .retAddr 0]) (S' := []) (σ' := (97, I, J, R)) rfl (fun hn => absurd hn (by decide)) (fun _ => ?_)
          refine az_E.sn 3 (pc' := 13) (L' := [.ref 3, .int a1, .int a2, .int a3, .retAddr 0, .retAddr 0, .retAddr 0]) (S' := [.int (9999 : Int32), .int (0 : Int32), .int a2]) (σ' := (97, I, J, R)) rfl ?_
          refine az_E.call (d := 5) (k' := 131) (vs := [.int a2, .int (0 : Int32), .int (9999 : Int32)]) (pc' := 16) (S' := []) rfl ?_ (fun _ _ hq => hq)
          show az_E az_F ex 5 131 0 [.int a2, .int (0 : Int32), .int (9999 : Int32)] [] (97, I, J, R) _
          refine az_E.sn 2 (pc' := 2) (L' := [.int a2, .int (0 : Int32), .int (9999 : Int32)]) (S' := [.int (0 : Int32), .int a2]) (σ' := (97, I, J, R)) rfl ?_
          refine az_E.br (c := a2 < (0 : Int32)) (tt := 14) (ff := 5) (L' := [.int a2, .int (0 : Int32), .int (9999 : Int32)]) (S' := []) (σ' := (97, I, J, R)) rfl (fun hc_7 => ?_) (fun hc_7 => ?_)
          · rw [if_pos hc_7] at h
            refine az_E.sn 1 (pc' := 15) (L' := [.int a2, .int (0 : Int32), .int (9999 : Int32)]) (S' := [.int (0 : Int32)]) (σ' := (97, I, J, R)) rfl ?_
            refine az_E.ret (v := some (.int (0 : Int32))) (σ' := (97, I, J, R)) rfl ?_
            show az_E az_F ex 6 102 16 [.ref 3, .int a1, .int a2, .int a3, .retAddr 0, .retAddr 0, .retAddr 0] [.int (0 : Int32)] (97, I, J, R) _
            refine az_E.br (c := (0 : Int32) = 0) (tt := 26) (ff := 19) (L' := [.ref 3, .int a1, .int a2, .int a3, .retAddr 0, .retAddr 0, .retAddr 0]) (S' := []) (σ' := (97, I, J, R)) rfl (fun _ => ?_) (fun hn => absurd (by decide) hn)
            refine az_E.sn 1 (pc' := 28) (L' := [.ref 3, .int a1, .int a2, .int a3, .retAddr 0, .retAddr 0, .retAddr 0]) (S' := [.int (-2000000000 : Int32)]) (σ' := (97, I, J, R)) rfl ?_
            have h := Option.some.inj h
            subst h
            exact az_E.ret (v := some (.int (-2000000000 : Int32))) (σ' := (97, I, J, R)) rfl (hQ _ hR_3_2 hR_3_3)
          · rw [if_neg hc_7] at h
            refine az_E.sn 2 (pc' := 7) (L' := [.int a2, .int (0 : Int32), .int (9999 : Int32)]) (S' := [.int (9999 : Int32), .int a2]) (σ' := (97, I, J, R)) rfl ?_
            refine az_E.br (c := (9999 : Int32) < a2) (tt := 14) (ff := 10) (L' := [.int a2, .int (0 : Int32), .int (9999 : Int32)]) (S' := []) (σ' := (97, I, J, R)) rfl (fun hc_8 => ?_) (fun hc_8 => ?_)
            · rw [if_pos hc_8] at h
              refine az_E.sn 1 (pc' := 15) (L' := [.int a2, .int (0 : Int32), .int (9999 : Int32)]) (S' := [.int (0 : Int32)]) (σ' := (97, I, J, R)) rfl ?_
              refine az_E.ret (v := some (.int (0 : Int32))) (σ' := (97, I, J, R)) rfl ?_
              show az_E az_F ex 6 102 16 [.ref 3, .int a1, .int a2, .int a3, .retAddr 0, .retAddr 0, .retAddr 0] [.int (0 : Int32)] (97, I, J, R) _
              refine az_E.br (c := (0 : Int32) = 0) (tt := 26) (ff := 19) (L' := [.ref 3, .int a1, .int a2, .int a3, .retAddr 0, .retAddr 0, .retAddr 0]) (S' := []) (σ' := (97, I, J, R)) rfl (fun _ => ?_) (fun hn => absurd (by decide) hn)
              refine az_E.sn 1 (pc' := 28) (L' := [.ref 3, .int a1, .int a2, .int a3, .retAddr 0, .retAddr 0, .retAddr 0]) (S' := [.int (-2000000000 : Int32)]) (σ' := (97, I, J, R)) rfl ?_
              have h := Option.some.inj h
              subst h
              exact az_E.ret (v := some (.int (-2000000000 : Int32))) (σ' := (97, I, J, R)) rfl (hQ _ hR_3_2 hR_3_3)
            · rw [if_neg hc_8] at h
              refine az_E.sn 2 (pc' := 15) (L' := [.int a2, .int (0 : Int32), .int (9999 : Int32)]) (S' := [.int (1 : Int32)]) (σ' := (97, I, J, R)) rfl ?_
              refine az_E.ret (v := some (.int (1 : Int32))) (σ' := (97, I, J, R)) rfl ?_
              show az_E az_F ex 6 102 16 [.ref 3, .int a1, .int a2, .int a3, .retAddr 0, .retAddr 0, .retAddr 0] [.int (1 : Int32)] (97, I, J, R) _
              refine az_E.br (c := (1 : Int32) = 0) (tt := 26) (ff := 19) (L' := [.ref 3, .int a1, .int a2, .int a3, .retAddr 0, .retAddr 0, .retAddr 0]) (S' := []) (σ' := (97, I, J, R)) rfl (fun hn => absurd hn (by decide)) (fun _ => ?_)
              refine az_E.sn 1 (pc' := 20) (L' := [.ref 3, .int a1, .int a2, .int a3, .retAddr 0, .retAddr 0, .retAddr 0]) (S' := [.int a3]) (σ' := (97, I, J, R)) rfl ?_
              refine az_E.call (d := 5) (k' := 132) (vs := [.int a3]) (pc' := 23) (S' := []) rfl ?_ (fun _ _ hq => hq)
              show az_E az_F ex 5 132 0 [.int a3] [] (97, I, J, R) _
              refine az_E.sn 1 (pc' := 1) (L' := [.int a3]) (S' := [.int a3]) (σ' := (97, I, J, R)) rfl ?_
              refine az_E.br (c := a3 = 0) (tt := 9) (ff := 4) (L' := [.int a3]) (S' := []) (σ' := (97, I, J, R)) rfl (fun hc_9 => ?_) (fun hc_9 => ?_)
              · rw [if_pos hc_9] at h
                refine az_E.sn 2 (pc' := 14) (L' := [.int a3]) (S' := [.int (1 : Int32)]) (σ' := (97, I, J, R)) rfl ?_
                refine az_E.ret (v := some (.int (1 : Int32))) (σ' := (97, I, J, R)) rfl ?_
                show az_E az_F ex 6 102 23 [.ref 3, .int a1, .int a2, .int a3, .retAddr 0, .retAddr 0, .retAddr 0] [.int (1 : Int32)] (97, I, J, R) _
                refine az_E.br (c := (1 : Int32) = 0) (tt := 26) (ff := 29) (L' := [.ref 3, .int a1, .int a2, .int a3, .retAddr 0, .retAddr 0, .retAddr 0]) (S' := []) (σ' := (97, I, J, R)) rfl (fun hn => absurd hn (by decide)) (fun _ => ?_)
                refine az_E.sn 3 (pc' := 33) (L' := [.ref 3, .int a1, .int a2, .int a3, .retAddr 0, .retAddr 0, .retAddr 0]) (S' := [.int (10 : Int32), .int a1, .ref 3]) (σ' := (97, I, J, R)) rfl ?_
                have hd_10 : ¬ ((10 : Int32) = 0) := by decide
                refine az_E.dv (c := (10 : Int32) = 0) (pc' := 34) (L' := [.ref 3, .int a1, .int a2, .int a3, .retAddr 0, .retAddr 0, .retAddr 0]) (S' := [.int (a1 - a1 / (10 : Int32) * (10 : Int32)), .ref 3]) (σ' := (97, I, J, R)) rfl hd_10 ?_
                cases hx_12 : rs_X_setPace 16 I (a1 - a1 / (10 : Int32) * (10 : Int32)) with
                | none => rw [hx_12] at h; cases h
                | some I_11 =>
                  rw [hx_12] at h
                  dsimp only at h
                  refine az_E.call (d := 5) (k' := 144) (vs := [.ref 3, .int (a1 - a1 / (10 : Int32) * (10 : Int32))]) (pc' := 37) (S' := []) (Q1 := fun v s => v = none ∧ s = (97, I_11, J, (az_u (az_u R 26 2 (some 16)) 26 3 (some 5)))) rfl (az_E.deep (by omega) (re_X_setPace_16 (J := J) (R := R) hR_3_2 hx_12 ⟨rfl, rfl⟩)) (fun v s hq => ?_)
                  obtain ⟨rfl, rfl⟩ := hq
                  show az_E az_F ex 6 102 37 [.ref 3, .int a1, .int a2, .int a3, .retAddr 0, .retAddr 0, .retAddr 0] [] (97, I_11, J, (az_u (az_u R 26 2 (some 16)) 26 3 (some 5))) _
                  refine az_E.sn 6 (pc' := 48) (L' := [.ref 3, .int a1, .int a2, .int a3, .int (0 : Int32), .int (-99 : Int32), .int (-9 : Int32)]) (S' := []) (σ' := (97, I_11, J, (az_u (az_u R 26 2 (some 16)) 26 3 (some 5)))) rfl ?_
                  exact az_E.forget (L := [.ref 3, .int a1, .int a2, .int a3, .int (0 : Int32), .int (-99 : Int32), .int (-9 : Int32)]) ⟨rfl, rfl, rfl, rfl, rfl, rfl, rfl, trivial⟩ (re_X_hearts_48_16_21 (I := I_11) (J := J) (R := R) hR_3_2 hR_3_3 h hQ)
              · rw [if_neg hc_9] at h
                refine az_E.sn 2 (pc' := 6) (L' := [.int a3]) (S' := [.int (1 : Int32), .int a3]) (σ' := (97, I, J, R)) rfl ?_
                refine az_E.br (c := a3 = (1 : Int32)) (tt := 9) (ff := 13) (L' := [.int a3]) (S' := []) (σ' := (97, I, J, R)) rfl (fun hc_23 => ?_) (fun hc_23 => ?_)
                · rw [if_pos hc_23] at h
                  refine az_E.sn 2 (pc' := 14) (L' := [.int a3]) (S' := [.int (1 : Int32)]) (σ' := (97, I, J, R)) rfl ?_
                  refine az_E.ret (v := some (.int (1 : Int32))) (σ' := (97, I, J, R)) rfl ?_
                  show az_E az_F ex 6 102 23 [.ref 3, .int a1, .int a2, .int a3, .retAddr 0, .retAddr 0, .retAddr 0] [.int (1 : Int32)] (97, I, J, R) _
                  refine az_E.br (c := (1 : Int32) = 0) (tt := 26) (ff := 29) (L' := [.ref 3, .int a1, .int a2, .int a3, .retAddr 0, .retAddr 0, .retAddr 0]) (S' := []) (σ' := (97, I, J, R)) rfl (fun hn => absurd hn (by decide)) (fun _ => ?_)
                  refine az_E.sn 3 (pc' := 33) (L' := [.ref 3, .int a1, .int a2, .int a3, .retAddr 0, .retAddr 0, .retAddr 0]) (S' := [.int (10 : Int32), .int a1, .ref 3]) (σ' := (97, I, J, R)) rfl ?_
                  have hd_24 : ¬ ((10 : Int32) = 0) := by decide
                  refine az_E.dv (c := (10 : Int32) = 0) (pc' := 34) (L' := [.ref 3, .int a1, .int a2, .int a3, .retAddr 0, .retAddr 0, .retAddr 0]) (S' := [.int (a1 - a1 / (10 : Int32) * (10 : Int32)), .ref 3]) (σ' := (97, I, J, R)) rfl hd_24 ?_
                  cases hx_26 : rs_X_setPace 16 I (a1 - a1 / (10 : Int32) * (10 : Int32)) with
                  | none => rw [hx_26] at h; cases h
                  | some I_25 =>
                    rw [hx_26] at h
                    dsimp only at h
                    refine az_E.call (d := 5) (k' := 144) (vs := [.ref 3, .int (a1 - a1 / (10 : Int32) * (10 : Int32))]) (pc' := 37) (S' := []) (Q1 := fun v s => v = none ∧ s = (97, I_25, J, (az_u (az_u R 26 2 (some 16)) 26 3 (some 5)))) rfl (az_E.deep (by omega) (re_X_setPace_16 (J := J) (R := R) hR_3_2 hx_26 ⟨rfl, rfl⟩)) (fun v s hq => ?_)
                    obtain ⟨rfl, rfl⟩ := hq
                    show az_E az_F ex 6 102 37 [.ref 3, .int a1, .int a2, .int a3, .retAddr 0, .retAddr 0, .retAddr 0] [] (97, I_25, J, (az_u (az_u R 26 2 (some 16)) 26 3 (some 5))) _
                    refine az_E.sn 6 (pc' := 48) (L' := [.ref 3, .int a1, .int a2, .int a3, .int (0 : Int32), .int (-99 : Int32), .int (-9 : Int32)]) (S' := []) (σ' := (97, I_25, J, (az_u (az_u R 26 2 (some 16)) 26 3 (some 5)))) rfl ?_
                    exact az_E.forget (L := [.ref 3, .int a1, .int a2, .int a3, .int (0 : Int32), .int (-99 : Int32), .int (-9 : Int32)]) ⟨rfl, rfl, rfl, rfl, rfl, rfl, rfl, trivial⟩ (re_X_hearts_48_16_21 (I := I_25) (J := J) (R := R) hR_3_2 hR_3_3 h hQ)
                · rw [if_neg hc_23] at h
                  refine az_E.sn 1 (pc' := 14) (L' := [.int a3]) (S' := [.int (0 : Int32)]) (σ' := (97, I, J, R)) rfl ?_
                  refine az_E.ret (v := some (.int (0 : Int32))) (σ' := (97, I, J, R)) rfl ?_
                  show az_E az_F ex 6 102 23 [.ref 3, .int a1, .int a2, .int a3, .retAddr 0, .retAddr 0, .retAddr 0] [.int (0 : Int32)] (97, I, J, R) _
                  refine az_E.br (c := (0 : Int32) = 0) (tt := 26) (ff := 29) (L' := [.ref 3, .int a1, .int a2, .int a3, .retAddr 0, .retAddr 0, .retAddr 0]) (S' := []) (σ' := (97, I, J, R)) rfl (fun _ => ?_) (fun hn => absurd (by decide) hn)
                  refine az_E.sn 1 (pc' := 28) (L' := [.ref 3, .int a1, .int a2, .int a3, .retAddr 0, .retAddr 0, .retAddr 0]) (S' := [.int (-2000000000 : Int32)]) (σ' := (97, I, J, R)) rfl ?_
                  have h := Option.some.inj h
                  subst h
                  exact az_E.ret (v := some (.int (-2000000000 : Int32))) (σ' := (97, I, J, R)) rfl (hQ _ hR_3_2 hR_3_3)
set_option maxRecDepth 100000 in
set_option maxHeartbeats 4000000 in
theorem re_M_armBy {ex : az_X} {I : Nat → Nat → Int32} {J : Nat → Nat → Int64} {R : Nat → Nat → Option Nat} {a1 : Int32} {a2 : Int32} {a3 : Int32} {o : Int32 × (Nat → Nat → Int32)} (h : rs_M_armBy I a1 a2 a3 = some o) {Q : Option Value → az_S → Prop} (hQ : Q (some (.int o.1)) (97, o.2, J, R)) : az_E az_F ex 124 214 0 [.ref 73, .int a1, .int a2, .int a3] [] (97, I, J, R) Q := by
  unfold rs_M_armBy at h
  refine az_E.sn 7 (pc' := 11) (L' := [.ref 73, .int a1, .int a2, .int a3]) (S' := [.int ((166 : Int32) + a2), .ref 74, .int a3, .ref 73]) (σ' := (97, I, J, R)) rfl ?_
  by_cases hc_1 : ((166 : Int32) + a2) < 0 ∨ 179 ≤ ((166 : Int32) + a2).toNatClampNeg
  · rw [if_pos hc_1] at h; cases h
  · rw [if_neg hc_1] at h
    refine az_E.oi (o := az_ai az_F ex (97, I, J, R) 74 ((166 : Int32) + a2)) (pc' := 12) (L' := [.ref 73, .int a1, .int a2, .int a3]) (S' := [.int a3, .ref 73]) (σ' := (97, I, J, R)) (x := (I 74 ((166 : Int32) + a2).toNatClampNeg)) rfl (if_neg hc_1) ?_
    refine az_E.sn 5 (pc' := 21) (L' := [.ref 73, .int a1, .int a2, .int a3]) (S' := [.int ((172 : Int32) + a2), .ref 74, .int (I 74 ((166 : Int32) + a2).toNatClampNeg), .int a3, .ref 73]) (σ' := (97, I, J, R)) rfl ?_
    by_cases hc_2 : ((172 : Int32) + a2) < 0 ∨ 179 ≤ ((172 : Int32) + a2).toNatClampNeg
    · rw [if_pos hc_2] at h; cases h
    · rw [if_neg hc_2] at h
      refine az_E.oi (o := az_ai az_F ex (97, I, J, R) 74 ((172 : Int32) + a2)) (pc' := 22) (L' := [.ref 73, .int a1, .int a2, .int a3]) (S' := [.int (I 74 ((166 : Int32) + a2).toNatClampNeg), .int a3, .ref 73]) (σ' := (97, I, J, R)) (x := (I 74 ((172 : Int32) + a2).toNatClampNeg)) rfl (if_neg hc_2) ?_
      refine az_E.sn 3 (pc' := 29) (L' := [.ref 73, .int a1, .int a2, .int a3]) (S' := [.int (178 : Int32), .ref 74, .int (I 74 ((172 : Int32) + a2).toNatClampNeg), .int (I 74 ((166 : Int32) + a2).toNatClampNeg), .int a3, .ref 73]) (σ' := (97, I, J, R)) rfl ?_
      refine az_E.oi (o := az_ai az_F ex (97, I, J, R) 74 (178 : Int32)) (pc' := 30) (L' := [.ref 73, .int a1, .int a2, .int a3]) (S' := [.int (I 74 ((172 : Int32) + a2).toNatClampNeg), .int (I 74 ((166 : Int32) + a2).toNatClampNeg), .int a3, .ref 73]) (σ' := (97, I, J, R)) (x := (I 74 178)) rfl rfl ?_
      cases hx_5 : rs_M_asksSteps I a3 (I 74 ((166 : Int32) + a2).toNatClampNeg) (I 74 ((172 : Int32) + a2).toNatClampNeg) (I 74 178) with
      | none => rw [hx_5] at h; cases h
      | some I_4 =>
        rw [hx_5] at h
        dsimp only at h
        refine az_E.call (d := 123) (k' := 189) (vs := [.ref 73, .int a3, .int (I 74 ((166 : Int32) + a2).toNatClampNeg), .int (I 74 ((172 : Int32) + a2).toNatClampNeg), .int (I 74 178)]) (pc' := 33) (S' := []) (Q1 := fun v s => v = none ∧ s = (97, I_4, J, R)) rfl (az_E.deep (by omega) (re_M_asksSteps (J := J) (R := R)  hx_5 ⟨rfl, rfl⟩)) (fun v s hq => ?_)
        obtain ⟨rfl, rfl⟩ := hq
        show az_E az_F ex 124 214 33 [.ref 73, .int a1, .int a2, .int a3] [] (97, I_4, J, R) _
        refine az_E.sn 2 (pc' := 35) (L' := [.ref 73, .int a1, .int a2, .int a3]) (S' := [.int a1, .ref 73]) (σ' := (97, I_4, J, R)) rfl ?_
        cases hx_8 : rs_M_armFor I_4 a1 with
        | none => rw [hx_8] at h; cases h
        | some o =>
          rw [hx_8] at h
          obtain ⟨x_6, I_7⟩ := o
          dsimp only at h
          refine az_E.call (d := 123) (k' := 197) (vs := [.ref 73, .int a1]) (pc' := 38) (S' := []) (Q1 := fun v s => v = some (.int x_6) ∧ s = (97, I_7, J, R)) rfl (az_E.deep (by omega) (re_M_armFor (J := J) (R := R)  hx_8 ⟨rfl, rfl⟩)) (fun v s hq => ?_)
          obtain ⟨rfl, rfl⟩ := hq
          show az_E az_F ex 124 214 38 [.ref 73, .int a1, .int a2, .int a3] [.int x_6] (97, I_7, J, R) _
          have h := Option.some.inj h
          subst h
          exact az_E.ret (v := some (.int x_6)) (σ' := (97, I_7, J, R)) rfl hQ
set_option maxRecDepth 100000 in
set_option maxHeartbeats 4000000 in
theorem re_M_hearts_87 {ex : az_X} {I : Nat → Nat → Int32} {J : Nat → Nat → Int64} {R : Nat → Nat → Option Nat} {v3 : Int32} {v4 : Int32} {v5 : Int32} {x : Int32 × (Nat → Nat → Int32)} (h : rs_M_hearts_87 I v3 v4 v5 = some x) {Q : Option Value → az_S → Prop} (hQ : Q (some (.int x.1)) (97, x.2, J, R)) : az_E az_F ex 125 215 87 [.retAddr 0, .retAddr 0, .retAddr 0, .int v3, .int v4, .int v5, .retAddr 0] [] (97, I, J, R) Q := by
  unfold rs_M_hearts_87 at h
  refine az_E.sn 1 (pc' := 88) (L' := [.retAddr 0, .retAddr 0, .retAddr 0, .int v3, .int v4, .int v5, .retAddr 0]) (S' := [.int v3]) (σ' := (97, I, J, R)) rfl ?_
  refine az_E.br (c := v3 = 0) (tt := 91) (ff := 96) (L' := [.retAddr 0, .retAddr 0, .retAddr 0, .int v3, .int v4, .int v5, .retAddr 0]) (S' := []) (σ' := (97, I, J, R)) rfl (fun hc_9 => ?_) (fun hc_9 => ?_)
  · rw [if_pos hc_9] at h
    refine az_E.sn 2 (pc' := 98) (L' := [.retAddr 0, .retAddr 0, .retAddr 0, .int v3, .int v4, .int v5, .retAddr 0]) (S' := [.int v4]) (σ' := (97, I, J, R)) rfl ?_
    have h := Option.some.inj h
    subst h
    exact az_E.ret (v := some (.int v4)) (σ' := (97, I, J, R)) rfl hQ
  · rw [if_neg hc_9] at h
    refine az_E.sn 1 (pc' := 98) (L' := [.retAddr 0, .retAddr 0, .retAddr 0, .int v3, .int v4, .int v5, .retAddr 0]) (S' := [.int v5]) (σ' := (97, I, J, R)) rfl ?_
    have h := Option.some.inj h
    subst h
    exact az_E.ret (v := some (.int v5)) (σ' := (97, I, J, R)) rfl hQ
set_option maxRecDepth 100000 in
set_option maxHeartbeats 4000000 in
theorem re_M_hearts_39_b {ex : az_X} {I : Nat → Nat → Int32} {J : Nat → Nat → Int64} {R : Nat → Nat → Option Nat} {v1 : Int32} {v2 : Int32} {v3 : Int32} {v4 : Int32} {v5 : Int32} {v6 : Int32} {x : ((Int32 × Int32 × Int32 × (Nat → Nat → Int32)) ⊕ (Int32 × (Nat → Nat → Int32)))} (h : rs_M_hearts_39_b v1 v2 v3 v4 v5 v6 I = some x) {Q : Option Value → az_S → Prop} (hQ : Sum.elim (fun s => az_E az_F ex 125 215 39 [.ref 73, .int v1, .int v2, .int v3, .int s.1, .int s.2.1, .int s.2.2.1] [] (97, s.2.2.2, J, R) Q) (fun x => Q (some (.int x.1)) (97, x.2, J, R)) x) : az_E az_F ex 125 215 39 [.ref 73, .int v1, .int v2, .int v3, .int v4, .int v5, .int v6] [] (97, I, J, R) Q := by
  unfold rs_M_hearts_39_b at h
  refine az_E.sn 2 (pc' := 43) (L' := [.ref 73, .int v1, .int v2, .int v3, .int v4, .int v5, .int v6]) (S' := [.int (9 : Int32), .int v6]) (σ' := (97, I, J, R)) rfl ?_
  refine az_E.br (c := (9 : Int32) < v6) (tt := 87) (ff := 46) (L' := [.ref 73, .int v1, .int v2, .int v3, .int v4, .int v5, .int v6]) (S' := []) (σ' := (97, I, J, R)) rfl (fun hc_8 => ?_) (fun hc_8 => ?_)
  · rw [if_pos hc_8] at h
    obtain ⟨x, hx, rfl⟩ := Option.map_eq_some_iff.mp h
    exact az_E.forget (L := [.retAddr 0, .retAddr 0, .retAddr 0, .int v3, .int v4, .int v5, .retAddr 0]) ⟨trivial, trivial, trivial, rfl, rfl, rfl, trivial, trivial⟩ (re_M_hearts_87 (I := I) (J := J) (R := R)  hx hQ)
  · rw [if_neg hc_8] at h
    refine az_E.sn 3 (pc' := 50) (L' := [.ref 73, .int v1, .int v2, .int v3, .int v4, .int v5, .int v6]) (S' := [.int (10 : Int32), .int v1, .ref 73]) (σ' := (97, I, J, R)) rfl ?_
    have hd_10 : ¬ ((10 : Int32) = 0) := by decide
    refine az_E.dv (c := (10 : Int32) = 0) (pc' := 51) (L' := [.ref 73, .int v1, .int v2, .int v3, .int v4, .int v5, .int v6]) (S' := [.int (v1 / (10 : Int32)), .ref 73]) (σ' := (97, I, J, R)) rfl hd_10 ?_
    refine az_E.sn 2 (pc' := 54) (L' := [.ref 73, .int v1, .int v2, .int v3, .int v4, .int v5, .int v6]) (S' := [.int (10 : Int32), .int v1, .int (v1 / (10 : Int32)), .ref 73]) (σ' := (97, I, J, R)) rfl ?_
    have hd_11 : ¬ ((10 : Int32) = 0) := by decide
    refine az_E.dv (c := (10 : Int32) = 0) (pc' := 55) (L' := [.ref 73, .int v1, .int v2, .int v3, .int v4, .int v5, .int v6]) (S' := [.int (v1 - v1 / (10 : Int32) * (10 : Int32)), .int (v1 / (10 : Int32)), .ref 73]) (σ' := (97, I, J, R)) rfl hd_11 ?_
    refine az_E.sn 1 (pc' := 57) (L' := [.ref 73, .int v1, .int v2, .int v3, .int v4, .int v5, .int v6]) (S' := [.int v6, .int (v1 - v1 / (10 : Int32) * (10 : Int32)), .int (v1 / (10 : Int32)), .ref 73]) (σ' := (97, I, J, R)) rfl ?_
    cases hx_14 : rs_M_armBy I (v1 / (10 : Int32)) (v1 - v1 / (10 : Int32) * (10 : Int32)) v6 with
    | none => rw [hx_14] at h; cases h
    | some o =>
      rw [hx_14] at h
      obtain ⟨x_12, I_13⟩ := o
      dsimp only at h
      refine az_E.call (d := 124) (k' := 214) (vs := [.ref 73, .int (v1 / (10 : Int32)), .int (v1 - v1 / (10 : Int32) * (10 : Int32)), .int v6]) (pc' := 60) (S' := []) (Q1 := fun v s => v = some (.int x_12) ∧ s = (97, I_13, J, R)) rfl (az_E.deep (by omega) (re_M_armBy (J := J) (R := R)  hx_14 ⟨rfl, rfl⟩)) (fun v s hq => ?_)
      obtain ⟨rfl, rfl⟩ := hq
      show az_E az_F ex 125 215 60 [.ref 73, .int v1, .int v2, .int v3, .int v4, .int v5, .int v6] [.int x_12] (97, I_13, J, R) _
      refine az_E.sn 1 (pc' := 61) (L' := [.ref 73, .int v1, .int v2, .int v3, .int v4, .int v5, .int v6]) (S' := [.int v2, .int x_12]) (σ' := (97, I_13, J, R)) rfl ?_
      refine az_E.br (c := x_12 = v2) (tt := 64) (ff := 81) (L' := [.ref 73, .int v1, .int v2, .int v3, .int v4, .int v5, .int v6]) (S' := []) (σ' := (97, I_13, J, R)) rfl (fun hc_15 => ?_) (fun hc_15 => ?_)
      · rw [if_pos hc_15] at h
        refine az_E.sn 1 (pc' := 66) (L' := [.ref 73, .int v1, .int v2, .int v3, .int v4, .int v5, .int v6]) (S' := [.int v4]) (σ' := (97, I_13, J, R)) rfl ?_
        refine az_E.br (c := v4 = 0) (tt := 69) (ff := 74) (L' := [.ref 73, .int v1, .int v2, .int v3, .int v4, .int v5, .int v6]) (S' := []) (σ' := (97, I_13, J, R)) rfl (fun hc_16 => ?_) (fun hc_16 => ?_)
        · rw [if_pos hc_16] at h
          refine az_E.sn 6 (pc' := 39) (L' := [.ref 73, .int v1, .int v2, .int v3, .int (v4 + (1 : Int32)), .int v6, .int (v6 + (1 : Int32))]) (S' := []) (σ' := (97, I_13, J, R)) rfl ?_
          have h := Option.some.inj h
          subst h
          exact az_E.forget (L := [.ref 73, .int v1, .int v2, .int v3, .int (v4 + (1 : Int32)), .int v6, .int (v6 + (1 : Int32))]) ⟨rfl, rfl, rfl, rfl, rfl, rfl, rfl, trivial⟩ hQ
        · rw [if_neg hc_16] at h
          refine az_E.sn 5 (pc' := 39) (L' := [.ref 73, .int v1, .int v2, .int v3, .int (v4 + (1 : Int32)), .int v5, .int (v6 + (1 : Int32))]) (S' := []) (σ' := (97, I_13, J, R)) rfl ?_
          have h := Option.some.inj h
          subst h
          exact az_E.forget (L := [.ref 73, .int v1, .int v2, .int v3, .int (v4 + (1 : Int32)), .int v5, .int (v6 + (1 : Int32))]) ⟨rfl, rfl, rfl, rfl, rfl, rfl, rfl, trivial⟩ hQ
      · rw [if_neg hc_15] at h
        refine az_E.sn 2 (pc' := 39) (L' := [.ref 73, .int v1, .int v2, .int v3, .int v4, .int v5, .int (v6 + (1 : Int32))]) (S' := []) (σ' := (97, I_13, J, R)) rfl ?_
        have h := Option.some.inj h
        subst h
        exact az_E.forget (L := [.ref 73, .int v1, .int v2, .int v3, .int v4, .int v5, .int (v6 + (1 : Int32))]) ⟨rfl, rfl, rfl, rfl, rfl, rfl, rfl, trivial⟩ hQ
set_option maxRecDepth 100000 in
set_option maxHeartbeats 4000000 in
theorem re_M_hearts_39 {ex : az_X} {I : Nat → Nat → Int32} {J : Nat → Nat → Int64} {R : Nat → Nat → Option Nat} {v1 : Int32} {v2 : Int32} {v3 : Int32} {v4 : Int32} {v5 : Int32} {v6 : Int32} {x : Int32 × (Nat → Nat → Int32)} (h : rs_M_hearts_39 I v1 v2 v3 v4 v5 v6 = some x) {Q : Option Value → az_S → Prop} (hQ : Q (some (.int x.1)) (97, x.2, J, R)) : az_E az_F ex 125 215 39 [.ref 73, .int v1, .int v2, .int v3, .int v4, .int v5, .int v6] [] (97, I, J, R) Q := by
  unfold rs_M_hearts_39 at h
  refine az_lp_E (G := fun s => az_E az_F ex 125 215 39 [.ref 73, .int v1, .int v2, .int v3, .int s.1, .int s.2.1, .int s.2.2.1] [] (97, s.2.2.2, J, R) Q) (H := fun x => Q (some (.int x.1)) (97, x.2, J, R)) (fun s o hb ho => ?_) _ _ _ h hQ
  exact re_M_hearts_39_b  hb ho
set_option maxRecDepth 100000 in
set_option maxHeartbeats 4000000 in
theorem re_M_hearts {ex : az_X} {I : Nat → Nat → Int32} {J : Nat → Nat → Int64} {R : Nat → Nat → Option Nat} {a1 : Int32} {a2 : Int32} {a3 : Int32} {o : Int32 × (Nat → Nat → Int32)} (h : rs_M_hearts I a1 a2 a3 = some o) {Q : Option Value → az_S → Prop} (hQ : Q (some (.int o.1)) (97, o.2, J, R)) : az_E az_F ex 125 215 0 [.ref 73, .int a1, .int a2, .int a3, .retAddr 0, .retAddr 0, .retAddr 0] [] (97, I, J, R) Q := by
  unfold rs_M_hearts at h
  refine az_E.sn 2 (pc' := 2) (L' := [.ref 73, .int a1, .int a2, .int a3, .retAddr 0, .retAddr 0, .retAddr 0]) (S' := [.int a1, .ref 73]) (σ' := (97, I, J, R)) rfl ?_
  cases hx_2 : rs_M_isAw I a1 with
  | none => rw [hx_2] at h; cases h
  | some x_1 =>
    rw [hx_2] at h
    dsimp only at h
    refine az_E.call (d := 124) (k' := 164) (vs := [.ref 73, .int a1]) (pc' := 5) (S' := []) (Q1 := fun v s => v = some (.int x_1) ∧ s = (97, I, J, R)) rfl (az_E.deep (by omega) (re_M_isAw (J := J) (R := R)  hx_2 ⟨rfl, rfl⟩)) (fun v s hq => ?_)
    obtain ⟨rfl, rfl⟩ := hq
    show az_E az_F ex 125 215 5 [.ref 73, .int a1, .int a2, .int a3, .retAddr 0, .retAddr 0, .retAddr 0] [.int x_1] (97, I, J, R) _
    refine az_E.br (c := x_1 = 0) (tt := 25) (ff := 8) (L' := [.ref 73, .int a1, .int a2, .int a3, .retAddr 0, .retAddr 0, .retAddr 0]) (S' := []) (σ' := (97, I, J, R)) rfl (fun hc_3 => ?_) (fun hc_3 => ?_)
    · rw [if_pos hc_3] at h
      refine az_E.sn 1 (pc' := 27) (L' := [.ref 73, .int a1, .int a2, .int a3, .retAddr 0, .retAddr 0, .retAddr 0]) (S' := [.int (-2000000000 : Int32)]) (σ' := (97, I, J, R)) rfl ?_
      have h := Option.some.inj h
      subst h
      exact az_E.ret (v := some (.int (-2000000000 : Int32))) (σ' := (97, I, J, R)) rfl hQ
    · rw [if_neg hc_3] at h
      refine az_E.sn 1 (pc' := 9) (L' := [.ref 73, .int a1, .int a2, .int a3, .retAddr 0, .retAddr 0, .retAddr 0]) (S' := [.int a2]) (σ' := (97, I, J, R)) rfl ?_
      refine az_E.call (d := 124) (k' := 213) (vs := [.int a2]) (pc' := 12) (S' := []) rfl ?_ (fun _ _ hq => hq)
      show az_E az_F ex 124 213 0 [.int a2] [] (97, I, J, R) _
      refine az_E.sn 4 (pc' := 6) (L' := [.int a2]) (S' := [.long (9999 : Int64), .long (0 : Int64), .long a2.toInt64]) (σ' := (97, I, J, R)) rfl ?_
      refine az_E.call (d := 123) (k' := 154) (vs := [.long a2.toInt64, .long (0 : Int64), .long (9999 : Int64)]) (pc' := 9) (S' := []) rfl ?_ (fun _ _ hq => hq)
      show az_E az_F ex 123 154 0 [.long a2.toInt64, .retAddr 0, .long (0 : Int64), .retAddr 0, .long (9999 : Int64), .retAddr 0] [] (97, I, J, R) _
      refine az_E.sn 3 (pc' := 3) (L' := [.long a2.toInt64, .retAddr 0, .long (0 : Int64), .retAddr 0, .long (9999 : Int64), .retAddr 0]) (S' := [.int (lg_cmp a2.toInt64 (0 : Int64))]) (σ' := (97, I, J, R)) rfl ?_
      refine az_E.br (c := (lg_cmp a2.toInt64 (0 : Int64)) < 0) (tt := 17) (ff := 6) (L' := [.long a2.toInt64, .retAddr 0, .long (0 : Int64), .retAddr 0, .long (9999 : Int64), .retAddr 0]) (S' := []) (σ' := (97, I, J, R)) rfl (fun hc_4 => ?_) (fun hc_4 => ?_)
      · rw [if_pos hc_4] at h
        refine az_E.sn 1 (pc' := 18) (L' := [.long a2.toInt64, .retAddr 0, .long (0 : Int64), .retAddr 0, .long (9999 : Int64), .retAddr 0]) (S' := [.int (0 : Int32)]) (σ' := (97, I, J, R)) rfl ?_
        refine az_E.ret (v := some (.int (0 : Int32))) (σ' := (97, I, J, R)) rfl ?_
        show az_E az_F ex 124 213 9 [.int a2] [.int (0 : Int32)] (97, I, J, R) _
        refine az_E.ret (v := some (.int (0 : Int32))) (σ' := (97, I, J, R)) rfl ?_
        show az_E az_F ex 125 215 12 [.ref 73, .int a1, .int a2, .int a3, .retAddr 0, .retAddr 0, .retAddr 0] [.int (0 : Int32)] (97, I, J, R) _
        refine az_E.br (c := (0 : Int32) = 0) (tt := 25) (ff := 15) (L' := [.ref 73, .int a1, .int a2, .int a3, .retAddr 0, .retAddr 0, .retAddr 0]) (S' := []) (σ' := (97, I, J, R)) rfl (fun _ => ?_) (fun hn => absurd (by decide) hn)
        refine az_E.sn 1 (pc' := 27) (L' := [.ref 73, .int a1, .int a2, .int a3, .retAddr 0, .retAddr 0, .retAddr 0]) (S' := [.int (-2000000000 : Int32)]) (σ' := (97, I, J, R)) rfl ?_
        have h := Option.some.inj h
        subst h
        exact az_E.ret (v := some (.int (-2000000000 : Int32))) (σ' := (97, I, J, R)) rfl hQ
      · rw [if_neg hc_4] at h
        refine az_E.sn 3 (pc' := 10) (L' := [.long a2.toInt64, .retAddr 0, .long (0 : Int64), .retAddr 0, .long (9999 : Int64), .retAddr 0]) (S' := [.int (lg_cmp a2.toInt64 (9999 : Int64))]) (σ' := (97, I, J, R)) rfl ?_
        refine az_E.br (c := 0 < (lg_cmp a2.toInt64 (9999 : Int64))) (tt := 17) (ff := 13) (L' := [.long a2.toInt64, .retAddr 0, .long (0 : Int64), .retAddr 0, .long (9999 : Int64), .retAddr 0]) (S' := []) (σ' := (97, I, J, R)) rfl (fun hc_5 => ?_) (fun hc_5 => ?_)
        · rw [if_pos hc_5] at h
          refine az_E.sn 1 (pc' := 18) (L' := [.long a2.toInt64, .retAddr 0, .long (0 : Int64), .retAddr 0, .long (9999 : Int64), .retAddr 0]) (S' := [.int (0 : Int32)]) (σ' := (97, I, J, R)) rfl ?_
          refine az_E.ret (v := some (.int (0 : Int32))) (σ' := (97, I, J, R)) rfl ?_
          show az_E az_F ex 124 213 9 [.int a2] [.int (0 : Int32)] (97, I, J, R) _
          refine az_E.ret (v := some (.int (0 : Int32))) (σ' := (97, I, J, R)) rfl ?_
          show az_E az_F ex 125 215 12 [.ref 73, .int a1, .int a2, .int a3, .retAddr 0, .retAddr 0, .retAddr 0] [.int (0 : Int32)] (97, I, J, R) _
          refine az_E.br (c := (0 : Int32) = 0) (tt := 25) (ff := 15) (L' := [.ref 73, .int a1, .int a2, .int a3, .retAddr 0, .retAddr 0, .retAddr 0]) (S' := []) (σ' := (97, I, J, R)) rfl (fun _ => ?_) (fun hn => absurd (by decide) hn)
          refine az_E.sn 1 (pc' := 27) (L' := [.ref 73, .int a1, .int a2, .int a3, .retAddr 0, .retAddr 0, .retAddr 0]) (S' := [.int (-2000000000 : Int32)]) (σ' := (97, I, J, R)) rfl ?_
          have h := Option.some.inj h
          subst h
          exact az_E.ret (v := some (.int (-2000000000 : Int32))) (σ' := (97, I, J, R)) rfl hQ
        · rw [if_neg hc_5] at h
          refine az_E.sn 2 (pc' := 18) (L' := [.long a2.toInt64, .retAddr 0, .long (0 : Int64), .retAddr 0, .long (9999 : Int64), .retAddr 0]) (S' := [.int (1 : Int32)]) (σ' := (97, I, J, R)) rfl ?_
          refine az_E.ret (v := some (.int (1 : Int32))) (σ' := (97, I, J, R)) rfl ?_
          show az_E az_F ex 124 213 9 [.int a2] [.int (1 : Int32)] (97, I, J, R) _
          refine az_E.ret (v := some (.int (1 : Int32))) (σ' := (97, I, J, R)) rfl ?_
          show az_E az_F ex 125 215 12 [.ref 73, .int a1, .int a2, .int a3, .retAddr 0, .retAddr 0, .retAddr 0] [.int (1 : Int32)] (97, I, J, R) _
          refine az_E.br (c := (1 : Int32) = 0) (tt := 25) (ff := 15) (L' := [.ref 73, .int a1, .int a2, .int a3, .retAddr 0, .retAddr 0, .retAddr 0]) (S' := []) (σ' := (97, I, J, R)) rfl (fun hn => absurd hn (by decide)) (fun _ => ?_)
          refine az_E.sn 4 (pc' := 19) (L' := [.ref 73, .int a1, .int a2, .int a3, .retAddr 0, .retAddr 0, .retAddr 0]) (S' := [.long (1 : Int64), .long (0 : Int64), .long a3.toInt64]) (σ' := (97, I, J, R)) rfl ?_
          refine az_E.call (d := 124) (k' := 154) (vs := [.long a3.toInt64, .long (0 : Int64), .long (1 : Int64)]) (pc' := 22) (S' := []) rfl ?_ (fun _ _ hq => hq)
          show az_E az_F ex 124 154 0 [.long a3.toInt64, .retAddr 0, .long (0 : Int64), .retAddr 0, .long (1 : Int64), .retAddr 0] [] (97, I, J, R) _
          refine az_E.sn 3 (pc' := 3) (L' := [.long a3.toInt64, .retAddr 0, .long (0 : Int64), .retAddr 0, .long (1 : Int64), .retAddr 0]) (S' := [.int (lg_cmp a3.toInt64 (0 : Int64))]) (σ' := (97, I, J, R)) rfl ?_
          refine az_E.br (c := (lg_cmp a3.toInt64 (0 : Int64)) < 0) (tt := 17) (ff := 6) (L' := [.long a3.toInt64, .retAddr 0, .long (0 : Int64), .retAddr 0, .long (1 : Int64), .retAddr 0]) (S' := []) (σ' := (97, I, J, R)) rfl (fun hc_6 => ?_) (fun hc_6 => ?_)
          · rw [if_pos hc_6] at h
            refine az_E.sn 1 (pc' := 18) (L' := [.long a3.toInt64, .retAddr 0, .long (0 : Int64), .retAddr 0, .long (1 : Int64), .retAddr 0]) (S' := [.int (0 : Int32)]) (σ' := (97, I, J, R)) rfl ?_
            refine az_E.ret (v := some (.int (0 : Int32))) (σ' := (97, I, J, R)) rfl ?_
            show az_E az_F ex 125 215 22 [.ref 73, .int a1, .int a2, .int a3, .retAddr 0, .retAddr 0, .retAddr 0] [.int (0 : Int32)] (97, I, J, R) _
            refine az_E.br (c := (0 : Int32) = 0) (tt := 25) (ff := 28) (L' := [.ref 73, .int a1, .int a2, .int a3, .retAddr 0, .retAddr 0, .retAddr 0]) (S' := []) (σ' := (97, I, J, R)) rfl (fun _ => ?_) (fun hn => absurd (by decide) hn)
            refine az_E.sn 1 (pc' := 27) (L' := [.ref 73, .int a1, .int a2, .int a3, .retAddr 0, .retAddr 0, .retAddr 0]) (S' := [.int (-2000000000 : Int32)]) (σ' := (97, I, J, R)) rfl ?_
            have h := Option.some.inj h
            subst h
            exact az_E.ret (v := some (.int (-2000000000 : Int32))) (σ' := (97, I, J, R)) rfl hQ
          · rw [if_neg hc_6] at h
            refine az_E.sn 3 (pc' := 10) (L' := [.long a3.toInt64, .retAddr 0, .long (0 : Int64), .retAddr 0, .long (1 : Int64), .retAddr 0]) (S' := [.int (lg_cmp a3.toInt64 (1 : Int64))]) (σ' := (97, I, J, R)) rfl ?_
            refine az_E.br (c := 0 < (lg_cmp a3.toInt64 (1 : Int64))) (tt := 17) (ff := 13) (L' := [.long a3.toInt64, .retAddr 0, .long (0 : Int64), .retAddr 0, .long (1 : Int64), .retAddr 0]) (S' := []) (σ' := (97, I, J, R)) rfl (fun hc_7 => ?_) (fun hc_7 => ?_)
            · rw [if_pos hc_7] at h
              refine az_E.sn 1 (pc' := 18) (L' := [.long a3.toInt64, .retAddr 0, .long (0 : Int64), .retAddr 0, .long (1 : Int64), .retAddr 0]) (S' := [.int (0 : Int32)]) (σ' := (97, I, J, R)) rfl ?_
              refine az_E.ret (v := some (.int (0 : Int32))) (σ' := (97, I, J, R)) rfl ?_
              show az_E az_F ex 125 215 22 [.ref 73, .int a1, .int a2, .int a3, .retAddr 0, .retAddr 0, .retAddr 0] [.int (0 : Int32)] (97, I, J, R) _
              refine az_E.br (c := (0 : Int32) = 0) (tt := 25) (ff := 28) (L' := [.ref 73, .int a1, .int a2, .int a3, .retAddr 0, .retAddr 0, .retAddr 0]) (S' := []) (σ' := (97, I, J, R)) rfl (fun _ => ?_) (fun hn => absurd (by decide) hn)
              refine az_E.sn 1 (pc' := 27) (L' := [.ref 73, .int a1, .int a2, .int a3, .retAddr 0, .retAddr 0, .retAddr 0]) (S' := [.int (-2000000000 : Int32)]) (σ' := (97, I, J, R)) rfl ?_
              have h := Option.some.inj h
              subst h
              exact az_E.ret (v := some (.int (-2000000000 : Int32))) (σ' := (97, I, J, R)) rfl hQ
            · rw [if_neg hc_7] at h
              refine az_E.sn 2 (pc' := 18) (L' := [.long a3.toInt64, .retAddr 0, .long (0 : Int64), .retAddr 0, .long (1 : Int64), .retAddr 0]) (S' := [.int (1 : Int32)]) (σ' := (97, I, J, R)) rfl ?_
              refine az_E.ret (v := some (.int (1 : Int32))) (σ' := (97, I, J, R)) rfl ?_
              show az_E az_F ex 125 215 22 [.ref 73, .int a1, .int a2, .int a3, .retAddr 0, .retAddr 0, .retAddr 0] [.int (1 : Int32)] (97, I, J, R) _
              refine az_E.br (c := (1 : Int32) = 0) (tt := 25) (ff := 28) (L' := [.ref 73, .int a1, .int a2, .int a3, .retAddr 0, .retAddr 0, .retAddr 0]) (S' := []) (σ' := (97, I, J, R)) rfl (fun hn => absurd hn (by decide)) (fun _ => ?_)
              refine az_E.sn 6 (pc' := 39) (L' := [.ref 73, .int a1, .int a2, .int a3, .int (0 : Int32), .int (-99 : Int32), .int (-9 : Int32)]) (S' := []) (σ' := (97, I, J, R)) rfl ?_
              exact az_E.forget (L := [.ref 73, .int a1, .int a2, .int a3, .int (0 : Int32), .int (-99 : Int32), .int (-9 : Int32)]) ⟨rfl, rfl, rfl, rfl, rfl, rfl, rfl, trivial⟩ (re_M_hearts_39 (I := I) (J := J) (R := R)  h hQ)
set_option maxRecDepth 100000 in
set_option maxHeartbeats 4000000 in
theorem re_Pa_withHeartAndLoad_26_16 {ex : az_X} {I : Nat → Nat → Int32} {J : Nat → Nat → Int64} {R : Nat → Nat → Option Nat} {a1 : Int32} {a2 : Int32} (hR_26_2 : R 26 2 = some 16) {o : (Nat → Nat → Int32)} (h : rs_Pa_withHeartAndLoad 26 16 I a1 a2 = some o) {Q : Option Value → az_S → Prop} (hQ : Q none (97, o, J, R)) : az_E az_F ex 4 46 0 [.ref 26, .int a1, .int a2] [] (97, I, J, R) Q := by
  unfold rs_Pa_withHeartAndLoad at h
  refine az_E.sn 7 (pc' := 11) (L' := [.ref 26, .int a1, .int a2]) (S' := [.ref 26]) (σ' := (97, (az_u (az_u I 26 4 a1) 26 5 a2), J, R)) rfl ?_
  cases hx_2 : rs_Pa_fill 26 16 (az_u (az_u I 26 4 a1) 26 5 a2) with
  | none => rw [hx_2] at h; cases h
  | some I_1 =>
    rw [hx_2] at h
    dsimp only at h
    refine az_E.call (d := 3) (k' := 50) (vs := [.ref 26]) (pc' := 14) (S' := []) (Q1 := fun v s => v = none ∧ s = (97, I_1, J, R)) rfl (az_E.deep (by omega) (re_Pa_fill_26_16 (J := J) (R := R) hR_26_2 hx_2 ⟨rfl, rfl⟩)) (fun v s hq => ?_)
    obtain ⟨rfl, rfl⟩ := hq
    show az_E az_F ex 4 46 14 [.ref 26, .int a1, .int a2] [] (97, I_1, J, R) _
    have h := Option.some.inj h
    subst h
    exact az_E.ret (v := none) (σ' := (97, I_1, J, R)) rfl hQ
set_option maxRecDepth 100000 in
set_option maxHeartbeats 4000000 in
theorem re_X_pairs_45_b_16_21 {ex : az_X} {I : Nat → Nat → Int32} {J : Nat → Nat → Int64} {R : Nat → Nat → Option Nat} {v1 : Int32} {v2 : Int32} {v3 : Int32} {v4 : Int32} {v5 : Int32} (hR_3_2 : R 3 2 = some 16) (hR_3_3 : R 3 3 = some 21) {x : ((Int32 × Int32 × (Nat → Nat → Int32)) ⊕ (((Int32 × Int32 × (Nat → Nat → Int32)) ⊕ (Int32 × (Nat → Nat → Int32)))))} (h : rs_X_pairs_45_b 21 16 v1 v2 v4 v3 v5 I = some x) {Q : Option Value → az_S → Prop} (hQ : Sum.elim (fun s => az_E az_F ex 6 103 45 [.ref 3, .int v1, .int v2, .int s.1, .int v4, .int s.2.1] [] (97, s.2.2, J, (az_u (az_u R 26 2 (some 16)) 26 3 (some 5))) Q) (fun x => Sum.elim (fun s => az_E az_F ex 6 103 35 [.ref 3, .int v1, .int v2, .int s.1, .int s.2.1, .retAddr 0] [] (97, s.2.2, J, (az_u (az_u R 26 2 (some 16)) 26 3 (some 5))) Q) (fun x => ∀ R' : Nat → Nat → Option Nat, R' 3 2 = some 16 → R' 3 3 = some 21 → Q (some (.int x.1)) (97, x.2, J, R')) x) x) : az_E az_F ex 6 103 45 [.ref 3, .int v1, .int v2, .int v3, .int v4, .int v5] [] (97, I, J, (az_u (az_u R 26 2 (some 16)) 26 3 (some 5))) Q := by
  unfold rs_X_pairs_45_b at h
  refine az_E.sn 2 (pc' := 49) (L' := [.ref 3, .int v1, .int v2, .int v3, .int v4, .int v5]) (S' := [.int (9 : Int32), .int v5]) (σ' := (97, I, J, (az_u (az_u R 26 2 (some 16)) 26 3 (some 5)))) rfl ?_
  refine az_E.br (c := (9 : Int32) < v5) (tt := 84) (ff := 52) (L' := [.ref 3, .int v1, .int v2, .int v3, .int v4, .int v5]) (S' := []) (σ' := (97, I, J, (az_u (az_u R 26 2 (some 16)) 26 3 (some 5)))) rfl (fun hc_13 => ?_) (fun hc_13 => ?_)
  · rw [if_pos hc_13] at h
    refine az_E.sn 2 (pc' := 35) (L' := [.ref 3, .int v1, .int v2, .int v3, .int (v4 + (1 : Int32)), .int v5]) (S' := []) (σ' := (97, I, J, (az_u (az_u R 26 2 (some 16)) 26 3 (some 5)))) rfl ?_
    have h := Option.some.inj h
    subst h
    exact az_E.forget (L := [.ref 3, .int v1, .int v2, .int v3, .int (v4 + (1 : Int32)), .retAddr 0]) ⟨rfl, rfl, rfl, rfl, rfl, trivial, trivial⟩ hQ
  · rw [if_neg hc_13] at h
    refine az_E.sn 4 (pc' := 60) (L' := [.ref 3, .int v1, .int v2, .int v3, .int v4, .int v5]) (S' := [.int v5, .int v4, .ref 26]) (σ' := (97, I, J, (az_u (az_u R 26 2 (some 16)) 26 3 (some 5)))) rfl ?_
    cases hx_15 : rs_Pa_withHeartAndLoad 26 16 I v4 v5 with
    | none => rw [hx_15] at h; cases h
    | some I_14 =>
      rw [hx_15] at h
      dsimp only at h
      refine az_E.call (d := 5) (k' := 46) (vs := [.ref 26, .int v4, .int v5]) (pc' := 63) (S' := []) (Q1 := fun v s => v = none ∧ s = (97, I_14, J, (az_u (az_u R 26 2 (some 16)) 26 3 (some 5)))) rfl (az_E.deep (by omega) (re_Pa_withHeartAndLoad_26_16 (J := J) (R := (az_u (az_u R 26 2 (some 16)) 26 3 (some 5))) rfl hx_15 ⟨rfl, rfl⟩)) (fun v s hq => ?_)
      obtain ⟨rfl, rfl⟩ := hq
      show az_E az_F ex 6 103 63 [.ref 3, .int v1, .int v2, .int v3, .int v4, .int v5] [] (97, I_14, J, (az_u (az_u R 26 2 (some 16)) 26 3 (some 5))) _
      refine az_E.sn 3 (pc' := 67) (L' := [.ref 3, .int v1, .int v2, .int v3, .int v4, .int v5]) (S' := [.int (10 : Int32), .int v1, .ref 3]) (σ' := (97, I_14, J, (az_u (az_u R 26 2 (some 16)) 26 3 (some 5)))) rfl ?_
      have hd_16 : ¬ ((10 : Int32) = 0) := by decide
      refine az_E.dv (c := (10 : Int32) = 0) (pc' := 68) (L' := [.ref 3, .int v1, .int v2, .int v3, .int v4, .int v5]) (S' := [.int (v1 / (10 : Int32)), .ref 3]) (σ' := (97, I_14, J, (az_u (az_u R 26 2 (some 16)) 26 3 (some 5)))) rfl hd_16 ?_
      cases hx_19 : rs_X_armAt I_14 (v1 / (10 : Int32)) with
      | none => rw [hx_19] at h; cases h
      | some o =>
        rw [hx_19] at h
        obtain ⟨x_17, I_18⟩ := o
        dsimp only at h
        refine az_E.call (d := 5) (k' := 146) (vs := [.ref 3, .int (v1 / (10 : Int32))]) (pc' := 71) (S' := []) (Q1 := fun v s => v = some (.int x_17) ∧ s = (97, I_18, J, (az_u (az_u R 26 2 (some 16)) 26 3 (some 5)))) rfl (az_E.deep (by omega) (re_X_armAt_5 (J := J) (R := (az_u (az_u R 26 2 (some 16)) 26 3 (some 5))) rfl hx_19 ⟨rfl, rfl⟩)) (fun v s hq => ?_)
        obtain ⟨rfl, rfl⟩ := hq
        show az_E az_F ex 6 103 71 [.ref 3, .int v1, .int v2, .int v3, .int v4, .int v5] [.int x_17] (97, I_18, J, (az_u (az_u R 26 2 (some 16)) 26 3 (some 5))) _
        refine az_E.sn 1 (pc' := 72) (L' := [.ref 3, .int v1, .int v2, .int v3, .int v4, .int v5]) (S' := [.int v2, .int x_17]) (σ' := (97, I_18, J, (az_u (az_u R 26 2 (some 16)) 26 3 (some 5)))) rfl ?_
        refine az_E.br (c := x_17 = v2) (tt := 75) (ff := 78) (L' := [.ref 3, .int v1, .int v2, .int v3, .int v4, .int v5]) (S' := []) (σ' := (97, I_18, J, (az_u (az_u R 26 2 (some 16)) 26 3 (some 5)))) rfl (fun hc_20 => ?_) (fun hc_20 => ?_)
        · rw [if_pos hc_20] at h
          refine az_E.sn 3 (pc' := 45) (L' := [.ref 3, .int v1, .int v2, .int (v3 + (1 : Int32)), .int v4, .int (v5 + (1 : Int32))]) (S' := []) (σ' := (97, I_18, J, (az_u (az_u R 26 2 (some 16)) 26 3 (some 5)))) rfl ?_
          have h := Option.some.inj h
          subst h
          exact az_E.forget (L := [.ref 3, .int v1, .int v2, .int (v3 + (1 : Int32)), .int v4, .int (v5 + (1 : Int32))]) ⟨rfl, rfl, rfl, rfl, rfl, rfl, trivial⟩ hQ
        · rw [if_neg hc_20] at h
          refine az_E.sn 2 (pc' := 45) (L' := [.ref 3, .int v1, .int v2, .int v3, .int v4, .int (v5 + (1 : Int32))]) (S' := []) (σ' := (97, I_18, J, (az_u (az_u R 26 2 (some 16)) 26 3 (some 5)))) rfl ?_
          have h := Option.some.inj h
          subst h
          exact az_E.forget (L := [.ref 3, .int v1, .int v2, .int v3, .int v4, .int (v5 + (1 : Int32))]) ⟨rfl, rfl, rfl, rfl, rfl, rfl, trivial⟩ hQ
set_option maxRecDepth 100000 in
set_option maxHeartbeats 4000000 in
theorem re_X_pairs_45_16_21 {ex : az_X} {I : Nat → Nat → Int32} {J : Nat → Nat → Int64} {R : Nat → Nat → Option Nat} {v1 : Int32} {v2 : Int32} {v3 : Int32} {v4 : Int32} {v5 : Int32} (hR_3_2 : R 3 2 = some 16) (hR_3_3 : R 3 3 = some 21) {x : ((Int32 × Int32 × (Nat → Nat → Int32)) ⊕ (Int32 × (Nat → Nat → Int32)))} (h : rs_X_pairs_45 21 16 I v1 v2 v3 v4 v5 = some x) {Q : Option Value → az_S → Prop} (hQ : Sum.elim (fun s => az_E az_F ex 6 103 35 [.ref 3, .int v1, .int v2, .int s.1, .int s.2.1, .retAddr 0] [] (97, s.2.2, J, (az_u (az_u R 26 2 (some 16)) 26 3 (some 5))) Q) (fun x => ∀ R' : Nat → Nat → Option Nat, R' 3 2 = some 16 → R' 3 3 = some 21 → Q (some (.int x.1)) (97, x.2, J, R')) x) : az_E az_F ex 6 103 45 [.ref 3, .int v1, .int v2, .int v3, .int v4, .int v5] [] (97, I, J, (az_u (az_u R 26 2 (some 16)) 26 3 (some 5))) Q := by
  unfold rs_X_pairs_45 at h
  refine az_lp_E (G := fun s => az_E az_F ex 6 103 45 [.ref 3, .int v1, .int v2, .int s.1, .int v4, .int s.2.1] [] (97, s.2.2, J, (az_u (az_u R 26 2 (some 16)) 26 3 (some 5))) Q) (H := fun x => Sum.elim (fun s => az_E az_F ex 6 103 35 [.ref 3, .int v1, .int v2, .int s.1, .int s.2.1, .retAddr 0] [] (97, s.2.2, J, (az_u (az_u R 26 2 (some 16)) 26 3 (some 5))) Q) (fun x => ∀ R' : Nat → Nat → Option Nat, R' 3 2 = some 16 → R' 3 3 = some 21 → Q (some (.int x.1)) (97, x.2, J, R')) x) (fun s o hb ho => ?_) _ _ _ h hQ
  exact re_X_pairs_45_b_16_21 hR_3_2 hR_3_3 hb ho
set_option maxRecDepth 100000 in
set_option maxHeartbeats 4000000 in
theorem re_X_pairs_35_b_16_21 {ex : az_X} {I : Nat → Nat → Int32} {J : Nat → Nat → Int64} {R : Nat → Nat → Option Nat} {v1 : Int32} {v2 : Int32} {v3 : Int32} {v4 : Int32} (hR_3_2 : R 3 2 = some 16) (hR_3_3 : R 3 3 = some 21) {x : ((Int32 × Int32 × (Nat → Nat → Int32)) ⊕ (Int32 × (Nat → Nat → Int32)))} (h : rs_X_pairs_35_b 21 16 v1 v2 v3 v4 I = some x) {Q : Option Value → az_S → Prop} (hQ : Sum.elim (fun s => az_E az_F ex 6 103 35 [.ref 3, .int v1, .int v2, .int s.1, .int s.2.1, .retAddr 0] [] (97, s.2.2, J, (az_u (az_u R 26 2 (some 16)) 26 3 (some 5))) Q) (fun x => ∀ R' : Nat → Nat → Option Nat, R' 3 2 = some 16 → R' 3 3 = some 21 → Q (some (.int x.1)) (97, x.2, J, R')) x) : az_E az_F ex 6 103 35 [.ref 3, .int v1, .int v2, .int v3, .int v4, .retAddr 0] [] (97, I, J, (az_u (az_u R 26 2 (some 16)) 26 3 (some 5))) Q := by
  unfold rs_X_pairs_35_b at h
  refine az_E.sn 2 (pc' := 39) (L' := [.ref 3, .int v1, .int v2, .int v3, .int v4, .retAddr 0]) (S' := [.int (9 : Int32), .int v4]) (σ' := (97, I, J, (az_u (az_u R 26 2 (some 16)) 26 3 (some 5)))) rfl ?_
  refine az_E.br (c := (9 : Int32) < v4) (tt := 90) (ff := 42) (L' := [.ref 3, .int v1, .int v2, .int v3, .int v4, .retAddr 0]) (S' := []) (σ' := (97, I, J, (az_u (az_u R 26 2 (some 16)) 26 3 (some 5)))) rfl (fun hc_12 => ?_) (fun hc_12 => ?_)
  · rw [if_pos hc_12] at h
    refine az_E.sn 1 (pc' := 91) (L' := [.ref 3, .int v1, .int v2, .int v3, .int v4, .retAddr 0]) (S' := [.int v3]) (σ' := (97, I, J, (az_u (az_u R 26 2 (some 16)) 26 3 (some 5)))) rfl ?_
    have h := Option.some.inj h
    subst h
    try simp only [Sum.elim_inl, Sum.elim_inr] at hQ
    exact az_E.ret (v := some (.int v3)) (σ' := (97, I, J, (az_u (az_u R 26 2 (some 16)) 26 3 (some 5)))) rfl (hQ _ hR_3_2 hR_3_3)
  · rw [if_neg hc_12] at h
    refine az_E.sn 2 (pc' := 45) (L' := [.ref 3, .int v1, .int v2, .int v3, .int v4, .int (0 : Int32)]) (S' := []) (σ' := (97, I, J, (az_u (az_u R 26 2 (some 16)) 26 3 (some 5)))) rfl ?_
    exact az_E.forget (L := [.ref 3, .int v1, .int v2, .int v3, .int v4, .int (0 : Int32)]) ⟨rfl, rfl, rfl, rfl, rfl, rfl, trivial⟩ (re_X_pairs_45_16_21 (I := I) (J := J) (R := R) hR_3_2 hR_3_3 h hQ)
set_option maxRecDepth 100000 in
set_option maxHeartbeats 4000000 in
theorem re_X_pairs_35_16_21 {ex : az_X} {I : Nat → Nat → Int32} {J : Nat → Nat → Int64} {R : Nat → Nat → Option Nat} {v1 : Int32} {v2 : Int32} {v3 : Int32} {v4 : Int32} (hR_3_2 : R 3 2 = some 16) (hR_3_3 : R 3 3 = some 21) {x : Int32 × (Nat → Nat → Int32)} (h : rs_X_pairs_35 21 16 I v1 v2 v3 v4 = some x) {Q : Option Value → az_S → Prop} (hQ : ∀ R' : Nat → Nat → Option Nat, R' 3 2 = some 16 → R' 3 3 = some 21 → Q (some (.int x.1)) (97, x.2, J, R')) : az_E az_F ex 6 103 35 [.ref 3, .int v1, .int v2, .int v3, .int v4, .retAddr 0] [] (97, I, J, (az_u (az_u R 26 2 (some 16)) 26 3 (some 5))) Q := by
  unfold rs_X_pairs_35 at h
  refine az_lp_E (G := fun s => az_E az_F ex 6 103 35 [.ref 3, .int v1, .int v2, .int s.1, .int s.2.1, .retAddr 0] [] (97, s.2.2, J, (az_u (az_u R 26 2 (some 16)) 26 3 (some 5))) Q) (H := fun x => ∀ R' : Nat → Nat → Option Nat, R' 3 2 = some 16 → R' 3 3 = some 21 → Q (some (.int x.1)) (97, x.2, J, R')) (fun s o hb ho => ?_) _ _ _ h hQ
  exact re_X_pairs_35_b_16_21 hR_3_2 hR_3_3 hb ho
set_option maxRecDepth 100000 in
set_option maxHeartbeats 4000000 in
theorem re_X_pairs_16_21 {ex : az_X} {I : Nat → Nat → Int32} {J : Nat → Nat → Int64} {R : Nat → Nat → Option Nat} {a1 : Int32} {a2 : Int32} (hR_3_2 : R 3 2 = some 16) (hR_3_3 : R 3 3 = some 21) {o : Int32 × (Nat → Nat → Int32)} (h : rs_X_pairs 21 16 I a1 a2 = some o) {Q : Option Value → az_S → Prop} (hQ : ∀ R' : Nat → Nat → Option Nat, R' 3 2 = some 16 → R' 3 3 = some 21 → Q (some (.int o.1)) (97, o.2, J, R')) : az_E az_F ex 6 103 0 [.ref 3, .int a1, .int a2, .retAddr 0, .retAddr 0, .retAddr 0] [] (97, I, J, R) Q := by
  unfold rs_X_pairs at h
  refine az_E.sn 2 (pc' := 2) (L' := [.ref 3, .int a1, .int a2, .retAddr 0, .retAddr 0, .retAddr 0]) (S' := [.int a1, .ref 3]) (σ' := (97, I, J, R)) rfl ?_
  refine az_E.call (d := 5) (k' := 139) (vs := [.ref 3, .int a1]) (pc' := 5) (S' := []) rfl ?_ (fun _ _ hq => hq)
  show az_E az_F ex 5 139 0 [.ref 3, .int a1] [] (97, I, J, R) _
  refine az_E.sn 1 (pc' := 1) (L' := [.ref 3, .int a1]) (S' := [.int a1]) (σ' := (97, I, J, R)) rfl ?_
  refine az_E.br (c := a1 < 0) (tt := 33) (ff := 4) (L' := [.ref 3, .int a1]) (S' := []) (σ' := (97, I, J, R)) rfl (fun hc_1 => ?_) (fun hc_1 => ?_)
  · rw [if_pos hc_1] at h
    refine az_E.sn 1 (pc' := 34) (L' := [.ref 3, .int a1]) (S' := [.int (0 : Int32)]) (σ' := (97, I, J, R)) rfl ?_
    refine az_E.ret (v := some (.int (0 : Int32))) (σ' := (97, I, J, R)) rfl ?_
    show az_E az_F ex 6 103 5 [.ref 3, .int a1, .int a2, .retAddr 0, .retAddr 0, .retAddr 0] [.int (0 : Int32)] (97, I, J, R) _
    refine az_E.br (c := (0 : Int32) = 0) (tt := 19) (ff := 8) (L' := [.ref 3, .int a1, .int a2, .retAddr 0, .retAddr 0, .retAddr 0]) (S' := []) (σ' := (97, I, J, R)) rfl (fun _ => ?_) (fun hn => absurd (by decide) hn)
    refine az_E.sn 1 (pc' := 20) (L' := [.ref 3, .int a1, .int a2, .retAddr 0, .retAddr 0, .retAddr 0]) (S' := [.int (-1 : Int32)]) (σ' := (97, I, J, R)) rfl ?_
    have h := Option.some.inj h
    subst h
    exact az_E.ret (v := some (.int (-1 : Int32))) (σ' := (97, I, J, R)) rfl (hQ _ hR_3_2 hR_3_3)
  · rw [if_neg hc_1] at h
    refine az_E.sn 2 (pc' := 7) (L' := [.ref 3, .int a1]) (S' := [.int (10 : Int32), .int a1]) (σ' := (97, I, J, R)) rfl ?_
    have hd_2 : ¬ ((10 : Int32) = 0) := by decide
    refine az_E.dv (c := (10 : Int32) = 0) (pc' := 8) (L' := [.ref 3, .int a1]) (S' := [.int (a1 / (10 : Int32))]) (σ' := (97, I, J, R)) rfl hd_2 ?_
    refine az_E.sn 3 (pc' := 15) (L' := [.ref 3, .int a1]) (S' := [.int (I 4 3), .int (a1 / (10 : Int32))]) (σ' := (97, I, J, R)) rfl ?_
    refine az_E.br (c := (I 4 3) ≤ (a1 / (10 : Int32))) (tt := 33) (ff := 18) (L' := [.ref 3, .int a1]) (S' := []) (σ' := (97, I, J, R)) rfl (fun hc_3 => ?_) (fun hc_3 => ?_)
    · rw [if_pos hc_3] at h
      refine az_E.sn 1 (pc' := 34) (L' := [.ref 3, .int a1]) (S' := [.int (0 : Int32)]) (σ' := (97, I, J, R)) rfl ?_
      refine az_E.ret (v := some (.int (0 : Int32))) (σ' := (97, I, J, R)) rfl ?_
      show az_E az_F ex 6 103 5 [.ref 3, .int a1, .int a2, .retAddr 0, .retAddr 0, .retAddr 0] [.int (0 : Int32)] (97, I, J, R) _
      refine az_E.br (c := (0 : Int32) = 0) (tt := 19) (ff := 8) (L' := [.ref 3, .int a1, .int a2, .retAddr 0, .retAddr 0, .retAddr 0]) (S' := []) (σ' := (97, I, J, R)) rfl (fun _ => ?_) (fun hn => absurd (by decide) hn)
      refine az_E.sn 1 (pc' := 20) (L' := [.ref 3, .int a1, .int a2, .retAddr 0, .retAddr 0, .retAddr 0]) (S' := [.int (-1 : Int32)]) (σ' := (97, I, J, R)) rfl ?_
      have h := Option.some.inj h
      subst h
      exact az_E.ret (v := some (.int (-1 : Int32))) (σ' := (97, I, J, R)) rfl (hQ _ hR_3_2 hR_3_3)
    · rw [if_neg hc_3] at h
      refine az_E.sn 3 (pc' := 22) (L' := [.ref 3, .int a1]) (S' := [.int (10 : Int32), .int a1, .ref 3]) (σ' := (97, I, J, R)) rfl ?_
      have hd_4 : ¬ ((10 : Int32) = 0) := by decide
      refine az_E.dv (c := (10 : Int32) = 0) (pc' := 23) (L' := [.ref 3, .int a1]) (S' := [.int (a1 - a1 / (10 : Int32) * (10 : Int32)), .ref 3]) (σ' := (97, I, J, R)) rfl hd_4 ?_
      refine az_E.call (d := 4) (k' := 138) (vs := [.ref 3, .int (a1 - a1 / (10 : Int32) * (10 : Int32))]) (pc' := 26) (S' := []) rfl ?_ (fun _ _ hq => hq)
      show az_E az_F ex 4 138 0 [.ref 3, .int (a1 - a1 / (10 : Int32) * (10 : Int32))] [] (97, I, J, R) _
      refine az_E.sn 7 (pc' := 11) (L' := [.ref 3, .int (a1 - a1 / (10 : Int32) * (10 : Int32))]) (S' := [.int ((I 4 9) - (1 : Int32)), .int (0 : Int32), .int (a1 - a1 / (10 : Int32) * (10 : Int32))]) (σ' := (97, I, J, R)) rfl ?_
      refine az_E.call (d := 3) (k' := 131) (vs := [.int (a1 - a1 / (10 : Int32) * (10 : Int32)), .int (0 : Int32), .int ((I 4 9) - (1 : Int32))]) (pc' := 14) (S' := []) rfl ?_ (fun _ _ hq => hq)
      show az_E az_F ex 3 131 0 [.int (a1 - a1 / (10 : Int32) * (10 : Int32)), .int (0 : Int32), .int ((I 4 9) - (1 : Int32))] [] (97, I, J, R) _
      refine az_E.sn 2 (pc' := 2) (L' := [.int (a1 - a1 / (10 : Int32) * (10 : Int32)), .int (0 : Int32), .int ((I 4 9) - (1 : Int32))]) (S' := [.int (0 : Int32), .int (a1 - a1 / (10 : Int32) * (10 : Int32))]) (σ' := (97, I, J, R)) rfl ?_
      refine az_E.br (c := (a1 - a1 / (10 : Int32) * (10 : Int32)) < (0 : Int32)) (tt := 14) (ff := 5) (L' := [.int (a1 - a1 / (10 : Int32) * (10 : Int32)), .int (0 : Int32), .int ((I 4 9) - (1 : Int32))]) (S' := []) (σ' := (97, I, J, R)) rfl (fun hc_5 => ?_) (fun hc_5 => ?_)
      · rw [if_pos hc_5] at h
        refine az_E.sn 1 (pc' := 15) (L' := [.int (a1 - a1 / (10 : Int32) * (10 : Int32)), .int (0 : Int32), .int ((I 4 9) - (1 : Int32))]) (S' := [.int (0 : Int32)]) (σ' := (97, I, J, R)) rfl ?_
        refine az_E.ret (v := some (.int (0 : Int32))) (σ' := (97, I, J, R)) rfl ?_
        show az_E az_F ex 4 138 14 [.ref 3, .int (a1 - a1 / (10 : Int32) * (10 : Int32))] [.int (0 : Int32)] (97, I, J, R) _
        refine az_E.ret (v := some (.int (0 : Int32))) (σ' := (97, I, J, R)) rfl ?_
        show az_E az_F ex 5 139 26 [.ref 3, .int a1] [.int (0 : Int32)] (97, I, J, R) _
        refine az_E.br (c := (0 : Int32) = 0) (tt := 33) (ff := 29) (L' := [.ref 3, .int a1]) (S' := []) (σ' := (97, I, J, R)) rfl (fun _ => ?_) (fun hn => absurd (by decide) hn)
        refine az_E.sn 1 (pc' := 34) (L' := [.ref 3, .int a1]) (S' := [.int (0 : Int32)]) (σ' := (97, I, J, R)) rfl ?_
        refine az_E.ret (v := some (.int (0 : Int32))) (σ' := (97, I, J, R)) rfl ?_
        show az_E az_F ex 6 103 5 [.ref 3, .int a1, .int a2, .retAddr 0, .retAddr 0, .retAddr 0] [.int (0 : Int32)] (97, I, J, R) _
        refine az_E.br (c := (0 : Int32) = 0) (tt := 19) (ff := 8) (L' := [.ref 3, .int a1, .int a2, .retAddr 0, .retAddr 0, .retAddr 0]) (S' := []) (σ' := (97, I, J, R)) rfl (fun _ => ?_) (fun hn => absurd (by decide) hn)
        refine az_E.sn 1 (pc' := 20) (L' := [.ref 3, .int a1, .int a2, .retAddr 0, .retAddr 0, .retAddr 0]) (S' := [.int (-1 : Int32)]) (σ' := (97, I, J, R)) rfl ?_
        have h := Option.some.inj h
        subst h
        exact az_E.ret (v := some (.int (-1 : Int32))) (σ' := (97, I, J, R)) rfl (hQ _ hR_3_2 hR_3_3)
      · rw [if_neg hc_5] at h
        refine az_E.sn 2 (pc' := 7) (L' := [.int (a1 - a1 / (10 : Int32) * (10 : Int32)), .int (0 : Int32), .int ((I 4 9) - (1 : Int32))]) (S' := [.int ((I 4 9) - (1 : Int32)), .int (a1 - a1 / (10 : Int32) * (10 : Int32))]) (σ' := (97, I, J, R)) rfl ?_
        refine az_E.br (c := ((I 4 9) - (1 : Int32)) < (a1 - a1 / (10 : Int32) * (10 : Int32))) (tt := 14) (ff := 10) (L' := [.int (a1 - a1 / (10 : Int32) * (10 : Int32)), .int (0 : Int32), .int ((I 4 9) - (1 : Int32))]) (S' := []) (σ' := (97, I, J, R)) rfl (fun hc_6 => ?_) (fun hc_6 => ?_)
        · rw [if_pos hc_6] at h
          refine az_E.sn 1 (pc' := 15) (L' := [.int (a1 - a1 / (10 : Int32) * (10 : Int32)), .int (0 : Int32), .int ((I 4 9) - (1 : Int32))]) (S' := [.int (0 : Int32)]) (σ' := (97, I, J, R)) rfl ?_
          refine az_E.ret (v := some (.int (0 : Int32))) (σ' := (97, I, J, R)) rfl ?_
          show az_E az_F ex 4 138 14 [.ref 3, .int (a1 - a1 / (10 : Int32) * (10 : Int32))] [.int (0 : Int32)] (97, I, J, R) _
          refine az_E.ret (v := some (.int (0 : Int32))) (σ' := (97, I, J, R)) rfl ?_
          show az_E az_F ex 5 139 26 [.ref 3, .int a1] [.int (0 : Int32)] (97, I, J, R) _
          refine az_E.br (c := (0 : Int32) = 0) (tt := 33) (ff := 29) (L' := [.ref 3, .int a1]) (S' := []) (σ' := (97, I, J, R)) rfl (fun _ => ?_) (fun hn => absurd (by decide) hn)
          refine az_E.sn 1 (pc' := 34) (L' := [.ref 3, .int a1]) (S' := [.int (0 : Int32)]) (σ' := (97, I, J, R)) rfl ?_
          refine az_E.ret (v := some (.int (0 : Int32))) (σ' := (97, I, J, R)) rfl ?_
          show az_E az_F ex 6 103 5 [.ref 3, .int a1, .int a2, .retAddr 0, .retAddr 0, .retAddr 0] [.int (0 : Int32)] (97, I, J, R) _
          refine az_E.br (c := (0 : Int32) = 0) (tt := 19) (ff := 8) (L' := [.ref 3, .int a1, .int a2, .retAddr 0, .retAddr 0, .retAddr 0]) (S' := []) (σ' := (97, I, J, R)) rfl (fun _ => ?_) (fun hn => absurd (by decide) hn)
          refine az_E.sn 1 (pc' := 20) (L' := [.ref 3, .int a1, .int a2, .retAddr 0, .retAddr 0, .retAddr 0]) (S' := [.int (-1 : Int32)]) (σ' := (97, I, J, R)) rfl ?_
          have h := Option.some.inj h
          subst h
          exact az_E.ret (v := some (.int (-1 : Int32))) (σ' := (97, I, J, R)) rfl (hQ _ hR_3_2 hR_3_3)
        · rw [if_neg hc_6] at h
          refine az_E.sn 2 (pc' := 15) (L' := [.int (a1 - a1 / (10 : Int32) * (10 : Int32)), .int (0 : Int32), .int ((I 4 9) - (1 : Int32))]) (S' := [.int (1 : Int32)]) (σ' := (97, I, J, R)) rfl ?_
          refine az_E.ret (v := some (.int (1 : Int32))) (σ' := (97, I, J, R)) rfl ?_
          show az_E az_F ex 4 138 14 [.ref 3, .int (a1 - a1 / (10 : Int32) * (10 : Int32))] [.int (1 : Int32)] (97, I, J, R) _
          refine az_E.ret (v := some (.int (1 : Int32))) (σ' := (97, I, J, R)) rfl ?_
          show az_E az_F ex 5 139 26 [.ref 3, .int a1] [.int (1 : Int32)] (97, I, J, R) _
          refine az_E.br (c := (1 : Int32) = 0) (tt := 33) (ff := 29) (L' := [.ref 3, .int a1]) (S' := []) (σ' := (97, I, J, R)) rfl (fun hn => absurd hn (by decide)) (fun _ => ?_)
          refine az_E.sn 2 (pc' := 34) (L' := [.ref 3, .int a1]) (S' := [.int (1 : Int32)]) (σ' := (97, I, J, R)) rfl ?_
          refine az_E.ret (v := some (.int (1 : Int32))) (σ' := (97, I, J, R)) rfl ?_
          show az_E az_F ex 6 103 5 [.ref 3, .int a1, .int a2, .retAddr 0, .retAddr 0, .retAddr 0] [.int (1 : Int32)] (97, I, J, R) _
          refine az_E.br (c := (1 : Int32) = 0) (tt := 19) (ff := 8) (L' := [.ref 3, .int a1, .int a2, .retAddr 0, .retAddr 0, .retAddr 0]) (S' := []) (σ' := (97, I, J, R)) rfl (fun hn => absurd hn (by decide)) (fun _ => ?_)
          refine az_E.sn 3 (pc' := 13) (L' := [.ref 3, .int a1, .int a2, .retAddr 0, .retAddr 0, .retAddr 0]) (S' := [.int (9999 : Int32), .int (0 : Int32), .int a2]) (σ' := (97, I, J, R)) rfl ?_
          refine az_E.call (d := 5) (k' := 131) (vs := [.int a2, .int (0 : Int32), .int (9999 : Int32)]) (pc' := 16) (S' := []) rfl ?_ (fun _ _ hq => hq)
          show az_E az_F ex 5 131 0 [.int a2, .int (0 : Int32), .int (9999 : Int32)] [] (97, I, J, R) _
          refine az_E.sn 2 (pc' := 2) (L' := [.int a2, .int (0 : Int32), .int (9999 : Int32)]) (S' := [.int (0 : Int32), .int a2]) (σ' := (97, I, J, R)) rfl ?_
          refine az_E.br (c := a2 < (0 : Int32)) (tt := 14) (ff := 5) (L' := [.int a2, .int (0 : Int32), .int (9999 : Int32)]) (S' := []) (σ' := (97, I, J, R)) rfl (fun hc_7 => ?_) (fun hc_7 => ?_)
          · rw [if_pos hc_7] at h
            refine az_E.sn 1 (pc' := 15) (L' := [.int a2, .int (0 : Int32), .int (9999 : Int32)]) (S' := [.int (0 : Int32)]) (σ' := (97, I, J, R)) rfl ?_
            refine az_E.ret (v := some (.int (0 : Int32))) (σ' := (97, I, J, R)) rfl ?_
            show az_E az_F ex 6 103 16 [.ref 3, .int a1, .int a2, .retAddr 0, .retAddr 0, .retAddr 0] [.int (0 : Int32)] (97, I, J, R) _
            refine az_E.br (c := (0 : Int32) = 0) (tt := 19) (ff := 21) (L' := [.ref 3, .int a1, .int a2, .retAddr 0, .retAddr 0, .retAddr 0]) (S' := []) (σ' := (97, I, J, R)) rfl (fun _ => ?_) (fun hn => absurd (by decide) hn)
            refine az_E.sn 1 (pc' := 20) (L' := [.ref 3, .int a1, .int a2, .retAddr 0, .retAddr 0, .retAddr 0]) (S' := [.int (-1 : Int32)]) (σ' := (97, I, J, R)) rfl ?_
            have h := Option.some.inj h
            subst h
            exact az_E.ret (v := some (.int (-1 : Int32))) (σ' := (97, I, J, R)) rfl (hQ _ hR_3_2 hR_3_3)
          · rw [if_neg hc_7] at h
            refine az_E.sn 2 (pc' := 7) (L' := [.int a2, .int (0 : Int32), .int (9999 : Int32)]) (S' := [.int (9999 : Int32), .int a2]) (σ' := (97, I, J, R)) rfl ?_
            refine az_E.br (c := (9999 : Int32) < a2) (tt := 14) (ff := 10) (L' := [.int a2, .int (0 : Int32), .int (9999 : Int32)]) (S' := []) (σ' := (97, I, J, R)) rfl (fun hc_8 => ?_) (fun hc_8 => ?_)
            · rw [if_pos hc_8] at h
              refine az_E.sn 1 (pc' := 15) (L' := [.int a2, .int (0 : Int32), .int (9999 : Int32)]) (S' := [.int (0 : Int32)]) (σ' := (97, I, J, R)) rfl ?_
              refine az_E.ret (v := some (.int (0 : Int32))) (σ' := (97, I, J, R)) rfl ?_
              show az_E az_F ex 6 103 16 [.ref 3, .int a1, .int a2, .retAddr 0, .retAddr 0, .retAddr 0] [.int (0 : Int32)] (97, I, J, R) _
              refine az_E.br (c := (0 : Int32) = 0) (tt := 19) (ff := 21) (L' := [.ref 3, .int a1, .int a2, .retAddr 0, .retAddr 0, .retAddr 0]) (S' := []) (σ' := (97, I, J, R)) rfl (fun _ => ?_) (fun hn => absurd (by decide) hn)
              refine az_E.sn 1 (pc' := 20) (L' := [.ref 3, .int a1, .int a2, .retAddr 0, .retAddr 0, .retAddr 0]) (S' := [.int (-1 : Int32)]) (σ' := (97, I, J, R)) rfl ?_
              have h := Option.some.inj h
              subst h
              exact az_E.ret (v := some (.int (-1 : Int32))) (σ' := (97, I, J, R)) rfl (hQ _ hR_3_2 hR_3_3)
            · rw [if_neg hc_8] at h
              refine az_E.sn 2 (pc' := 15) (L' := [.int a2, .int (0 : Int32), .int (9999 : Int32)]) (S' := [.int (1 : Int32)]) (σ' := (97, I, J, R)) rfl ?_
              refine az_E.ret (v := some (.int (1 : Int32))) (σ' := (97, I, J, R)) rfl ?_
              show az_E az_F ex 6 103 16 [.ref 3, .int a1, .int a2, .retAddr 0, .retAddr 0, .retAddr 0] [.int (1 : Int32)] (97, I, J, R) _
              refine az_E.br (c := (1 : Int32) = 0) (tt := 19) (ff := 21) (L' := [.ref 3, .int a1, .int a2, .retAddr 0, .retAddr 0, .retAddr 0]) (S' := []) (σ' := (97, I, J, R)) rfl (fun hn => absurd hn (by decide)) (fun _ => ?_)
              refine az_E.sn 3 (pc' := 25) (L' := [.ref 3, .int a1, .int a2, .retAddr 0, .retAddr 0, .retAddr 0]) (S' := [.int (10 : Int32), .int a1, .ref 3]) (σ' := (97, I, J, R)) rfl ?_
              have hd_9 : ¬ ((10 : Int32) = 0) := by decide
              refine az_E.dv (c := (10 : Int32) = 0) (pc' := 26) (L' := [.ref 3, .int a1, .int a2, .retAddr 0, .retAddr 0, .retAddr 0]) (S' := [.int (a1 - a1 / (10 : Int32) * (10 : Int32)), .ref 3]) (σ' := (97, I, J, R)) rfl hd_9 ?_
              cases hx_11 : rs_X_setPace 16 I (a1 - a1 / (10 : Int32) * (10 : Int32)) with
              | none => rw [hx_11] at h; cases h
              | some I_10 =>
                rw [hx_11] at h
                dsimp only at h
                refine az_E.call (d := 5) (k' := 144) (vs := [.ref 3, .int (a1 - a1 / (10 : Int32) * (10 : Int32))]) (pc' := 29) (S' := []) (Q1 := fun v s => v = none ∧ s = (97, I_10, J, (az_u (az_u R 26 2 (some 16)) 26 3 (some 5)))) rfl (az_E.deep (by omega) (re_X_setPace_16 (J := J) (R := R) hR_3_2 hx_11 ⟨rfl, rfl⟩)) (fun v s hq => ?_)
                obtain ⟨rfl, rfl⟩ := hq
                show az_E az_F ex 6 103 29 [.ref 3, .int a1, .int a2, .retAddr 0, .retAddr 0, .retAddr 0] [] (97, I_10, J, (az_u (az_u R 26 2 (some 16)) 26 3 (some 5))) _
                refine az_E.sn 4 (pc' := 35) (L' := [.ref 3, .int a1, .int a2, .int (0 : Int32), .int (-9 : Int32), .retAddr 0]) (S' := []) (σ' := (97, I_10, J, (az_u (az_u R 26 2 (some 16)) 26 3 (some 5)))) rfl ?_
                exact az_E.forget (L := [.ref 3, .int a1, .int a2, .int (0 : Int32), .int (-9 : Int32), .retAddr 0]) ⟨rfl, rfl, rfl, rfl, rfl, trivial, trivial⟩ (re_X_pairs_35_16_21 (I := I_10) (J := J) (R := R) hR_3_2 hR_3_3 h hQ)
set_option maxRecDepth 100000 in
set_option maxHeartbeats 4000000 in
theorem re_M_pairs_33_b {ex : az_X} {I : Nat → Nat → Int32} {J : Nat → Nat → Int64} {R : Nat → Nat → Option Nat} {v1 : Int32} {v2 : Int32} {v3 : Int32} {v4 : Int32} {v5 : Int32} {x : ((Int32 × Int32 × (Nat → Nat → Int32)) ⊕ (((Int32 × Int32 × (Nat → Nat → Int32)) ⊕ (Int32 × (Nat → Nat → Int32)))))} (h : rs_M_pairs_33_b v1 v2 v4 v3 v5 I = some x) {Q : Option Value → az_S → Prop} (hQ : Sum.elim (fun s => az_E az_F ex 124 216 33 [.ref 73, .int v1, .int v2, .int s.1, .int v4, .int s.2.1] [] (97, s.2.2, J, R) Q) (fun x => Sum.elim (fun s => az_E az_F ex 124 216 23 [.ref 73, .int v1, .int v2, .int s.1, .int s.2.1, .retAddr 0] [] (97, s.2.2, J, R) Q) (fun x => Q (some (.int x.1)) (97, x.2, J, R)) x) x) : az_E az_F ex 124 216 33 [.ref 73, .int v1, .int v2, .int v3, .int v4, .int v5] [] (97, I, J, R) Q := by
  unfold rs_M_pairs_33_b at h
  refine az_E.sn 2 (pc' := 37) (L' := [.ref 73, .int v1, .int v2, .int v3, .int v4, .int v5]) (S' := [.int (9 : Int32), .int v5]) (σ' := (97, I, J, R)) rfl ?_
  refine az_E.br (c := (9 : Int32) < v5) (tt := 95) (ff := 40) (L' := [.ref 73, .int v1, .int v2, .int v3, .int v4, .int v5]) (S' := []) (σ' := (97, I, J, R)) rfl (fun hc_7 => ?_) (fun hc_7 => ?_)
  · rw [if_pos hc_7] at h
    refine az_E.sn 2 (pc' := 23) (L' := [.ref 73, .int v1, .int v2, .int v3, .int (v4 + (1 : Int32)), .int v5]) (S' := []) (σ' := (97, I, J, R)) rfl ?_
    have h := Option.some.inj h
    subst h
    exact az_E.forget (L := [.ref 73, .int v1, .int v2, .int v3, .int (v4 + (1 : Int32)), .retAddr 0]) ⟨rfl, rfl, rfl, rfl, rfl, trivial, trivial⟩ hQ
  · rw [if_neg hc_7] at h
    refine az_E.sn 8 (pc' := 55) (L' := [.ref 73, .int v1, .int v2, .int v3, .int v4, .int v5]) (S' := [.int (10 : Int32), .int v1, .int (172 : Int32), .ref 74, .int v5, .int v4, .ref 73]) (σ' := (97, I, J, R)) rfl ?_
    have hd_8 : ¬ ((10 : Int32) = 0) := by decide
    refine az_E.dv (c := (10 : Int32) = 0) (pc' := 56) (L' := [.ref 73, .int v1, .int v2, .int v3, .int v4, .int v5]) (S' := [.int (v1 - v1 / (10 : Int32) * (10 : Int32)), .int (172 : Int32), .ref 74, .int v5, .int v4, .ref 73]) (σ' := (97, I, J, R)) rfl hd_8 ?_
    refine az_E.sn 1 (pc' := 57) (L' := [.ref 73, .int v1, .int v2, .int v3, .int v4, .int v5]) (S' := [.int ((172 : Int32) + (v1 - v1 / (10 : Int32) * (10 : Int32))), .ref 74, .int v5, .int v4, .ref 73]) (σ' := (97, I, J, R)) rfl ?_
    by_cases hc_9 : ((172 : Int32) + (v1 - v1 / (10 : Int32) * (10 : Int32))) < 0 ∨ 179 ≤ ((172 : Int32) + (v1 - v1 / (10 : Int32) * (10 : Int32))).toNatClampNeg
    · rw [if_pos hc_9] at h; cases h
    · rw [if_neg hc_9] at h
      refine az_E.oi (o := az_ai az_F ex (97, I, J, R) 74 ((172 : Int32) + (v1 - v1 / (10 : Int32) * (10 : Int32)))) (pc' := 58) (L' := [.ref 73, .int v1, .int v2, .int v3, .int v4, .int v5]) (S' := [.int v5, .int v4, .ref 73]) (σ' := (97, I, J, R)) (x := (I 74 ((172 : Int32) + (v1 - v1 / (10 : Int32) * (10 : Int32))).toNatClampNeg)) rfl (if_neg hc_9) ?_
      refine az_E.sn 3 (pc' := 65) (L' := [.ref 73, .int v1, .int v2, .int v3, .int v4, .int v5]) (S' := [.int (178 : Int32), .ref 74, .int (I 74 ((172 : Int32) + (v1 - v1 / (10 : Int32) * (10 : Int32))).toNatClampNeg), .int v5, .int v4, .ref 73]) (σ' := (97, I, J, R)) rfl ?_
      refine az_E.oi (o := az_ai az_F ex (97, I, J, R) 74 (178 : Int32)) (pc' := 66) (L' := [.ref 73, .int v1, .int v2, .int v3, .int v4, .int v5]) (S' := [.int (I 74 ((172 : Int32) + (v1 - v1 / (10 : Int32) * (10 : Int32))).toNatClampNeg), .int v5, .int v4, .ref 73]) (σ' := (97, I, J, R)) (x := (I 74 178)) rfl rfl ?_
      cases hx_12 : rs_M_asksSteps I v4 v5 (I 74 ((172 : Int32) + (v1 - v1 / (10 : Int32) * (10 : Int32))).toNatClampNeg) (I 74 178) with
      | none => rw [hx_12] at h; cases h
      | some I_11 =>
        rw [hx_12] at h
        dsimp only at h
        refine az_E.call (d := 123) (k' := 189) (vs := [.ref 73, .int v4, .int v5, .int (I 74 ((172 : Int32) + (v1 - v1 / (10 : Int32) * (10 : Int32))).toNatClampNeg), .int (I 74 178)]) (pc' := 69) (S' := []) (Q1 := fun v s => v = none ∧ s = (97, I_11, J, R)) rfl (az_E.deep (by omega) (re_M_asksSteps (J := J) (R := R)  hx_12 ⟨rfl, rfl⟩)) (fun v s hq => ?_)
        obtain ⟨rfl, rfl⟩ := hq
        show az_E az_F ex 124 216 69 [.ref 73, .int v1, .int v2, .int v3, .int v4, .int v5] [] (97, I_11, J, R) _
        refine az_E.sn 4 (pc' := 74) (L' := [.ref 73, .int v1, .int v2, .int v3, .int v4, .int v5]) (S' := [.int (10 : Int32), .int v1, .ref 73, .int v3]) (σ' := (97, I_11, J, R)) rfl ?_
        have hd_13 : ¬ ((10 : Int32) = 0) := by decide
        refine az_E.dv (c := (10 : Int32) = 0) (pc' := 75) (L' := [.ref 73, .int v1, .int v2, .int v3, .int v4, .int v5]) (S' := [.int (v1 / (10 : Int32)), .ref 73, .int v3]) (σ' := (97, I_11, J, R)) rfl hd_13 ?_
        cases hx_16 : rs_M_armFor I_11 (v1 / (10 : Int32)) with
        | none => rw [hx_16] at h; cases h
        | some o =>
          rw [hx_16] at h
          obtain ⟨x_14, I_15⟩ := o
          dsimp only at h
          refine az_E.call (d := 123) (k' := 197) (vs := [.ref 73, .int (v1 / (10 : Int32))]) (pc' := 78) (S' := [.int v3]) (Q1 := fun v s => v = some (.int x_14) ∧ s = (97, I_15, J, R)) rfl (az_E.deep (by omega) (re_M_armFor (J := J) (R := R)  hx_16 ⟨rfl, rfl⟩)) (fun v s hq => ?_)
          obtain ⟨rfl, rfl⟩ := hq
          show az_E az_F ex 124 216 78 [.ref 73, .int v1, .int v2, .int v3, .int v4, .int v5] [.int x_14, .int v3] (97, I_15, J, R) _
          refine az_E.sn 1 (pc' := 79) (L' := [.ref 73, .int v1, .int v2, .int v3, .int v4, .int v5]) (S' := [.int v2, .int x_14, .int v3]) (σ' := (97, I_15, J, R)) rfl ?_
          refine az_E.br (c := x_14 = v2) (tt := 82) (ff := 86) (L' := [.ref 73, .int v1, .int v2, .int v3, .int v4, .int v5]) (S' := [.int v3]) (σ' := (97, I_15, J, R)) rfl (fun hc_17 => ?_) (fun hc_17 => ?_)
          · rw [if_pos hc_17] at h
            refine az_E.sn 6 (pc' := 33) (L' := [.ref 73, .int v1, .int v2, .int (v3 + (1 : Int32)), .int v4, .int (v5 + (1 : Int32))]) (S' := []) (σ' := (97, I_15, J, R)) rfl ?_
            have h := Option.some.inj h
            subst h
            exact az_E.forget (L := [.ref 73, .int v1, .int v2, .int (v3 + (1 : Int32)), .int v4, .int (v5 + (1 : Int32))]) ⟨rfl, rfl, rfl, rfl, rfl, rfl, trivial⟩ hQ
          · rw [if_neg hc_17] at h
            refine az_E.sn 5 (pc' := 33) (L' := [.ref 73, .int v1, .int v2, .int (v3 + (0 : Int32)), .int v4, .int (v5 + (1 : Int32))]) (S' := []) (σ' := (97, I_15, J, R)) rfl ?_
            have h := Option.some.inj h
            subst h
            exact az_E.forget (L := [.ref 73, .int v1, .int v2, .int (v3 + (0 : Int32)), .int v4, .int (v5 + (1 : Int32))]) ⟨rfl, rfl, rfl, rfl, rfl, rfl, trivial⟩ hQ
set_option maxRecDepth 100000 in
set_option maxHeartbeats 4000000 in
theorem re_M_pairs_33 {ex : az_X} {I : Nat → Nat → Int32} {J : Nat → Nat → Int64} {R : Nat → Nat → Option Nat} {v1 : Int32} {v2 : Int32} {v3 : Int32} {v4 : Int32} {v5 : Int32} {x : ((Int32 × Int32 × (Nat → Nat → Int32)) ⊕ (Int32 × (Nat → Nat → Int32)))} (h : rs_M_pairs_33 I v1 v2 v3 v4 v5 = some x) {Q : Option Value → az_S → Prop} (hQ : Sum.elim (fun s => az_E az_F ex 124 216 23 [.ref 73, .int v1, .int v2, .int s.1, .int s.2.1, .retAddr 0] [] (97, s.2.2, J, R) Q) (fun x => Q (some (.int x.1)) (97, x.2, J, R)) x) : az_E az_F ex 124 216 33 [.ref 73, .int v1, .int v2, .int v3, .int v4, .int v5] [] (97, I, J, R) Q := by
  unfold rs_M_pairs_33 at h
  refine az_lp_E (G := fun s => az_E az_F ex 124 216 33 [.ref 73, .int v1, .int v2, .int s.1, .int v4, .int s.2.1] [] (97, s.2.2, J, R) Q) (H := fun x => Sum.elim (fun s => az_E az_F ex 124 216 23 [.ref 73, .int v1, .int v2, .int s.1, .int s.2.1, .retAddr 0] [] (97, s.2.2, J, R) Q) (fun x => Q (some (.int x.1)) (97, x.2, J, R)) x) (fun s o hb ho => ?_) _ _ _ h hQ
  exact re_M_pairs_33_b  hb ho
set_option maxRecDepth 100000 in
set_option maxHeartbeats 4000000 in
theorem re_M_pairs_23_b {ex : az_X} {I : Nat → Nat → Int32} {J : Nat → Nat → Int64} {R : Nat → Nat → Option Nat} {v1 : Int32} {v2 : Int32} {v3 : Int32} {v4 : Int32} {x : ((Int32 × Int32 × (Nat → Nat → Int32)) ⊕ (Int32 × (Nat → Nat → Int32)))} (h : rs_M_pairs_23_b v1 v2 v3 v4 I = some x) {Q : Option Value → az_S → Prop} (hQ : Sum.elim (fun s => az_E az_F ex 124 216 23 [.ref 73, .int v1, .int v2, .int s.1, .int s.2.1, .retAddr 0] [] (97, s.2.2, J, R) Q) (fun x => Q (some (.int x.1)) (97, x.2, J, R)) x) : az_E az_F ex 124 216 23 [.ref 73, .int v1, .int v2, .int v3, .int v4, .retAddr 0] [] (97, I, J, R) Q := by
  unfold rs_M_pairs_23_b at h
  refine az_E.sn 2 (pc' := 27) (L' := [.ref 73, .int v1, .int v2, .int v3, .int v4, .retAddr 0]) (S' := [.int (9 : Int32), .int v4]) (σ' := (97, I, J, R)) rfl ?_
  refine az_E.br (c := (9 : Int32) < v4) (tt := 101) (ff := 30) (L' := [.ref 73, .int v1, .int v2, .int v3, .int v4, .retAddr 0]) (S' := []) (σ' := (97, I, J, R)) rfl (fun hc_6 => ?_) (fun hc_6 => ?_)
  · rw [if_pos hc_6] at h
    refine az_E.sn 1 (pc' := 102) (L' := [.ref 73, .int v1, .int v2, .int v3, .int v4, .retAddr 0]) (S' := [.int v3]) (σ' := (97, I, J, R)) rfl ?_
    have h := Option.some.inj h
    subst h
    exact az_E.ret (v := some (.int v3)) (σ' := (97, I, J, R)) rfl hQ
  · rw [if_neg hc_6] at h
    refine az_E.sn 2 (pc' := 33) (L' := [.ref 73, .int v1, .int v2, .int v3, .int v4, .int (0 : Int32)]) (S' := []) (σ' := (97, I, J, R)) rfl ?_
    exact az_E.forget (L := [.ref 73, .int v1, .int v2, .int v3, .int v4, .int (0 : Int32)]) ⟨rfl, rfl, rfl, rfl, rfl, rfl, trivial⟩ (re_M_pairs_33 (I := I) (J := J) (R := R)  h hQ)
set_option maxRecDepth 100000 in
set_option maxHeartbeats 4000000 in
theorem re_M_pairs_23 {ex : az_X} {I : Nat → Nat → Int32} {J : Nat → Nat → Int64} {R : Nat → Nat → Option Nat} {v1 : Int32} {v2 : Int32} {v3 : Int32} {v4 : Int32} {x : Int32 × (Nat → Nat → Int32)} (h : rs_M_pairs_23 I v1 v2 v3 v4 = some x) {Q : Option Value → az_S → Prop} (hQ : Q (some (.int x.1)) (97, x.2, J, R)) : az_E az_F ex 124 216 23 [.ref 73, .int v1, .int v2, .int v3, .int v4, .retAddr 0] [] (97, I, J, R) Q := by
  unfold rs_M_pairs_23 at h
  refine az_lp_E (G := fun s => az_E az_F ex 124 216 23 [.ref 73, .int v1, .int v2, .int s.1, .int s.2.1, .retAddr 0] [] (97, s.2.2, J, R) Q) (H := fun x => Q (some (.int x.1)) (97, x.2, J, R)) (fun s o hb ho => ?_) _ _ _ h hQ
  exact re_M_pairs_23_b  hb ho
set_option maxRecDepth 100000 in
set_option maxHeartbeats 4000000 in
theorem re_M_pairs {ex : az_X} {I : Nat → Nat → Int32} {J : Nat → Nat → Int64} {R : Nat → Nat → Option Nat} {a1 : Int32} {a2 : Int32} {o : Int32 × (Nat → Nat → Int32)} (h : rs_M_pairs I a1 a2 = some o) {Q : Option Value → az_S → Prop} (hQ : Q (some (.int o.1)) (97, o.2, J, R)) : az_E az_F ex 124 216 0 [.ref 73, .int a1, .int a2, .retAddr 0, .retAddr 0, .retAddr 0] [] (97, I, J, R) Q := by
  unfold rs_M_pairs at h
  refine az_E.sn 2 (pc' := 2) (L' := [.ref 73, .int a1, .int a2, .retAddr 0, .retAddr 0, .retAddr 0]) (S' := [.int a1, .ref 73]) (σ' := (97, I, J, R)) rfl ?_
  cases hx_2 : rs_M_isAw I a1 with
  | none => rw [hx_2] at h; cases h
  | some x_1 =>
    rw [hx_2] at h
    dsimp only at h
    refine az_E.call (d := 123) (k' := 164) (vs := [.ref 73, .int a1]) (pc' := 5) (S' := []) (Q1 := fun v s => v = some (.int x_1) ∧ s = (97, I, J, R)) rfl (az_E.deep (by omega) (re_M_isAw (J := J) (R := R)  hx_2 ⟨rfl, rfl⟩)) (fun v s hq => ?_)
    obtain ⟨rfl, rfl⟩ := hq
    show az_E az_F ex 124 216 5 [.ref 73, .int a1, .int a2, .retAddr 0, .retAddr 0, .retAddr 0] [.int x_1] (97, I, J, R) _
    refine az_E.br (c := x_1 = 0) (tt := 15) (ff := 8) (L' := [.ref 73, .int a1, .int a2, .retAddr 0, .retAddr 0, .retAddr 0]) (S' := []) (σ' := (97, I, J, R)) rfl (fun hc_3 => ?_) (fun hc_3 => ?_)
    · rw [if_pos hc_3] at h
      refine az_E.sn 1 (pc' := 16) (L' := [.ref 73, .int a1, .int a2, .retAddr 0, .retAddr 0, .retAddr 0]) (S' := [.int (-1 : Int32)]) (σ' := (97, I, J, R)) rfl ?_
      have h := Option.some.inj h
      subst h
      exact az_E.ret (v := some (.int (-1 : Int32))) (σ' := (97, I, J, R)) rfl hQ
    · rw [if_neg hc_3] at h
      refine az_E.sn 1 (pc' := 9) (L' := [.ref 73, .int a1, .int a2, .retAddr 0, .retAddr 0, .retAddr 0]) (S' := [.int a2]) (σ' := (97, I, J, R)) rfl ?_
      refine az_E.call (d := 123) (k' := 213) (vs := [.int a2]) (pc' := 12) (S' := []) rfl ?_ (fun _ _ hq => hq)
      show az_E az_F ex 123 213 0 [.int a2] [] (97, I, J, R) _
      refine az_E.sn 4 (pc' := 6) (L' := [.int a2]) (S' := [.long (9999 : Int64), .long (0 : Int64), .long a2.toInt64]) (σ' := (97, I, J, R)) rfl ?_
      refine az_E.call (d := 122) (k' := 154) (vs := [.long a2.toInt64, .long (0 : Int64), .long (9999 : Int64)]) (pc' := 9) (S' := []) rfl ?_ (fun _ _ hq => hq)
      show az_E az_F ex 122 154 0 [.long a2.toInt64, .retAddr 0, .long (0 : Int64), .retAddr 0, .long (9999 : Int64), .retAddr 0] [] (97, I, J, R) _
      refine az_E.sn 3 (pc' := 3) (L' := [.long a2.toInt64, .retAddr 0, .long (0 : Int64), .retAddr 0, .long (9999 : Int64), .retAddr 0]) (S' := [.int (lg_cmp a2.toInt64 (0 : Int64))]) (σ' := (97, I, J, R)) rfl ?_
      refine az_E.br (c := (lg_cmp a2.toInt64 (0 : Int64)) < 0) (tt := 17) (ff := 6) (L' := [.long a2.toInt64, .retAddr 0, .long (0 : Int64), .retAddr 0, .long (9999 : Int64), .retAddr 0]) (S' := []) (σ' := (97, I, J, R)) rfl (fun hc_4 => ?_) (fun hc_4 => ?_)
      · rw [if_pos hc_4] at h
        refine az_E.sn 1 (pc' := 18) (L' := [.long a2.toInt64, .retAddr 0, .long (0 : Int64), .retAddr 0, .long (9999 : Int64), .retAddr 0]) (S' := [.int (0 : Int32)]) (σ' := (97, I, J, R)) rfl ?_
        refine az_E.ret (v := some (.int (0 : Int32))) (σ' := (97, I, J, R)) rfl ?_
        show az_E az_F ex 123 213 9 [.int a2] [.int (0 : Int32)] (97, I, J, R) _
        refine az_E.ret (v := some (.int (0 : Int32))) (σ' := (97, I, J, R)) rfl ?_
        show az_E az_F ex 124 216 12 [.ref 73, .int a1, .int a2, .retAddr 0, .retAddr 0, .retAddr 0] [.int (0 : Int32)] (97, I, J, R) _
        refine az_E.br (c := (0 : Int32) = 0) (tt := 15) (ff := 17) (L' := [.ref 73, .int a1, .int a2, .retAddr 0, .retAddr 0, .retAddr 0]) (S' := []) (σ' := (97, I, J, R)) rfl (fun _ => ?_) (fun hn => absurd (by decide) hn)
        refine az_E.sn 1 (pc' := 16) (L' := [.ref 73, .int a1, .int a2, .retAddr 0, .retAddr 0, .retAddr 0]) (S' := [.int (-1 : Int32)]) (σ' := (97, I, J, R)) rfl ?_
        have h := Option.some.inj h
        subst h
        exact az_E.ret (v := some (.int (-1 : Int32))) (σ' := (97, I, J, R)) rfl hQ
      · rw [if_neg hc_4] at h
        refine az_E.sn 3 (pc' := 10) (L' := [.long a2.toInt64, .retAddr 0, .long (0 : Int64), .retAddr 0, .long (9999 : Int64), .retAddr 0]) (S' := [.int (lg_cmp a2.toInt64 (9999 : Int64))]) (σ' := (97, I, J, R)) rfl ?_
        refine az_E.br (c := 0 < (lg_cmp a2.toInt64 (9999 : Int64))) (tt := 17) (ff := 13) (L' := [.long a2.toInt64, .retAddr 0, .long (0 : Int64), .retAddr 0, .long (9999 : Int64), .retAddr 0]) (S' := []) (σ' := (97, I, J, R)) rfl (fun hc_5 => ?_) (fun hc_5 => ?_)
        · rw [if_pos hc_5] at h
          refine az_E.sn 1 (pc' := 18) (L' := [.long a2.toInt64, .retAddr 0, .long (0 : Int64), .retAddr 0, .long (9999 : Int64), .retAddr 0]) (S' := [.int (0 : Int32)]) (σ' := (97, I, J, R)) rfl ?_
          refine az_E.ret (v := some (.int (0 : Int32))) (σ' := (97, I, J, R)) rfl ?_
          show az_E az_F ex 123 213 9 [.int a2] [.int (0 : Int32)] (97, I, J, R) _
          refine az_E.ret (v := some (.int (0 : Int32))) (σ' := (97, I, J, R)) rfl ?_
          show az_E az_F ex 124 216 12 [.ref 73, .int a1, .int a2, .retAddr 0, .retAddr 0, .retAddr 0] [.int (0 : Int32)] (97, I, J, R) _
          refine az_E.br (c := (0 : Int32) = 0) (tt := 15) (ff := 17) (L' := [.ref 73, .int a1, .int a2, .retAddr 0, .retAddr 0, .retAddr 0]) (S' := []) (σ' := (97, I, J, R)) rfl (fun _ => ?_) (fun hn => absurd (by decide) hn)
          refine az_E.sn 1 (pc' := 16) (L' := [.ref 73, .int a1, .int a2, .retAddr 0, .retAddr 0, .retAddr 0]) (S' := [.int (-1 : Int32)]) (σ' := (97, I, J, R)) rfl ?_
          have h := Option.some.inj h
          subst h
          exact az_E.ret (v := some (.int (-1 : Int32))) (σ' := (97, I, J, R)) rfl hQ
        · rw [if_neg hc_5] at h
          refine az_E.sn 2 (pc' := 18) (L' := [.long a2.toInt64, .retAddr 0, .long (0 : Int64), .retAddr 0, .long (9999 : Int64), .retAddr 0]) (S' := [.int (1 : Int32)]) (σ' := (97, I, J, R)) rfl ?_
          refine az_E.ret (v := some (.int (1 : Int32))) (σ' := (97, I, J, R)) rfl ?_
          show az_E az_F ex 123 213 9 [.int a2] [.int (1 : Int32)] (97, I, J, R) _
          refine az_E.ret (v := some (.int (1 : Int32))) (σ' := (97, I, J, R)) rfl ?_
          show az_E az_F ex 124 216 12 [.ref 73, .int a1, .int a2, .retAddr 0, .retAddr 0, .retAddr 0] [.int (1 : Int32)] (97, I, J, R) _
          refine az_E.br (c := (1 : Int32) = 0) (tt := 15) (ff := 17) (L' := [.ref 73, .int a1, .int a2, .retAddr 0, .retAddr 0, .retAddr 0]) (S' := []) (σ' := (97, I, J, R)) rfl (fun hn => absurd hn (by decide)) (fun _ => ?_)
          refine az_E.sn 4 (pc' := 23) (L' := [.ref 73, .int a1, .int a2, .int (0 : Int32), .int (-9 : Int32), .retAddr 0]) (S' := []) (σ' := (97, I, J, R)) rfl ?_
          exact az_E.forget (L := [.ref 73, .int a1, .int a2, .int (0 : Int32), .int (-9 : Int32), .retAddr 0]) ⟨rfl, rfl, rfl, rfl, rfl, trivial, trivial⟩ (re_M_pairs_23 (I := I) (J := J) (R := R)  h hQ)

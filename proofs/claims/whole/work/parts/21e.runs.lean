set_option maxRecDepth 100000 in
set_option maxHeartbeats 4000000 in
theorem re_X_image {ex : az_X} {I : Nat → Nat → Int32} {J : Nat → Nat → Int64} {R : Nat → Nat → Option Nat} {o : Int32 × (Nat → Nat → Int32)} (h : rs_X_image I = some o) {Q : Option Value → az_S → Prop} (hQ : Q (some (.int o.1)) (97, o.2, J, R)) : az_E az_F ex 2 117 0 [.ref 3] [] (97, I, J, R) Q := by
  unfold rs_X_image at h
  refine az_E.sn 4 (pc' := 8) (L' := [.ref 3]) (S' := [.ref 4, .ref 49]) (σ' := (97, I, J, R)) rfl ?_
  cases hx_2 : rs_Kp_take I with
  | none => rw [hx_2] at h; cases h
  | some I_1 =>
    rw [hx_2] at h
    dsimp only at h
    refine az_E.call (d := 1) (k' := 24) (vs := [.ref 49, .ref 4]) (pc' := 11) (S' := []) (Q1 := fun v s => v = none ∧ s = (97, I_1, J, R)) rfl (az_E.deep (by omega) (re_Kp_take (J := J) (R := R)  hx_2 ⟨rfl, rfl⟩)) (fun v s hq => ?_)
    obtain ⟨rfl, rfl⟩ := hq
    show az_E az_F ex 2 117 11 [.ref 3] [] (97, I_1, J, R) _
    refine az_E.sn 4 (pc' := 19) (L' := [.ref 3]) (S' := [.int (0 : Int32), .ref 13]) (σ' := (97, I_1, J, R)) rfl ?_
    refine az_E.oi (o := az_ai az_F ex (97, I_1, J, R) 13 (0 : Int32)) (pc' := 20) (L' := [.ref 3]) (S' := []) (σ' := (97, I_1, J, R)) (x := (I_1 13 0)) rfl rfl ?_
    have h := Option.some.inj h
    subst h
    exact az_E.ret (v := some (.int (I_1 13 0))) (σ' := (97, I_1, J, R)) rfl hQ
set_option maxRecDepth 100000 in
set_option maxHeartbeats 4000000 in
theorem re_M_image_124 {ex : az_X} {I : Nat → Nat → Int32} {J : Nat → Nat → Int64} {R : Nat → Nat → Option Nat} {x : Int32 × (Nat → Nat → Int32)} (h : rs_M_image_124 I = some x) {Q : Option Value → az_S → Prop} (hQ : Q (some (.int x.1)) (97, x.2, J, R)) : az_E az_F ex 0 232 124 [.ref 73, .retAddr 0] [] (97, I, J, R) Q := by
  unfold rs_M_image_124 at h
  refine az_E.sn 3 (pc' := 129) (L' := [.ref 73, .retAddr 0]) (S' := [.int (0 : Int32), .ref 91]) (σ' := (97, I, J, R)) rfl ?_
  refine az_E.oi (o := az_ai az_F ex (97, I, J, R) 91 (0 : Int32)) (pc' := 130) (L' := [.ref 73, .retAddr 0]) (S' := []) (σ' := (97, I, J, R)) (x := (I 91 0)) rfl rfl ?_
  have h := Option.some.inj h
  subst h
  exact az_E.ret (v := some (.int (I 91 0))) (σ' := (97, I, J, R)) rfl hQ
set_option maxRecDepth 100000 in
set_option maxHeartbeats 4000000 in
theorem re_M_image_101_b {ex : az_X} {I : Nat → Nat → Int32} {J : Nat → Nat → Int64} {R : Nat → Nat → Option Nat} {v1 : Int32} {x : ((Int32 × (Nat → Nat → Int32)) ⊕ (Int32 × (Nat → Nat → Int32)))} (h : rs_M_image_101_b v1 I = some x) {Q : Option Value → az_S → Prop} (hQ : Sum.elim (fun s => az_E az_F ex 0 232 101 [.ref 73, .int s.1] [] (97, s.2, J, R) Q) (fun x => Q (some (.int x.1)) (97, x.2, J, R)) x) : az_E az_F ex 0 232 101 [.ref 73, .int v1] [] (97, I, J, R) Q := by
  unfold rs_M_image_101_b at h
  refine az_E.sn 2 (pc' := 103) (L' := [.ref 73, .int v1]) (S' := [.int (4 : Int32), .int v1]) (σ' := (97, I, J, R)) rfl ?_
  refine az_E.br (c := (4 : Int32) ≤ v1) (tt := 124) (ff := 106) (L' := [.ref 73, .int v1]) (S' := []) (σ' := (97, I, J, R)) rfl (fun hc_2 => ?_) (fun hc_2 => ?_)
  · rw [if_pos hc_2] at h
    obtain ⟨x, hx, rfl⟩ := Option.map_eq_some_iff.mp h
    exact az_E.forget (L := [.ref 73, .retAddr 0]) ⟨rfl, trivial, trivial⟩ (re_M_image_124 (I := I) (J := J) (R := R)  hx hQ)
  · rw [if_neg hc_2] at h
    refine az_E.sn 6 (pc' := 116) (L' := [.ref 73, .int v1]) (S' := [.int v1, .ref 91, .int v1, .ref 93]) (σ' := (97, I, J, R)) rfl ?_
    by_cases hc_4 : v1 < 0 ∨ 4 ≤ v1.toNatClampNeg
    · rw [if_pos hc_4] at h; cases h
    · rw [if_neg hc_4] at h
      refine az_E.oi (o := az_ai az_F ex (97, I, J, R) 91 v1) (pc' := 117) (L' := [.ref 73, .int v1]) (S' := [.int v1, .ref 93]) (σ' := (97, I, J, R)) (x := (I 91 v1.toNatClampNeg)) rfl (if_neg hc_4) ?_
      by_cases hc_5 : v1 < 0 ∨ 4 ≤ v1.toNatClampNeg
      · rw [if_pos hc_5] at h; cases h
      · rw [if_neg hc_5] at h
        refine az_E.o (o := az_si az_F (97, I, J, R) 93 v1 (I 91 v1.toNatClampNeg)) (pc' := 118) (L' := [.ref 73, .int v1]) (S' := []) (x := (97, (az_u I 93 v1.toNatClampNeg (I 91 v1.toNatClampNeg)), J, R)) rfl (if_neg hc_5) ?_
        refine az_E.sn 2 (pc' := 101) (L' := [.ref 73, .int (v1 + (1 : Int32))]) (S' := []) (σ' := (97, (az_u I 93 v1.toNatClampNeg (I 91 v1.toNatClampNeg)), J, R)) rfl ?_
        have h := Option.some.inj h
        subst h
        exact az_E.forget (L := [.ref 73, .int (v1 + (1 : Int32))]) ⟨rfl, rfl, trivial⟩ hQ
set_option maxRecDepth 100000 in
set_option maxHeartbeats 4000000 in
theorem re_M_image_101 {ex : az_X} {I : Nat → Nat → Int32} {J : Nat → Nat → Int64} {R : Nat → Nat → Option Nat} {v1 : Int32} {x : Int32 × (Nat → Nat → Int32)} (h : rs_M_image_101 I v1 = some x) {Q : Option Value → az_S → Prop} (hQ : Q (some (.int x.1)) (97, x.2, J, R)) : az_E az_F ex 0 232 101 [.ref 73, .int v1] [] (97, I, J, R) Q := by
  unfold rs_M_image_101 at h
  refine az_lp_E (G := fun s => az_E az_F ex 0 232 101 [.ref 73, .int s.1] [] (97, s.2, J, R) Q) (H := fun x => Q (some (.int x.1)) (97, x.2, J, R)) (fun s o hb ho => ?_) _ _ _ h hQ
  exact re_M_image_101_b  hb ho
set_option maxRecDepth 100000 in
set_option maxHeartbeats 4000000 in
theorem re_M_image_15_b {ex : az_X} {I : Nat → Nat → Int32} {J : Nat → Nat → Int64} {R : Nat → Nat → Option Nat} {v1 : Int32} {x : ((Int32 × (Nat → Nat → Int32)) ⊕ (Int32 × (Nat → Nat → Int32)))} (h : rs_M_image_15_b v1 I = some x) {Q : Option Value → az_S → Prop} (hQ : Sum.elim (fun s => az_E az_F ex 0 232 15 [.ref 73, .int s.1] [] (97, s.2, J, R) Q) (fun x => Q (some (.int x.1)) (97, x.2, J, R)) x) : az_E az_F ex 0 232 15 [.ref 73, .int v1] [] (97, I, J, R) Q := by
  unfold rs_M_image_15_b at h
  refine az_E.sn 3 (pc' := 20) (L' := [.ref 73, .int v1]) (S' := [.int (I 73 7), .int v1]) (σ' := (97, I, J, R)) rfl ?_
  refine az_E.br (c := (I 73 7) ≤ v1) (tt := 99) (ff := 23) (L' := [.ref 73, .int v1]) (S' := []) (σ' := (97, I, J, R)) rfl (fun hc_1 => ?_) (fun hc_1 => ?_)
  · rw [if_pos hc_1] at h
    refine az_E.sn 2 (pc' := 101) (L' := [.ref 73, .int (0 : Int32)]) (S' := []) (σ' := (97, I, J, R)) rfl ?_
    obtain ⟨x, hx, rfl⟩ := Option.map_eq_some_iff.mp h
    exact az_E.forget (L := [.ref 73, .int (0 : Int32)]) ⟨rfl, rfl, trivial⟩ (re_M_image_101 (I := I) (J := J) (R := R)  hx hQ)
  · rw [if_neg hc_1] at h
    refine az_E.sn 8 (pc' := 35) (L' := [.ref 73, .int v1]) (S' := [.int v1, .ref 78, .int ((4 : Int32) * v1), .ref 92]) (σ' := (97, I, J, R)) rfl ?_
    by_cases hc_6 : v1 < 0 ∨ 6 ≤ v1.toNatClampNeg
    · rw [if_pos hc_6] at h; cases h
    · rw [if_neg hc_6] at h
      refine az_E.oi (o := az_ai az_F ex (97, I, J, R) 78 v1) (pc' := 36) (L' := [.ref 73, .int v1]) (S' := [.int ((4 : Int32) * v1), .ref 92]) (σ' := (97, I, J, R)) (x := (I 78 v1.toNatClampNeg)) rfl (if_neg hc_6) ?_
      by_cases hc_7 : ((4 : Int32) * v1) < 0 ∨ 24 ≤ ((4 : Int32) * v1).toNatClampNeg
      · rw [if_pos hc_7] at h; cases h
      · rw [if_neg hc_7] at h
        refine az_E.o (o := az_si az_F (97, I, J, R) 92 ((4 : Int32) * v1) (I 78 v1.toNatClampNeg)) (pc' := 37) (L' := [.ref 73, .int v1]) (S' := []) (x := (97, (az_u I 92 ((4 : Int32) * v1).toNatClampNeg (I 78 v1.toNatClampNeg)), J, R)) rfl (if_neg hc_7) ?_
        refine az_E.sn 12 (pc' := 55) (L' := [.ref 73, .int v1]) (S' := [.int ((160 : Int32) + v1), .ref 74, .int (((4 : Int32) * v1) + (1 : Int32)), .ref 92]) (σ' := (97, (az_u I 92 ((4 : Int32) * v1).toNatClampNeg (I 78 v1.toNatClampNeg)), J, R)) rfl ?_
        by_cases hc_8 : ((160 : Int32) + v1) < 0 ∨ 179 ≤ ((160 : Int32) + v1).toNatClampNeg
        · rw [if_pos hc_8] at h; cases h
        · rw [if_neg hc_8] at h
          refine az_E.oi (o := az_ai az_F ex (97, (az_u I 92 ((4 : Int32) * v1).toNatClampNeg (I 78 v1.toNatClampNeg)), J, R) 74 ((160 : Int32) + v1)) (pc' := 56) (L' := [.ref 73, .int v1]) (S' := [.int (((4 : Int32) * v1) + (1 : Int32)), .ref 92]) (σ' := (97, (az_u I 92 ((4 : Int32) * v1).toNatClampNeg (I 78 v1.toNatClampNeg)), J, R)) (x := (I 74 ((160 : Int32) + v1).toNatClampNeg)) rfl (if_neg hc_8) ?_
          by_cases hc_9 : (((4 : Int32) * v1) + (1 : Int32)) < 0 ∨ 24 ≤ (((4 : Int32) * v1) + (1 : Int32)).toNatClampNeg
          · rw [if_pos hc_9] at h; cases h
          · rw [if_neg hc_9] at h
            refine az_E.o (o := az_si az_F (97, (az_u I 92 ((4 : Int32) * v1).toNatClampNeg (I 78 v1.toNatClampNeg)), J, R) 92 (((4 : Int32) * v1) + (1 : Int32)) (I 74 ((160 : Int32) + v1).toNatClampNeg)) (pc' := 57) (L' := [.ref 73, .int v1]) (S' := []) (x := (97, (az_u (az_u I 92 ((4 : Int32) * v1).toNatClampNeg (I 78 v1.toNatClampNeg)) 92 (((4 : Int32) * v1) + (1 : Int32)).toNatClampNeg (I 74 ((160 : Int32) + v1).toNatClampNeg)), J, R)) rfl (if_neg hc_9) ?_
            refine az_E.sn 12 (pc' := 75) (L' := [.ref 73, .int v1]) (S' := [.int ((166 : Int32) + v1), .ref 74, .int (((4 : Int32) * v1) + (2 : Int32)), .ref 92]) (σ' := (97, (az_u (az_u I 92 ((4 : Int32) * v1).toNatClampNeg (I 78 v1.toNatClampNeg)) 92 (((4 : Int32) * v1) + (1 : Int32)).toNatClampNeg (I 74 ((160 : Int32) + v1).toNatClampNeg)), J, R)) rfl ?_
            by_cases hc_10 : ((166 : Int32) + v1) < 0 ∨ 179 ≤ ((166 : Int32) + v1).toNatClampNeg
            · rw [if_pos hc_10] at h; cases h
            · rw [if_neg hc_10] at h
              refine az_E.oi (o := az_ai az_F ex (97, (az_u (az_u I 92 ((4 : Int32) * v1).toNatClampNeg (I 78 v1.toNatClampNeg)) 92 (((4 : Int32) * v1) + (1 : Int32)).toNatClampNeg (I 74 ((160 : Int32) + v1).toNatClampNeg)), J, R) 74 ((166 : Int32) + v1)) (pc' := 76) (L' := [.ref 73, .int v1]) (S' := [.int (((4 : Int32) * v1) + (2 : Int32)), .ref 92]) (σ' := (97, (az_u (az_u I 92 ((4 : Int32) * v1).toNatClampNeg (I 78 v1.toNatClampNeg)) 92 (((4 : Int32) * v1) + (1 : Int32)).toNatClampNeg (I 74 ((160 : Int32) + v1).toNatClampNeg)), J, R)) (x := (I 74 ((166 : Int32) + v1).toNatClampNeg)) rfl (if_neg hc_10) ?_
              by_cases hc_11 : (((4 : Int32) * v1) + (2 : Int32)) < 0 ∨ 24 ≤ (((4 : Int32) * v1) + (2 : Int32)).toNatClampNeg
              · rw [if_pos hc_11] at h; cases h
              · rw [if_neg hc_11] at h
                refine az_E.o (o := az_si az_F (97, (az_u (az_u I 92 ((4 : Int32) * v1).toNatClampNeg (I 78 v1.toNatClampNeg)) 92 (((4 : Int32) * v1) + (1 : Int32)).toNatClampNeg (I 74 ((160 : Int32) + v1).toNatClampNeg)), J, R) 92 (((4 : Int32) * v1) + (2 : Int32)) (I 74 ((166 : Int32) + v1).toNatClampNeg)) (pc' := 77) (L' := [.ref 73, .int v1]) (S' := []) (x := (97, (az_u (az_u (az_u I 92 ((4 : Int32) * v1).toNatClampNeg (I 78 v1.toNatClampNeg)) 92 (((4 : Int32) * v1) + (1 : Int32)).toNatClampNeg (I 74 ((160 : Int32) + v1).toNatClampNeg)) 92 (((4 : Int32) * v1) + (2 : Int32)).toNatClampNeg (I 74 ((166 : Int32) + v1).toNatClampNeg)), J, R)) rfl (if_neg hc_11) ?_
                refine az_E.sn 10 (pc' := 91) (L' := [.ref 73, .int v1]) (S' := [.int v1, .ref 79, .int (((4 : Int32) * v1) + (3 : Int32)), .ref 92]) (σ' := (97, (az_u (az_u (az_u I 92 ((4 : Int32) * v1).toNatClampNeg (I 78 v1.toNatClampNeg)) 92 (((4 : Int32) * v1) + (1 : Int32)).toNatClampNeg (I 74 ((160 : Int32) + v1).toNatClampNeg)) 92 (((4 : Int32) * v1) + (2 : Int32)).toNatClampNeg (I 74 ((166 : Int32) + v1).toNatClampNeg)), J, R)) rfl ?_
                by_cases hc_12 : v1 < 0 ∨ 6 ≤ v1.toNatClampNeg
                · rw [if_pos hc_12] at h; cases h
                · rw [if_neg hc_12] at h
                  refine az_E.oi (o := az_ai az_F ex (97, (az_u (az_u (az_u I 92 ((4 : Int32) * v1).toNatClampNeg (I 78 v1.toNatClampNeg)) 92 (((4 : Int32) * v1) + (1 : Int32)).toNatClampNeg (I 74 ((160 : Int32) + v1).toNatClampNeg)) 92 (((4 : Int32) * v1) + (2 : Int32)).toNatClampNeg (I 74 ((166 : Int32) + v1).toNatClampNeg)), J, R) 79 v1) (pc' := 92) (L' := [.ref 73, .int v1]) (S' := [.int (((4 : Int32) * v1) + (3 : Int32)), .ref 92]) (σ' := (97, (az_u (az_u (az_u I 92 ((4 : Int32) * v1).toNatClampNeg (I 78 v1.toNatClampNeg)) 92 (((4 : Int32) * v1) + (1 : Int32)).toNatClampNeg (I 74 ((160 : Int32) + v1).toNatClampNeg)) 92 (((4 : Int32) * v1) + (2 : Int32)).toNatClampNeg (I 74 ((166 : Int32) + v1).toNatClampNeg)), J, R)) (x := (I 79 v1.toNatClampNeg)) rfl (if_neg hc_12) ?_
                  by_cases hc_13 : (((4 : Int32) * v1) + (3 : Int32)) < 0 ∨ 24 ≤ (((4 : Int32) * v1) + (3 : Int32)).toNatClampNeg
                  · rw [if_pos hc_13] at h; cases h
                  · rw [if_neg hc_13] at h
                    refine az_E.o (o := az_si az_F (97, (az_u (az_u (az_u I 92 ((4 : Int32) * v1).toNatClampNeg (I 78 v1.toNatClampNeg)) 92 (((4 : Int32) * v1) + (1 : Int32)).toNatClampNeg (I 74 ((160 : Int32) + v1).toNatClampNeg)) 92 (((4 : Int32) * v1) + (2 : Int32)).toNatClampNeg (I 74 ((166 : Int32) + v1).toNatClampNeg)), J, R) 92 (((4 : Int32) * v1) + (3 : Int32)) (I 79 v1.toNatClampNeg)) (pc' := 93) (L' := [.ref 73, .int v1]) (S' := []) (x := (97, (az_u (az_u (az_u (az_u I 92 ((4 : Int32) * v1).toNatClampNeg (I 78 v1.toNatClampNeg)) 92 (((4 : Int32) * v1) + (1 : Int32)).toNatClampNeg (I 74 ((160 : Int32) + v1).toNatClampNeg)) 92 (((4 : Int32) * v1) + (2 : Int32)).toNatClampNeg (I 74 ((166 : Int32) + v1).toNatClampNeg)) 92 (((4 : Int32) * v1) + (3 : Int32)).toNatClampNeg (I 79 v1.toNatClampNeg)), J, R)) rfl (if_neg hc_13) ?_
                    refine az_E.sn 2 (pc' := 15) (L' := [.ref 73, .int (v1 + (1 : Int32))]) (S' := []) (σ' := (97, (az_u (az_u (az_u (az_u I 92 ((4 : Int32) * v1).toNatClampNeg (I 78 v1.toNatClampNeg)) 92 (((4 : Int32) * v1) + (1 : Int32)).toNatClampNeg (I 74 ((160 : Int32) + v1).toNatClampNeg)) 92 (((4 : Int32) * v1) + (2 : Int32)).toNatClampNeg (I 74 ((166 : Int32) + v1).toNatClampNeg)) 92 (((4 : Int32) * v1) + (3 : Int32)).toNatClampNeg (I 79 v1.toNatClampNeg)), J, R)) rfl ?_
                    have h := Option.some.inj h
                    subst h
                    exact az_E.forget (L := [.ref 73, .int (v1 + (1 : Int32))]) ⟨rfl, rfl, trivial⟩ hQ
set_option maxRecDepth 100000 in
set_option maxHeartbeats 4000000 in
theorem re_M_image_15 {ex : az_X} {I : Nat → Nat → Int32} {J : Nat → Nat → Int64} {R : Nat → Nat → Option Nat} {v1 : Int32} {x : Int32 × (Nat → Nat → Int32)} (h : rs_M_image_15 I v1 = some x) {Q : Option Value → az_S → Prop} (hQ : Q (some (.int x.1)) (97, x.2, J, R)) : az_E az_F ex 0 232 15 [.ref 73, .int v1] [] (97, I, J, R) Q := by
  unfold rs_M_image_15 at h
  refine az_lp_E (G := fun s => az_E az_F ex 0 232 15 [.ref 73, .int s.1] [] (97, s.2, J, R) Q) (H := fun x => Q (some (.int x.1)) (97, x.2, J, R)) (fun s o hb ho => ?_) _ _ _ h hQ
  exact re_M_image_15_b  hb ho
set_option maxRecDepth 100000 in
set_option maxHeartbeats 4000000 in
theorem re_M_image {ex : az_X} {I : Nat → Nat → Int32} {J : Nat → Nat → Int64} {R : Nat → Nat → Option Nat} {o : Int32 × (Nat → Nat → Int32)} (h : rs_M_image I = some o) {Q : Option Value → az_S → Prop} (hQ : Q (some (.int o.1)) (97, o.2, J, R)) : az_E az_F ex 0 232 0 [.ref 73, .retAddr 0] [] (97, I, J, R) Q := by
  unfold rs_M_image at h
  refine az_E.sn 9 (pc' := 15) (L' := [.ref 73, .int (0 : Int32)]) (S' := []) (σ' := (97, (az_u (az_u I 73 29 (1 : Int32)) 73 30 (I 73 7)), J, R)) rfl ?_
  exact az_E.forget (L := [.ref 73, .int (0 : Int32)]) ⟨rfl, rfl, trivial⟩ (re_M_image_15 (I := (az_u (az_u I 73 29 (1 : Int32)) 73 30 (I 73 7))) (J := J) (R := R)  h hQ)
set_option maxRecDepth 100000 in
set_option maxHeartbeats 4000000 in
theorem re_Kp_layBack {ex : az_X} {I : Nat → Nat → Int32} {J : Nat → Nat → Int64} {R : Nat → Nat → Option Nat} {o : (Nat → Nat → Int32)} (h : rs_Kp_layBack I = some o) {Q : Option Value → az_S → Prop} (hQ : Q none (97, o, J, R)) : az_E az_F ex 1 25 0 [.ref 49, .ref 4] [] (97, I, J, R) Q := by
  unfold rs_Kp_layBack at h
  refine az_E.sn 8 (pc' := 14) (L' := [.ref 49, .ref 4]) (S' := [.int (I 49 1), .int (0 : Int32), .ref 11, .int (0 : Int32), .ref 50]) (σ' := (97, I, J, R)) rfl ?_
  by_cases hc_1 : (0 : Int32) < 0 ∨ (0 : Int32) < 0 ∨ (I 49 1) < 0 ∨ 6 < (0 : Int32).toNatClampNeg + (I 49 1).toNatClampNeg ∨ 6 < (0 : Int32).toNatClampNeg + (I 49 1).toNatClampNeg
  · rw [if_pos hc_1] at h; cases h
  · rw [if_neg hc_1] at h
    refine az_E.o (o := az_cp az_F (97, I, J, R) 50 (0 : Int32) 11 (0 : Int32) (I 49 1)) (pc' := 17) (L' := [.ref 49, .ref 4]) (S' := []) (x := (97, (az_ur I 11 (va_cpy (I 50) (I 11) 0 0 (I 49 1).toNatClampNeg)), J, R)) rfl (if_neg hc_1) ?_
    refine az_E.sn 8 (pc' := 31) (L' := [.ref 49, .ref 4]) (S' := [.int (I 49 1), .int (0 : Int32), .ref 8, .int (0 : Int32), .ref 51]) (σ' := (97, (az_ur I 11 (va_cpy (I 50) (I 11) 0 0 (I 49 1).toNatClampNeg)), J, R)) rfl ?_
    by_cases hc_2 : (0 : Int32) < 0 ∨ (0 : Int32) < 0 ∨ (I 49 1) < 0 ∨ 6 < (0 : Int32).toNatClampNeg + (I 49 1).toNatClampNeg ∨ 6 < (0 : Int32).toNatClampNeg + (I 49 1).toNatClampNeg
    · rw [if_pos hc_2] at h; cases h
    · rw [if_neg hc_2] at h
      refine az_E.o (o := az_cp az_F (97, (az_ur I 11 (va_cpy (I 50) (I 11) 0 0 (I 49 1).toNatClampNeg)), J, R) 51 (0 : Int32) 8 (0 : Int32) (I 49 1)) (pc' := 34) (L' := [.ref 49, .ref 4]) (S' := []) (x := (97, (az_ur (az_ur I 11 (va_cpy (I 50) (I 11) 0 0 (I 49 1).toNatClampNeg)) 8 (va_cpy ((az_ur I 11 (va_cpy (I 50) (I 11) 0 0 (I 49 1).toNatClampNeg)) 51) ((az_ur I 11 (va_cpy (I 50) (I 11) 0 0 (I 49 1).toNatClampNeg)) 8) 0 0 (I 49 1).toNatClampNeg)), J, R)) rfl (if_neg hc_2) ?_
      refine az_E.sn 8 (pc' := 48) (L' := [.ref 49, .ref 4]) (S' := [.int (I 49 1), .int (0 : Int32), .ref 9, .int (0 : Int32), .ref 52]) (σ' := (97, (az_ur (az_ur I 11 (va_cpy (I 50) (I 11) 0 0 (I 49 1).toNatClampNeg)) 8 (va_cpy ((az_ur I 11 (va_cpy (I 50) (I 11) 0 0 (I 49 1).toNatClampNeg)) 51) ((az_ur I 11 (va_cpy (I 50) (I 11) 0 0 (I 49 1).toNatClampNeg)) 8) 0 0 (I 49 1).toNatClampNeg)), J, R)) rfl ?_
      by_cases hc_3 : (0 : Int32) < 0 ∨ (0 : Int32) < 0 ∨ (I 49 1) < 0 ∨ 6 < (0 : Int32).toNatClampNeg + (I 49 1).toNatClampNeg ∨ 6 < (0 : Int32).toNatClampNeg + (I 49 1).toNatClampNeg
      · rw [if_pos hc_3] at h; cases h
      · rw [if_neg hc_3] at h
        refine az_E.o (o := az_cp az_F (97, (az_ur (az_ur I 11 (va_cpy (I 50) (I 11) 0 0 (I 49 1).toNatClampNeg)) 8 (va_cpy ((az_ur I 11 (va_cpy (I 50) (I 11) 0 0 (I 49 1).toNatClampNeg)) 51) ((az_ur I 11 (va_cpy (I 50) (I 11) 0 0 (I 49 1).toNatClampNeg)) 8) 0 0 (I 49 1).toNatClampNeg)), J, R) 52 (0 : Int32) 9 (0 : Int32) (I 49 1)) (pc' := 51) (L' := [.ref 49, .ref 4]) (S' := []) (x := (97, (az_ur (az_ur (az_ur I 11 (va_cpy (I 50) (I 11) 0 0 (I 49 1).toNatClampNeg)) 8 (va_cpy ((az_ur I 11 (va_cpy (I 50) (I 11) 0 0 (I 49 1).toNatClampNeg)) 51) ((az_ur I 11 (va_cpy (I 50) (I 11) 0 0 (I 49 1).toNatClampNeg)) 8) 0 0 (I 49 1).toNatClampNeg)) 9 (va_cpy ((az_ur (az_ur I 11 (va_cpy (I 50) (I 11) 0 0 (I 49 1).toNatClampNeg)) 8 (va_cpy ((az_ur I 11 (va_cpy (I 50) (I 11) 0 0 (I 49 1).toNatClampNeg)) 51) ((az_ur I 11 (va_cpy (I 50) (I 11) 0 0 (I 49 1).toNatClampNeg)) 8) 0 0 (I 49 1).toNatClampNeg)) 52) ((az_ur (az_ur I 11 (va_cpy (I 50) (I 11) 0 0 (I 49 1).toNatClampNeg)) 8 (va_cpy ((az_ur I 11 (va_cpy (I 50) (I 11) 0 0 (I 49 1).toNatClampNeg)) 51) ((az_ur I 11 (va_cpy (I 50) (I 11) 0 0 (I 49 1).toNatClampNeg)) 8) 0 0 (I 49 1).toNatClampNeg)) 9) 0 0 (I 49 1).toNatClampNeg)), J, R)) rfl (if_neg hc_3) ?_
        refine az_E.sn 8 (pc' := 65) (L' := [.ref 49, .ref 4]) (S' := [.int (I 49 1), .int (0 : Int32), .ref 12, .int (0 : Int32), .ref 53]) (σ' := (97, (az_ur (az_ur (az_ur I 11 (va_cpy (I 50) (I 11) 0 0 (I 49 1).toNatClampNeg)) 8 (va_cpy ((az_ur I 11 (va_cpy (I 50) (I 11) 0 0 (I 49 1).toNatClampNeg)) 51) ((az_ur I 11 (va_cpy (I 50) (I 11) 0 0 (I 49 1).toNatClampNeg)) 8) 0 0 (I 49 1).toNatClampNeg)) 9 (va_cpy ((az_ur (az_ur I 11 (va_cpy (I 50) (I 11) 0 0 (I 49 1).toNatClampNeg)) 8 (va_cpy ((az_ur I 11 (va_cpy (I 50) (I 11) 0 0 (I 49 1).toNatClampNeg)) 51) ((az_ur I 11 (va_cpy (I 50) (I 11) 0 0 (I 49 1).toNatClampNeg)) 8) 0 0 (I 49 1).toNatClampNeg)) 52) ((az_ur (az_ur I 11 (va_cpy (I 50) (I 11) 0 0 (I 49 1).toNatClampNeg)) 8 (va_cpy ((az_ur I 11 (va_cpy (I 50) (I 11) 0 0 (I 49 1).toNatClampNeg)) 51) ((az_ur I 11 (va_cpy (I 50) (I 11) 0 0 (I 49 1).toNatClampNeg)) 8) 0 0 (I 49 1).toNatClampNeg)) 9) 0 0 (I 49 1).toNatClampNeg)), J, R)) rfl ?_
        by_cases hc_4 : (0 : Int32) < 0 ∨ (0 : Int32) < 0 ∨ (I 49 1) < 0 ∨ 6 < (0 : Int32).toNatClampNeg + (I 49 1).toNatClampNeg ∨ 6 < (0 : Int32).toNatClampNeg + (I 49 1).toNatClampNeg
        · rw [if_pos hc_4] at h; cases h
        · rw [if_neg hc_4] at h
          refine az_E.o (o := az_cp az_F (97, (az_ur (az_ur (az_ur I 11 (va_cpy (I 50) (I 11) 0 0 (I 49 1).toNatClampNeg)) 8 (va_cpy ((az_ur I 11 (va_cpy (I 50) (I 11) 0 0 (I 49 1).toNatClampNeg)) 51) ((az_ur I 11 (va_cpy (I 50) (I 11) 0 0 (I 49 1).toNatClampNeg)) 8) 0 0 (I 49 1).toNatClampNeg)) 9 (va_cpy ((az_ur (az_ur I 11 (va_cpy (I 50) (I 11) 0 0 (I 49 1).toNatClampNeg)) 8 (va_cpy ((az_ur I 11 (va_cpy (I 50) (I 11) 0 0 (I 49 1).toNatClampNeg)) 51) ((az_ur I 11 (va_cpy (I 50) (I 11) 0 0 (I 49 1).toNatClampNeg)) 8) 0 0 (I 49 1).toNatClampNeg)) 52) ((az_ur (az_ur I 11 (va_cpy (I 50) (I 11) 0 0 (I 49 1).toNatClampNeg)) 8 (va_cpy ((az_ur I 11 (va_cpy (I 50) (I 11) 0 0 (I 49 1).toNatClampNeg)) 51) ((az_ur I 11 (va_cpy (I 50) (I 11) 0 0 (I 49 1).toNatClampNeg)) 8) 0 0 (I 49 1).toNatClampNeg)) 9) 0 0 (I 49 1).toNatClampNeg)), J, R) 53 (0 : Int32) 12 (0 : Int32) (I 49 1)) (pc' := 68) (L' := [.ref 49, .ref 4]) (S' := []) (x := (97, (az_ur (az_ur (az_ur (az_ur I 11 (va_cpy (I 50) (I 11) 0 0 (I 49 1).toNatClampNeg)) 8 (va_cpy ((az_ur I 11 (va_cpy (I 50) (I 11) 0 0 (I 49 1).toNatClampNeg)) 51) ((az_ur I 11 (va_cpy (I 50) (I 11) 0 0 (I 49 1).toNatClampNeg)) 8) 0 0 (I 49 1).toNatClampNeg)) 9 (va_cpy ((az_ur (az_ur I 11 (va_cpy (I 50) (I 11) 0 0 (I 49 1).toNatClampNeg)) 8 (va_cpy ((az_ur I 11 (va_cpy (I 50) (I 11) 0 0 (I 49 1).toNatClampNeg)) 51) ((az_ur I 11 (va_cpy (I 50) (I 11) 0 0 (I 49 1).toNatClampNeg)) 8) 0 0 (I 49 1).toNatClampNeg)) 52) ((az_ur (az_ur I 11 (va_cpy (I 50) (I 11) 0 0 (I 49 1).toNatClampNeg)) 8 (va_cpy ((az_ur I 11 (va_cpy (I 50) (I 11) 0 0 (I 49 1).toNatClampNeg)) 51) ((az_ur I 11 (va_cpy (I 50) (I 11) 0 0 (I 49 1).toNatClampNeg)) 8) 0 0 (I 49 1).toNatClampNeg)) 9) 0 0 (I 49 1).toNatClampNeg)) 12 (va_cpy ((az_ur (az_ur (az_ur I 11 (va_cpy (I 50) (I 11) 0 0 (I 49 1).toNatClampNeg)) 8 (va_cpy ((az_ur I 11 (va_cpy (I 50) (I 11) 0 0 (I 49 1).toNatClampNeg)) 51) ((az_ur I 11 (va_cpy (I 50) (I 11) 0 0 (I 49 1).toNatClampNeg)) 8) 0 0 (I 49 1).toNatClampNeg)) 9 (va_cpy ((az_ur (az_ur I 11 (va_cpy (I 50) (I 11) 0 0 (I 49 1).toNatClampNeg)) 8 (va_cpy ((az_ur I 11 (va_cpy (I 50) (I 11) 0 0 (I 49 1).toNatClampNeg)) 51) ((az_ur I 11 (va_cpy (I 50) (I 11) 0 0 (I 49 1).toNatClampNeg)) 8) 0 0 (I 49 1).toNatClampNeg)) 52) ((az_ur (az_ur I 11 (va_cpy (I 50) (I 11) 0 0 (I 49 1).toNatClampNeg)) 8 (va_cpy ((az_ur I 11 (va_cpy (I 50) (I 11) 0 0 (I 49 1).toNatClampNeg)) 51) ((az_ur I 11 (va_cpy (I 50) (I 11) 0 0 (I 49 1).toNatClampNeg)) 8) 0 0 (I 49 1).toNatClampNeg)) 9) 0 0 (I 49 1).toNatClampNeg)) 53) ((az_ur (az_ur (az_ur I 11 (va_cpy (I 50) (I 11) 0 0 (I 49 1).toNatClampNeg)) 8 (va_cpy ((az_ur I 11 (va_cpy (I 50) (I 11) 0 0 (I 49 1).toNatClampNeg)) 51) ((az_ur I 11 (va_cpy (I 50) (I 11) 0 0 (I 49 1).toNatClampNeg)) 8) 0 0 (I 49 1).toNatClampNeg)) 9 (va_cpy ((az_ur (az_ur I 11 (va_cpy (I 50) (I 11) 0 0 (I 49 1).toNatClampNeg)) 8 (va_cpy ((az_ur I 11 (va_cpy (I 50) (I 11) 0 0 (I 49 1).toNatClampNeg)) 51) ((az_ur I 11 (va_cpy (I 50) (I 11) 0 0 (I 49 1).toNatClampNeg)) 8) 0 0 (I 49 1).toNatClampNeg)) 52) ((az_ur (az_ur I 11 (va_cpy (I 50) (I 11) 0 0 (I 49 1).toNatClampNeg)) 8 (va_cpy ((az_ur I 11 (va_cpy (I 50) (I 11) 0 0 (I 49 1).toNatClampNeg)) 51) ((az_ur I 11 (va_cpy (I 50) (I 11) 0 0 (I 49 1).toNatClampNeg)) 8) 0 0 (I 49 1).toNatClampNeg)) 9) 0 0 (I 49 1).toNatClampNeg)) 12) 0 0 (I 49 1).toNatClampNeg)), J, R)) rfl (if_neg hc_4) ?_
          refine az_E.sn 7 (pc' := 79) (L' := [.ref 49, .ref 4]) (S' := [.int (4 : Int32), .int (0 : Int32), .ref 13, .int (0 : Int32), .ref 54]) (σ' := (97, (az_ur (az_ur (az_ur (az_ur I 11 (va_cpy (I 50) (I 11) 0 0 (I 49 1).toNatClampNeg)) 8 (va_cpy ((az_ur I 11 (va_cpy (I 50) (I 11) 0 0 (I 49 1).toNatClampNeg)) 51) ((az_ur I 11 (va_cpy (I 50) (I 11) 0 0 (I 49 1).toNatClampNeg)) 8) 0 0 (I 49 1).toNatClampNeg)) 9 (va_cpy ((az_ur (az_ur I 11 (va_cpy (I 50) (I 11) 0 0 (I 49 1).toNatClampNeg)) 8 (va_cpy ((az_ur I 11 (va_cpy (I 50) (I 11) 0 0 (I 49 1).toNatClampNeg)) 51) ((az_ur I 11 (va_cpy (I 50) (I 11) 0 0 (I 49 1).toNatClampNeg)) 8) 0 0 (I 49 1).toNatClampNeg)) 52) ((az_ur (az_ur I 11 (va_cpy (I 50) (I 11) 0 0 (I 49 1).toNatClampNeg)) 8 (va_cpy ((az_ur I 11 (va_cpy (I 50) (I 11) 0 0 (I 49 1).toNatClampNeg)) 51) ((az_ur I 11 (va_cpy (I 50) (I 11) 0 0 (I 49 1).toNatClampNeg)) 8) 0 0 (I 49 1).toNatClampNeg)) 9) 0 0 (I 49 1).toNatClampNeg)) 12 (va_cpy ((az_ur (az_ur (az_ur I 11 (va_cpy (I 50) (I 11) 0 0 (I 49 1).toNatClampNeg)) 8 (va_cpy ((az_ur I 11 (va_cpy (I 50) (I 11) 0 0 (I 49 1).toNatClampNeg)) 51) ((az_ur I 11 (va_cpy (I 50) (I 11) 0 0 (I 49 1).toNatClampNeg)) 8) 0 0 (I 49 1).toNatClampNeg)) 9 (va_cpy ((az_ur (az_ur I 11 (va_cpy (I 50) (I 11) 0 0 (I 49 1).toNatClampNeg)) 8 (va_cpy ((az_ur I 11 (va_cpy (I 50) (I 11) 0 0 (I 49 1).toNatClampNeg)) 51) ((az_ur I 11 (va_cpy (I 50) (I 11) 0 0 (I 49 1).toNatClampNeg)) 8) 0 0 (I 49 1).toNatClampNeg)) 52) ((az_ur (az_ur I 11 (va_cpy (I 50) (I 11) 0 0 (I 49 1).toNatClampNeg)) 8 (va_cpy ((az_ur I 11 (va_cpy (I 50) (I 11) 0 0 (I 49 1).toNatClampNeg)) 51) ((az_ur I 11 (va_cpy (I 50) (I 11) 0 0 (I 49 1).toNatClampNeg)) 8) 0 0 (I 49 1).toNatClampNeg)) 9) 0 0 (I 49 1).toNatClampNeg)) 53) ((az_ur (az_ur (az_ur I 11 (va_cpy (I 50) (I 11) 0 0 (I 49 1).toNatClampNeg)) 8 (va_cpy ((az_ur I 11 (va_cpy (I 50) (I 11) 0 0 (I 49 1).toNatClampNeg)) 51) ((az_ur I 11 (va_cpy (I 50) (I 11) 0 0 (I 49 1).toNatClampNeg)) 8) 0 0 (I 49 1).toNatClampNeg)) 9 (va_cpy ((az_ur (az_ur I 11 (va_cpy (I 50) (I 11) 0 0 (I 49 1).toNatClampNeg)) 8 (va_cpy ((az_ur I 11 (va_cpy (I 50) (I 11) 0 0 (I 49 1).toNatClampNeg)) 51) ((az_ur I 11 (va_cpy (I 50) (I 11) 0 0 (I 49 1).toNatClampNeg)) 8) 0 0 (I 49 1).toNatClampNeg)) 52) ((az_ur (az_ur I 11 (va_cpy (I 50) (I 11) 0 0 (I 49 1).toNatClampNeg)) 8 (va_cpy ((az_ur I 11 (va_cpy (I 50) (I 11) 0 0 (I 49 1).toNatClampNeg)) 51) ((az_ur I 11 (va_cpy (I 50) (I 11) 0 0 (I 49 1).toNatClampNeg)) 8) 0 0 (I 49 1).toNatClampNeg)) 9) 0 0 (I 49 1).toNatClampNeg)) 12) 0 0 (I 49 1).toNatClampNeg)), J, R)) rfl ?_
          refine az_E.o (o := az_cp az_F (97, (az_ur (az_ur (az_ur (az_ur I 11 (va_cpy (I 50) (I 11) 0 0 (I 49 1).toNatClampNeg)) 8 (va_cpy ((az_ur I 11 (va_cpy (I 50) (I 11) 0 0 (I 49 1).toNatClampNeg)) 51) ((az_ur I 11 (va_cpy (I 50) (I 11) 0 0 (I 49 1).toNatClampNeg)) 8) 0 0 (I 49 1).toNatClampNeg)) 9 (va_cpy ((az_ur (az_ur I 11 (va_cpy (I 50) (I 11) 0 0 (I 49 1).toNatClampNeg)) 8 (va_cpy ((az_ur I 11 (va_cpy (I 50) (I 11) 0 0 (I 49 1).toNatClampNeg)) 51) ((az_ur I 11 (va_cpy (I 50) (I 11) 0 0 (I 49 1).toNatClampNeg)) 8) 0 0 (I 49 1).toNatClampNeg)) 52) ((az_ur (az_ur I 11 (va_cpy (I 50) (I 11) 0 0 (I 49 1).toNatClampNeg)) 8 (va_cpy ((az_ur I 11 (va_cpy (I 50) (I 11) 0 0 (I 49 1).toNatClampNeg)) 51) ((az_ur I 11 (va_cpy (I 50) (I 11) 0 0 (I 49 1).toNatClampNeg)) 8) 0 0 (I 49 1).toNatClampNeg)) 9) 0 0 (I 49 1).toNatClampNeg)) 12 (va_cpy ((az_ur (az_ur (az_ur I 11 (va_cpy (I 50) (I 11) 0 0 (I 49 1).toNatClampNeg)) 8 (va_cpy ((az_ur I 11 (va_cpy (I 50) (I 11) 0 0 (I 49 1).toNatClampNeg)) 51) ((az_ur I 11 (va_cpy (I 50) (I 11) 0 0 (I 49 1).toNatClampNeg)) 8) 0 0 (I 49 1).toNatClampNeg)) 9 (va_cpy ((az_ur (az_ur I 11 (va_cpy (I 50) (I 11) 0 0 (I 49 1).toNatClampNeg)) 8 (va_cpy ((az_ur I 11 (va_cpy (I 50) (I 11) 0 0 (I 49 1).toNatClampNeg)) 51) ((az_ur I 11 (va_cpy (I 50) (I 11) 0 0 (I 49 1).toNatClampNeg)) 8) 0 0 (I 49 1).toNatClampNeg)) 52) ((az_ur (az_ur I 11 (va_cpy (I 50) (I 11) 0 0 (I 49 1).toNatClampNeg)) 8 (va_cpy ((az_ur I 11 (va_cpy (I 50) (I 11) 0 0 (I 49 1).toNatClampNeg)) 51) ((az_ur I 11 (va_cpy (I 50) (I 11) 0 0 (I 49 1).toNatClampNeg)) 8) 0 0 (I 49 1).toNatClampNeg)) 9) 0 0 (I 49 1).toNatClampNeg)) 53) ((az_ur (az_ur (az_ur I 11 (va_cpy (I 50) (I 11) 0 0 (I 49 1).toNatClampNeg)) 8 (va_cpy ((az_ur I 11 (va_cpy (I 50) (I 11) 0 0 (I 49 1).toNatClampNeg)) 51) ((az_ur I 11 (va_cpy (I 50) (I 11) 0 0 (I 49 1).toNatClampNeg)) 8) 0 0 (I 49 1).toNatClampNeg)) 9 (va_cpy ((az_ur (az_ur I 11 (va_cpy (I 50) (I 11) 0 0 (I 49 1).toNatClampNeg)) 8 (va_cpy ((az_ur I 11 (va_cpy (I 50) (I 11) 0 0 (I 49 1).toNatClampNeg)) 51) ((az_ur I 11 (va_cpy (I 50) (I 11) 0 0 (I 49 1).toNatClampNeg)) 8) 0 0 (I 49 1).toNatClampNeg)) 52) ((az_ur (az_ur I 11 (va_cpy (I 50) (I 11) 0 0 (I 49 1).toNatClampNeg)) 8 (va_cpy ((az_ur I 11 (va_cpy (I 50) (I 11) 0 0 (I 49 1).toNatClampNeg)) 51) ((az_ur I 11 (va_cpy (I 50) (I 11) 0 0 (I 49 1).toNatClampNeg)) 8) 0 0 (I 49 1).toNatClampNeg)) 9) 0 0 (I 49 1).toNatClampNeg)) 12) 0 0 (I 49 1).toNatClampNeg)), J, R) 54 (0 : Int32) 13 (0 : Int32) (4 : Int32)) (pc' := 82) (L' := [.ref 49, .ref 4]) (S' := []) (x := (97, (az_ur (az_ur (az_ur (az_ur (az_ur I 11 (va_cpy (I 50) (I 11) 0 0 (I 49 1).toNatClampNeg)) 8 (va_cpy ((az_ur I 11 (va_cpy (I 50) (I 11) 0 0 (I 49 1).toNatClampNeg)) 51) ((az_ur I 11 (va_cpy (I 50) (I 11) 0 0 (I 49 1).toNatClampNeg)) 8) 0 0 (I 49 1).toNatClampNeg)) 9 (va_cpy ((az_ur (az_ur I 11 (va_cpy (I 50) (I 11) 0 0 (I 49 1).toNatClampNeg)) 8 (va_cpy ((az_ur I 11 (va_cpy (I 50) (I 11) 0 0 (I 49 1).toNatClampNeg)) 51) ((az_ur I 11 (va_cpy (I 50) (I 11) 0 0 (I 49 1).toNatClampNeg)) 8) 0 0 (I 49 1).toNatClampNeg)) 52) ((az_ur (az_ur I 11 (va_cpy (I 50) (I 11) 0 0 (I 49 1).toNatClampNeg)) 8 (va_cpy ((az_ur I 11 (va_cpy (I 50) (I 11) 0 0 (I 49 1).toNatClampNeg)) 51) ((az_ur I 11 (va_cpy (I 50) (I 11) 0 0 (I 49 1).toNatClampNeg)) 8) 0 0 (I 49 1).toNatClampNeg)) 9) 0 0 (I 49 1).toNatClampNeg)) 12 (va_cpy ((az_ur (az_ur (az_ur I 11 (va_cpy (I 50) (I 11) 0 0 (I 49 1).toNatClampNeg)) 8 (va_cpy ((az_ur I 11 (va_cpy (I 50) (I 11) 0 0 (I 49 1).toNatClampNeg)) 51) ((az_ur I 11 (va_cpy (I 50) (I 11) 0 0 (I 49 1).toNatClampNeg)) 8) 0 0 (I 49 1).toNatClampNeg)) 9 (va_cpy ((az_ur (az_ur I 11 (va_cpy (I 50) (I 11) 0 0 (I 49 1).toNatClampNeg)) 8 (va_cpy ((az_ur I 11 (va_cpy (I 50) (I 11) 0 0 (I 49 1).toNatClampNeg)) 51) ((az_ur I 11 (va_cpy (I 50) (I 11) 0 0 (I 49 1).toNatClampNeg)) 8) 0 0 (I 49 1).toNatClampNeg)) 52) ((az_ur (az_ur I 11 (va_cpy (I 50) (I 11) 0 0 (I 49 1).toNatClampNeg)) 8 (va_cpy ((az_ur I 11 (va_cpy (I 50) (I 11) 0 0 (I 49 1).toNatClampNeg)) 51) ((az_ur I 11 (va_cpy (I 50) (I 11) 0 0 (I 49 1).toNatClampNeg)) 8) 0 0 (I 49 1).toNatClampNeg)) 9) 0 0 (I 49 1).toNatClampNeg)) 53) ((az_ur (az_ur (az_ur I 11 (va_cpy (I 50) (I 11) 0 0 (I 49 1).toNatClampNeg)) 8 (va_cpy ((az_ur I 11 (va_cpy (I 50) (I 11) 0 0 (I 49 1).toNatClampNeg)) 51) ((az_ur I 11 (va_cpy (I 50) (I 11) 0 0 (I 49 1).toNatClampNeg)) 8) 0 0 (I 49 1).toNatClampNeg)) 9 (va_cpy ((az_ur (az_ur I 11 (va_cpy (I 50) (I 11) 0 0 (I 49 1).toNatClampNeg)) 8 (va_cpy ((az_ur I 11 (va_cpy (I 50) (I 11) 0 0 (I 49 1).toNatClampNeg)) 51) ((az_ur I 11 (va_cpy (I 50) (I 11) 0 0 (I 49 1).toNatClampNeg)) 8) 0 0 (I 49 1).toNatClampNeg)) 52) ((az_ur (az_ur I 11 (va_cpy (I 50) (I 11) 0 0 (I 49 1).toNatClampNeg)) 8 (va_cpy ((az_ur I 11 (va_cpy (I 50) (I 11) 0 0 (I 49 1).toNatClampNeg)) 51) ((az_ur I 11 (va_cpy (I 50) (I 11) 0 0 (I 49 1).toNatClampNeg)) 8) 0 0 (I 49 1).toNatClampNeg)) 9) 0 0 (I 49 1).toNatClampNeg)) 12) 0 0 (I 49 1).toNatClampNeg)) 13 (va_cpy ((az_ur (az_ur (az_ur (az_ur I 11 (va_cpy (I 50) (I 11) 0 0 (I 49 1).toNatClampNeg)) 8 (va_cpy ((az_ur I 11 (va_cpy (I 50) (I 11) 0 0 (I 49 1).toNatClampNeg)) 51) ((az_ur I 11 (va_cpy (I 50) (I 11) 0 0 (I 49 1).toNatClampNeg)) 8) 0 0 (I 49 1).toNatClampNeg)) 9 (va_cpy ((az_ur (az_ur I 11 (va_cpy (I 50) (I 11) 0 0 (I 49 1).toNatClampNeg)) 8 (va_cpy ((az_ur I 11 (va_cpy (I 50) (I 11) 0 0 (I 49 1).toNatClampNeg)) 51) ((az_ur I 11 (va_cpy (I 50) (I 11) 0 0 (I 49 1).toNatClampNeg)) 8) 0 0 (I 49 1).toNatClampNeg)) 52) ((az_ur (az_ur I 11 (va_cpy (I 50) (I 11) 0 0 (I 49 1).toNatClampNeg)) 8 (va_cpy ((az_ur I 11 (va_cpy (I 50) (I 11) 0 0 (I 49 1).toNatClampNeg)) 51) ((az_ur I 11 (va_cpy (I 50) (I 11) 0 0 (I 49 1).toNatClampNeg)) 8) 0 0 (I 49 1).toNatClampNeg)) 9) 0 0 (I 49 1).toNatClampNeg)) 12 (va_cpy ((az_ur (az_ur (az_ur I 11 (va_cpy (I 50) (I 11) 0 0 (I 49 1).toNatClampNeg)) 8 (va_cpy ((az_ur I 11 (va_cpy (I 50) (I 11) 0 0 (I 49 1).toNatClampNeg)) 51) ((az_ur I 11 (va_cpy (I 50) (I 11) 0 0 (I 49 1).toNatClampNeg)) 8) 0 0 (I 49 1).toNatClampNeg)) 9 (va_cpy ((az_ur (az_ur I 11 (va_cpy (I 50) (I 11) 0 0 (I 49 1).toNatClampNeg)) 8 (va_cpy ((az_ur I 11 (va_cpy (I 50) (I 11) 0 0 (I 49 1).toNatClampNeg)) 51) ((az_ur I 11 (va_cpy (I 50) (I 11) 0 0 (I 49 1).toNatClampNeg)) 8) 0 0 (I 49 1).toNatClampNeg)) 52) ((az_ur (az_ur I 11 (va_cpy (I 50) (I 11) 0 0 (I 49 1).toNatClampNeg)) 8 (va_cpy ((az_ur I 11 (va_cpy (I 50) (I 11) 0 0 (I 49 1).toNatClampNeg)) 51) ((az_ur I 11 (va_cpy (I 50) (I 11) 0 0 (I 49 1).toNatClampNeg)) 8) 0 0 (I 49 1).toNatClampNeg)) 9) 0 0 (I 49 1).toNatClampNeg)) 53) ((az_ur (az_ur (az_ur I 11 (va_cpy (I 50) (I 11) 0 0 (I 49 1).toNatClampNeg)) 8 (va_cpy ((az_ur I 11 (va_cpy (I 50) (I 11) 0 0 (I 49 1).toNatClampNeg)) 51) ((az_ur I 11 (va_cpy (I 50) (I 11) 0 0 (I 49 1).toNatClampNeg)) 8) 0 0 (I 49 1).toNatClampNeg)) 9 (va_cpy ((az_ur (az_ur I 11 (va_cpy (I 50) (I 11) 0 0 (I 49 1).toNatClampNeg)) 8 (va_cpy ((az_ur I 11 (va_cpy (I 50) (I 11) 0 0 (I 49 1).toNatClampNeg)) 51) ((az_ur I 11 (va_cpy (I 50) (I 11) 0 0 (I 49 1).toNatClampNeg)) 8) 0 0 (I 49 1).toNatClampNeg)) 52) ((az_ur (az_ur I 11 (va_cpy (I 50) (I 11) 0 0 (I 49 1).toNatClampNeg)) 8 (va_cpy ((az_ur I 11 (va_cpy (I 50) (I 11) 0 0 (I 49 1).toNatClampNeg)) 51) ((az_ur I 11 (va_cpy (I 50) (I 11) 0 0 (I 49 1).toNatClampNeg)) 8) 0 0 (I 49 1).toNatClampNeg)) 9) 0 0 (I 49 1).toNatClampNeg)) 12) 0 0 (I 49 1).toNatClampNeg)) 54) ((az_ur (az_ur (az_ur (az_ur I 11 (va_cpy (I 50) (I 11) 0 0 (I 49 1).toNatClampNeg)) 8 (va_cpy ((az_ur I 11 (va_cpy (I 50) (I 11) 0 0 (I 49 1).toNatClampNeg)) 51) ((az_ur I 11 (va_cpy (I 50) (I 11) 0 0 (I 49 1).toNatClampNeg)) 8) 0 0 (I 49 1).toNatClampNeg)) 9 (va_cpy ((az_ur (az_ur I 11 (va_cpy (I 50) (I 11) 0 0 (I 49 1).toNatClampNeg)) 8 (va_cpy ((az_ur I 11 (va_cpy (I 50) (I 11) 0 0 (I 49 1).toNatClampNeg)) 51) ((az_ur I 11 (va_cpy (I 50) (I 11) 0 0 (I 49 1).toNatClampNeg)) 8) 0 0 (I 49 1).toNatClampNeg)) 52) ((az_ur (az_ur I 11 (va_cpy (I 50) (I 11) 0 0 (I 49 1).toNatClampNeg)) 8 (va_cpy ((az_ur I 11 (va_cpy (I 50) (I 11) 0 0 (I 49 1).toNatClampNeg)) 51) ((az_ur I 11 (va_cpy (I 50) (I 11) 0 0 (I 49 1).toNatClampNeg)) 8) 0 0 (I 49 1).toNatClampNeg)) 9) 0 0 (I 49 1).toNatClampNeg)) 12 (va_cpy ((az_ur (az_ur (az_ur I 11 (va_cpy (I 50) (I 11) 0 0 (I 49 1).toNatClampNeg)) 8 (va_cpy ((az_ur I 11 (va_cpy (I 50) (I 11) 0 0 (I 49 1).toNatClampNeg)) 51) ((az_ur I 11 (va_cpy (I 50) (I 11) 0 0 (I 49 1).toNatClampNeg)) 8) 0 0 (I 49 1).toNatClampNeg)) 9 (va_cpy ((az_ur (az_ur I 11 (va_cpy (I 50) (I 11) 0 0 (I 49 1).toNatClampNeg)) 8 (va_cpy ((az_ur I 11 (va_cpy (I 50) (I 11) 0 0 (I 49 1).toNatClampNeg)) 51) ((az_ur I 11 (va_cpy (I 50) (I 11) 0 0 (I 49 1).toNatClampNeg)) 8) 0 0 (I 49 1).toNatClampNeg)) 52) ((az_ur (az_ur I 11 (va_cpy (I 50) (I 11) 0 0 (I 49 1).toNatClampNeg)) 8 (va_cpy ((az_ur I 11 (va_cpy (I 50) (I 11) 0 0 (I 49 1).toNatClampNeg)) 51) ((az_ur I 11 (va_cpy (I 50) (I 11) 0 0 (I 49 1).toNatClampNeg)) 8) 0 0 (I 49 1).toNatClampNeg)) 9) 0 0 (I 49 1).toNatClampNeg)) 53) ((az_ur (az_ur (az_ur I 11 (va_cpy (I 50) (I 11) 0 0 (I 49 1).toNatClampNeg)) 8 (va_cpy ((az_ur I 11 (va_cpy (I 50) (I 11) 0 0 (I 49 1).toNatClampNeg)) 51) ((az_ur I 11 (va_cpy (I 50) (I 11) 0 0 (I 49 1).toNatClampNeg)) 8) 0 0 (I 49 1).toNatClampNeg)) 9 (va_cpy ((az_ur (az_ur I 11 (va_cpy (I 50) (I 11) 0 0 (I 49 1).toNatClampNeg)) 8 (va_cpy ((az_ur I 11 (va_cpy (I 50) (I 11) 0 0 (I 49 1).toNatClampNeg)) 51) ((az_ur I 11 (va_cpy (I 50) (I 11) 0 0 (I 49 1).toNatClampNeg)) 8) 0 0 (I 49 1).toNatClampNeg)) 52) ((az_ur (az_ur I 11 (va_cpy (I 50) (I 11) 0 0 (I 49 1).toNatClampNeg)) 8 (va_cpy ((az_ur I 11 (va_cpy (I 50) (I 11) 0 0 (I 49 1).toNatClampNeg)) 51) ((az_ur I 11 (va_cpy (I 50) (I 11) 0 0 (I 49 1).toNatClampNeg)) 8) 0 0 (I 49 1).toNatClampNeg)) 9) 0 0 (I 49 1).toNatClampNeg)) 12) 0 0 (I 49 1).toNatClampNeg)) 13) 0 0 4)), J, R)) rfl rfl ?_
          have h := Option.some.inj h
          subst h
          exact az_E.ret (v := none) (σ' := (97, (az_ur (az_ur (az_ur (az_ur (az_ur I 11 (va_cpy (I 50) (I 11) 0 0 (I 49 1).toNatClampNeg)) 8 (va_cpy ((az_ur I 11 (va_cpy (I 50) (I 11) 0 0 (I 49 1).toNatClampNeg)) 51) ((az_ur I 11 (va_cpy (I 50) (I 11) 0 0 (I 49 1).toNatClampNeg)) 8) 0 0 (I 49 1).toNatClampNeg)) 9 (va_cpy ((az_ur (az_ur I 11 (va_cpy (I 50) (I 11) 0 0 (I 49 1).toNatClampNeg)) 8 (va_cpy ((az_ur I 11 (va_cpy (I 50) (I 11) 0 0 (I 49 1).toNatClampNeg)) 51) ((az_ur I 11 (va_cpy (I 50) (I 11) 0 0 (I 49 1).toNatClampNeg)) 8) 0 0 (I 49 1).toNatClampNeg)) 52) ((az_ur (az_ur I 11 (va_cpy (I 50) (I 11) 0 0 (I 49 1).toNatClampNeg)) 8 (va_cpy ((az_ur I 11 (va_cpy (I 50) (I 11) 0 0 (I 49 1).toNatClampNeg)) 51) ((az_ur I 11 (va_cpy (I 50) (I 11) 0 0 (I 49 1).toNatClampNeg)) 8) 0 0 (I 49 1).toNatClampNeg)) 9) 0 0 (I 49 1).toNatClampNeg)) 12 (va_cpy ((az_ur (az_ur (az_ur I 11 (va_cpy (I 50) (I 11) 0 0 (I 49 1).toNatClampNeg)) 8 (va_cpy ((az_ur I 11 (va_cpy (I 50) (I 11) 0 0 (I 49 1).toNatClampNeg)) 51) ((az_ur I 11 (va_cpy (I 50) (I 11) 0 0 (I 49 1).toNatClampNeg)) 8) 0 0 (I 49 1).toNatClampNeg)) 9 (va_cpy ((az_ur (az_ur I 11 (va_cpy (I 50) (I 11) 0 0 (I 49 1).toNatClampNeg)) 8 (va_cpy ((az_ur I 11 (va_cpy (I 50) (I 11) 0 0 (I 49 1).toNatClampNeg)) 51) ((az_ur I 11 (va_cpy (I 50) (I 11) 0 0 (I 49 1).toNatClampNeg)) 8) 0 0 (I 49 1).toNatClampNeg)) 52) ((az_ur (az_ur I 11 (va_cpy (I 50) (I 11) 0 0 (I 49 1).toNatClampNeg)) 8 (va_cpy ((az_ur I 11 (va_cpy (I 50) (I 11) 0 0 (I 49 1).toNatClampNeg)) 51) ((az_ur I 11 (va_cpy (I 50) (I 11) 0 0 (I 49 1).toNatClampNeg)) 8) 0 0 (I 49 1).toNatClampNeg)) 9) 0 0 (I 49 1).toNatClampNeg)) 53) ((az_ur (az_ur (az_ur I 11 (va_cpy (I 50) (I 11) 0 0 (I 49 1).toNatClampNeg)) 8 (va_cpy ((az_ur I 11 (va_cpy (I 50) (I 11) 0 0 (I 49 1).toNatClampNeg)) 51) ((az_ur I 11 (va_cpy (I 50) (I 11) 0 0 (I 49 1).toNatClampNeg)) 8) 0 0 (I 49 1).toNatClampNeg)) 9 (va_cpy ((az_ur (az_ur I 11 (va_cpy (I 50) (I 11) 0 0 (I 49 1).toNatClampNeg)) 8 (va_cpy ((az_ur I 11 (va_cpy (I 50) (I 11) 0 0 (I 49 1).toNatClampNeg)) 51) ((az_ur I 11 (va_cpy (I 50) (I 11) 0 0 (I 49 1).toNatClampNeg)) 8) 0 0 (I 49 1).toNatClampNeg)) 52) ((az_ur (az_ur I 11 (va_cpy (I 50) (I 11) 0 0 (I 49 1).toNatClampNeg)) 8 (va_cpy ((az_ur I 11 (va_cpy (I 50) (I 11) 0 0 (I 49 1).toNatClampNeg)) 51) ((az_ur I 11 (va_cpy (I 50) (I 11) 0 0 (I 49 1).toNatClampNeg)) 8) 0 0 (I 49 1).toNatClampNeg)) 9) 0 0 (I 49 1).toNatClampNeg)) 12) 0 0 (I 49 1).toNatClampNeg)) 13 (va_cpy ((az_ur (az_ur (az_ur (az_ur I 11 (va_cpy (I 50) (I 11) 0 0 (I 49 1).toNatClampNeg)) 8 (va_cpy ((az_ur I 11 (va_cpy (I 50) (I 11) 0 0 (I 49 1).toNatClampNeg)) 51) ((az_ur I 11 (va_cpy (I 50) (I 11) 0 0 (I 49 1).toNatClampNeg)) 8) 0 0 (I 49 1).toNatClampNeg)) 9 (va_cpy ((az_ur (az_ur I 11 (va_cpy (I 50) (I 11) 0 0 (I 49 1).toNatClampNeg)) 8 (va_cpy ((az_ur I 11 (va_cpy (I 50) (I 11) 0 0 (I 49 1).toNatClampNeg)) 51) ((az_ur I 11 (va_cpy (I 50) (I 11) 0 0 (I 49 1).toNatClampNeg)) 8) 0 0 (I 49 1).toNatClampNeg)) 52) ((az_ur (az_ur I 11 (va_cpy (I 50) (I 11) 0 0 (I 49 1).toNatClampNeg)) 8 (va_cpy ((az_ur I 11 (va_cpy (I 50) (I 11) 0 0 (I 49 1).toNatClampNeg)) 51) ((az_ur I 11 (va_cpy (I 50) (I 11) 0 0 (I 49 1).toNatClampNeg)) 8) 0 0 (I 49 1).toNatClampNeg)) 9) 0 0 (I 49 1).toNatClampNeg)) 12 (va_cpy ((az_ur (az_ur (az_ur I 11 (va_cpy (I 50) (I 11) 0 0 (I 49 1).toNatClampNeg)) 8 (va_cpy ((az_ur I 11 (va_cpy (I 50) (I 11) 0 0 (I 49 1).toNatClampNeg)) 51) ((az_ur I 11 (va_cpy (I 50) (I 11) 0 0 (I 49 1).toNatClampNeg)) 8) 0 0 (I 49 1).toNatClampNeg)) 9 (va_cpy ((az_ur (az_ur I 11 (va_cpy (I 50) (I 11) 0 0 (I 49 1).toNatClampNeg)) 8 (va_cpy ((az_ur I 11 (va_cpy (I 50) (I 11) 0 0 (I 49 1).toNatClampNeg)) 51) ((az_ur I 11 (va_cpy (I 50) (I 11) 0 0 (I 49 1).toNatClampNeg)) 8) 0 0 (I 49 1).toNatClampNeg)) 52) ((az_ur (az_ur I 11 (va_cpy (I 50) (I 11) 0 0 (I 49 1).toNatClampNeg)) 8 (va_cpy ((az_ur I 11 (va_cpy (I 50) (I 11) 0 0 (I 49 1).toNatClampNeg)) 51) ((az_ur I 11 (va_cpy (I 50) (I 11) 0 0 (I 49 1).toNatClampNeg)) 8) 0 0 (I 49 1).toNatClampNeg)) 9) 0 0 (I 49 1).toNatClampNeg)) 53) ((az_ur (az_ur (az_ur I 11 (va_cpy (I 50) (I 11) 0 0 (I 49 1).toNatClampNeg)) 8 (va_cpy ((az_ur I 11 (va_cpy (I 50) (I 11) 0 0 (I 49 1).toNatClampNeg)) 51) ((az_ur I 11 (va_cpy (I 50) (I 11) 0 0 (I 49 1).toNatClampNeg)) 8) 0 0 (I 49 1).toNatClampNeg)) 9 (va_cpy ((az_ur (az_ur I 11 (va_cpy (I 50) (I 11) 0 0 (I 49 1).toNatClampNeg)) 8 (va_cpy ((az_ur I 11 (va_cpy (I 50) (I 11) 0 0 (I 49 1).toNatClampNeg)) 51) ((az_ur I 11 (va_cpy (I 50) (I 11) 0 0 (I 49 1).toNatClampNeg)) 8) 0 0 (I 49 1).toNatClampNeg)) 52) ((az_ur (az_ur I 11 (va_cpy (I 50) (I 11) 0 0 (I 49 1).toNatClampNeg)) 8 (va_cpy ((az_ur I 11 (va_cpy (I 50) (I 11) 0 0 (I 49 1).toNatClampNeg)) 51) ((az_ur I 11 (va_cpy (I 50) (I 11) 0 0 (I 49 1).toNatClampNeg)) 8) 0 0 (I 49 1).toNatClampNeg)) 9) 0 0 (I 49 1).toNatClampNeg)) 12) 0 0 (I 49 1).toNatClampNeg)) 54) ((az_ur (az_ur (az_ur (az_ur I 11 (va_cpy (I 50) (I 11) 0 0 (I 49 1).toNatClampNeg)) 8 (va_cpy ((az_ur I 11 (va_cpy (I 50) (I 11) 0 0 (I 49 1).toNatClampNeg)) 51) ((az_ur I 11 (va_cpy (I 50) (I 11) 0 0 (I 49 1).toNatClampNeg)) 8) 0 0 (I 49 1).toNatClampNeg)) 9 (va_cpy ((az_ur (az_ur I 11 (va_cpy (I 50) (I 11) 0 0 (I 49 1).toNatClampNeg)) 8 (va_cpy ((az_ur I 11 (va_cpy (I 50) (I 11) 0 0 (I 49 1).toNatClampNeg)) 51) ((az_ur I 11 (va_cpy (I 50) (I 11) 0 0 (I 49 1).toNatClampNeg)) 8) 0 0 (I 49 1).toNatClampNeg)) 52) ((az_ur (az_ur I 11 (va_cpy (I 50) (I 11) 0 0 (I 49 1).toNatClampNeg)) 8 (va_cpy ((az_ur I 11 (va_cpy (I 50) (I 11) 0 0 (I 49 1).toNatClampNeg)) 51) ((az_ur I 11 (va_cpy (I 50) (I 11) 0 0 (I 49 1).toNatClampNeg)) 8) 0 0 (I 49 1).toNatClampNeg)) 9) 0 0 (I 49 1).toNatClampNeg)) 12 (va_cpy ((az_ur (az_ur (az_ur I 11 (va_cpy (I 50) (I 11) 0 0 (I 49 1).toNatClampNeg)) 8 (va_cpy ((az_ur I 11 (va_cpy (I 50) (I 11) 0 0 (I 49 1).toNatClampNeg)) 51) ((az_ur I 11 (va_cpy (I 50) (I 11) 0 0 (I 49 1).toNatClampNeg)) 8) 0 0 (I 49 1).toNatClampNeg)) 9 (va_cpy ((az_ur (az_ur I 11 (va_cpy (I 50) (I 11) 0 0 (I 49 1).toNatClampNeg)) 8 (va_cpy ((az_ur I 11 (va_cpy (I 50) (I 11) 0 0 (I 49 1).toNatClampNeg)) 51) ((az_ur I 11 (va_cpy (I 50) (I 11) 0 0 (I 49 1).toNatClampNeg)) 8) 0 0 (I 49 1).toNatClampNeg)) 52) ((az_ur (az_ur I 11 (va_cpy (I 50) (I 11) 0 0 (I 49 1).toNatClampNeg)) 8 (va_cpy ((az_ur I 11 (va_cpy (I 50) (I 11) 0 0 (I 49 1).toNatClampNeg)) 51) ((az_ur I 11 (va_cpy (I 50) (I 11) 0 0 (I 49 1).toNatClampNeg)) 8) 0 0 (I 49 1).toNatClampNeg)) 9) 0 0 (I 49 1).toNatClampNeg)) 53) ((az_ur (az_ur (az_ur I 11 (va_cpy (I 50) (I 11) 0 0 (I 49 1).toNatClampNeg)) 8 (va_cpy ((az_ur I 11 (va_cpy (I 50) (I 11) 0 0 (I 49 1).toNatClampNeg)) 51) ((az_ur I 11 (va_cpy (I 50) (I 11) 0 0 (I 49 1).toNatClampNeg)) 8) 0 0 (I 49 1).toNatClampNeg)) 9 (va_cpy ((az_ur (az_ur I 11 (va_cpy (I 50) (I 11) 0 0 (I 49 1).toNatClampNeg)) 8 (va_cpy ((az_ur I 11 (va_cpy (I 50) (I 11) 0 0 (I 49 1).toNatClampNeg)) 51) ((az_ur I 11 (va_cpy (I 50) (I 11) 0 0 (I 49 1).toNatClampNeg)) 8) 0 0 (I 49 1).toNatClampNeg)) 52) ((az_ur (az_ur I 11 (va_cpy (I 50) (I 11) 0 0 (I 49 1).toNatClampNeg)) 8 (va_cpy ((az_ur I 11 (va_cpy (I 50) (I 11) 0 0 (I 49 1).toNatClampNeg)) 51) ((az_ur I 11 (va_cpy (I 50) (I 11) 0 0 (I 49 1).toNatClampNeg)) 8) 0 0 (I 49 1).toNatClampNeg)) 9) 0 0 (I 49 1).toNatClampNeg)) 12) 0 0 (I 49 1).toNatClampNeg)) 13) 0 0 4)), J, R)) rfl hQ
set_option maxRecDepth 100000 in
set_option maxHeartbeats 4000000 in
theorem re_X_back {ex : az_X} {I : Nat → Nat → Int32} {J : Nat → Nat → Int64} {R : Nat → Nat → Option Nat} {o : Int32 × (Nat → Nat → Int32)} (h : rs_X_back I = some o) {Q : Option Value → az_S → Prop} (hQ : Q (some (.int o.1)) (97, o.2, J, R)) : az_E az_F ex 2 118 0 [.ref 3] [] (97, I, J, R) Q := by
  unfold rs_X_back at h
  refine az_E.sn 3 (pc' := 7) (L' := [.ref 3]) (S' := [.int (I 49 0)]) (σ' := (97, I, J, R)) rfl ?_
  refine az_E.br (c := (I 49 0) = 0) (tt := 10) (ff := 13) (L' := [.ref 3]) (S' := []) (σ' := (97, I, J, R)) rfl (fun hc_1 => ?_) (fun hc_1 => ?_)
  · rw [if_pos hc_1] at h
    refine az_E.sn 1 (pc' := 12) (L' := [.ref 3]) (S' := [.int (-5 : Int32)]) (σ' := (97, I, J, R)) rfl ?_
    have h := Option.some.inj h
    subst h
    exact az_E.ret (v := some (.int (-5 : Int32))) (σ' := (97, I, J, R)) rfl hQ
  · rw [if_neg hc_1] at h
    refine az_E.sn 4 (pc' := 21) (L' := [.ref 3]) (S' := [.ref 4, .ref 49]) (σ' := (97, I, J, R)) rfl ?_
    cases hx_3 : rs_Kp_layBack I with
    | none => rw [hx_3] at h; cases h
    | some I_2 =>
      rw [hx_3] at h
      dsimp only at h
      refine az_E.call (d := 1) (k' := 25) (vs := [.ref 49, .ref 4]) (pc' := 24) (S' := []) (Q1 := fun v s => v = none ∧ s = (97, I_2, J, R)) rfl (az_E.deep (by omega) (re_Kp_layBack (J := J) (R := R)  hx_3 ⟨rfl, rfl⟩)) (fun v s hq => ?_)
      obtain ⟨rfl, rfl⟩ := hq
      show az_E az_F ex 2 118 24 [.ref 3] [] (97, I_2, J, R) _
      refine az_E.sn 4 (pc' := 32) (L' := [.ref 3]) (S' := [.int (0 : Int32), .ref 13]) (σ' := (97, I_2, J, R)) rfl ?_
      refine az_E.oi (o := az_ai az_F ex (97, I_2, J, R) 13 (0 : Int32)) (pc' := 33) (L' := [.ref 3]) (S' := []) (σ' := (97, I_2, J, R)) (x := (I_2 13 0)) rfl rfl ?_
      have h := Option.some.inj h
      subst h
      exact az_E.ret (v := some (.int (I_2 13 0))) (σ' := (97, I_2, J, R)) rfl hQ
set_option maxRecDepth 100000 in
set_option maxHeartbeats 4000000 in
theorem re_M_back_121 {ex : az_X} {I : Nat → Nat → Int32} {J : Nat → Nat → Int64} {R : Nat → Nat → Option Nat} {x : Int32 × (Nat → Nat → Int32)} (h : rs_M_back_121 I = some x) {Q : Option Value → az_S → Prop} (hQ : Q (some (.int x.1)) (97, x.2, J, R)) : az_E az_F ex 0 233 121 [.ref 73, .retAddr 0] [] (97, I, J, R) Q := by
  unfold rs_M_back_121 at h
  refine az_E.sn 3 (pc' := 126) (L' := [.ref 73, .retAddr 0]) (S' := [.int (0 : Int32), .ref 91]) (σ' := (97, I, J, R)) rfl ?_
  refine az_E.oi (o := az_ai az_F ex (97, I, J, R) 91 (0 : Int32)) (pc' := 127) (L' := [.ref 73, .retAddr 0]) (S' := []) (σ' := (97, I, J, R)) (x := (I 91 0)) rfl rfl ?_
  have h := Option.some.inj h
  subst h
  exact az_E.ret (v := some (.int (I 91 0))) (σ' := (97, I, J, R)) rfl hQ
set_option maxRecDepth 100000 in
set_option maxHeartbeats 4000000 in
theorem re_M_back_98_b {ex : az_X} {I : Nat → Nat → Int32} {J : Nat → Nat → Int64} {R : Nat → Nat → Option Nat} {v1 : Int32} {x : ((Int32 × (Nat → Nat → Int32)) ⊕ (Int32 × (Nat → Nat → Int32)))} (h : rs_M_back_98_b v1 I = some x) {Q : Option Value → az_S → Prop} (hQ : Sum.elim (fun s => az_E az_F ex 0 233 98 [.ref 73, .int s.1] [] (97, s.2, J, R) Q) (fun x => Q (some (.int x.1)) (97, x.2, J, R)) x) : az_E az_F ex 0 233 98 [.ref 73, .int v1] [] (97, I, J, R) Q := by
  unfold rs_M_back_98_b at h
  refine az_E.sn 2 (pc' := 100) (L' := [.ref 73, .int v1]) (S' := [.int (4 : Int32), .int v1]) (σ' := (97, I, J, R)) rfl ?_
  refine az_E.br (c := (4 : Int32) ≤ v1) (tt := 121) (ff := 103) (L' := [.ref 73, .int v1]) (S' := []) (σ' := (97, I, J, R)) rfl (fun hc_3 => ?_) (fun hc_3 => ?_)
  · rw [if_pos hc_3] at h
    obtain ⟨x, hx, rfl⟩ := Option.map_eq_some_iff.mp h
    exact az_E.forget (L := [.ref 73, .retAddr 0]) ⟨rfl, trivial, trivial⟩ (re_M_back_121 (I := I) (J := J) (R := R)  hx hQ)
  · rw [if_neg hc_3] at h
    refine az_E.sn 6 (pc' := 113) (L' := [.ref 73, .int v1]) (S' := [.int v1, .ref 93, .int v1, .ref 91]) (σ' := (97, I, J, R)) rfl ?_
    by_cases hc_5 : v1 < 0 ∨ 4 ≤ v1.toNatClampNeg
    · rw [if_pos hc_5] at h; cases h
    · rw [if_neg hc_5] at h
      refine az_E.oi (o := az_ai az_F ex (97, I, J, R) 93 v1) (pc' := 114) (L' := [.ref 73, .int v1]) (S' := [.int v1, .ref 91]) (σ' := (97, I, J, R)) (x := (I 93 v1.toNatClampNeg)) rfl (if_neg hc_5) ?_
      by_cases hc_6 : v1 < 0 ∨ 4 ≤ v1.toNatClampNeg
      · rw [if_pos hc_6] at h; cases h
      · rw [if_neg hc_6] at h
        refine az_E.o (o := az_si az_F (97, I, J, R) 91 v1 (I 93 v1.toNatClampNeg)) (pc' := 115) (L' := [.ref 73, .int v1]) (S' := []) (x := (97, (az_u I 91 v1.toNatClampNeg (I 93 v1.toNatClampNeg)), J, R)) rfl (if_neg hc_6) ?_
        refine az_E.sn 2 (pc' := 98) (L' := [.ref 73, .int (v1 + (1 : Int32))]) (S' := []) (σ' := (97, (az_u I 91 v1.toNatClampNeg (I 93 v1.toNatClampNeg)), J, R)) rfl ?_
        have h := Option.some.inj h
        subst h
        exact az_E.forget (L := [.ref 73, .int (v1 + (1 : Int32))]) ⟨rfl, rfl, trivial⟩ hQ
set_option maxRecDepth 100000 in
set_option maxHeartbeats 4000000 in
theorem re_M_back_98 {ex : az_X} {I : Nat → Nat → Int32} {J : Nat → Nat → Int64} {R : Nat → Nat → Option Nat} {v1 : Int32} {x : Int32 × (Nat → Nat → Int32)} (h : rs_M_back_98 I v1 = some x) {Q : Option Value → az_S → Prop} (hQ : Q (some (.int x.1)) (97, x.2, J, R)) : az_E az_F ex 0 233 98 [.ref 73, .int v1] [] (97, I, J, R) Q := by
  unfold rs_M_back_98 at h
  refine az_lp_E (G := fun s => az_E az_F ex 0 233 98 [.ref 73, .int s.1] [] (97, s.2, J, R) Q) (H := fun x => Q (some (.int x.1)) (97, x.2, J, R)) (fun s o hb ho => ?_) _ _ _ h hQ
  exact re_M_back_98_b  hb ho
set_option maxRecDepth 100000 in
set_option maxHeartbeats 4000000 in
theorem re_M_back_12_b {ex : az_X} {I : Nat → Nat → Int32} {J : Nat → Nat → Int64} {R : Nat → Nat → Option Nat} {v1 : Int32} {x : ((Int32 × (Nat → Nat → Int32)) ⊕ (Int32 × (Nat → Nat → Int32)))} (h : rs_M_back_12_b v1 I = some x) {Q : Option Value → az_S → Prop} (hQ : Sum.elim (fun s => az_E az_F ex 0 233 12 [.ref 73, .int s.1] [] (97, s.2, J, R) Q) (fun x => Q (some (.int x.1)) (97, x.2, J, R)) x) : az_E az_F ex 0 233 12 [.ref 73, .int v1] [] (97, I, J, R) Q := by
  unfold rs_M_back_12_b at h
  refine az_E.sn 3 (pc' := 17) (L' := [.ref 73, .int v1]) (S' := [.int (I 73 30), .int v1]) (σ' := (97, I, J, R)) rfl ?_
  refine az_E.br (c := (I 73 30) ≤ v1) (tt := 96) (ff := 20) (L' := [.ref 73, .int v1]) (S' := []) (σ' := (97, I, J, R)) rfl (fun hc_2 => ?_) (fun hc_2 => ?_)
  · rw [if_pos hc_2] at h
    refine az_E.sn 2 (pc' := 98) (L' := [.ref 73, .int (0 : Int32)]) (S' := []) (σ' := (97, I, J, R)) rfl ?_
    obtain ⟨x, hx, rfl⟩ := Option.map_eq_some_iff.mp h
    exact az_E.forget (L := [.ref 73, .int (0 : Int32)]) ⟨rfl, rfl, trivial⟩ (re_M_back_98 (I := I) (J := J) (R := R)  hx hQ)
  · rw [if_neg hc_2] at h
    refine az_E.sn 8 (pc' := 32) (L' := [.ref 73, .int v1]) (S' := [.int ((4 : Int32) * v1), .ref 92, .int v1, .ref 78]) (σ' := (97, I, J, R)) rfl ?_
    by_cases hc_7 : ((4 : Int32) * v1) < 0 ∨ 24 ≤ ((4 : Int32) * v1).toNatClampNeg
    · rw [if_pos hc_7] at h; cases h
    · rw [if_neg hc_7] at h
      refine az_E.oi (o := az_ai az_F ex (97, I, J, R) 92 ((4 : Int32) * v1)) (pc' := 33) (L' := [.ref 73, .int v1]) (S' := [.int v1, .ref 78]) (σ' := (97, I, J, R)) (x := (I 92 ((4 : Int32) * v1).toNatClampNeg)) rfl (if_neg hc_7) ?_
      by_cases hc_8 : v1 < 0 ∨ 6 ≤ v1.toNatClampNeg
      · rw [if_pos hc_8] at h; cases h
      · rw [if_neg hc_8] at h
        refine az_E.o (o := az_si az_F (97, I, J, R) 78 v1 (I 92 ((4 : Int32) * v1).toNatClampNeg)) (pc' := 34) (L' := [.ref 73, .int v1]) (S' := []) (x := (97, (az_u I 78 v1.toNatClampNeg (I 92 ((4 : Int32) * v1).toNatClampNeg)), J, R)) rfl (if_neg hc_8) ?_
        refine az_E.sn 12 (pc' := 52) (L' := [.ref 73, .int v1]) (S' := [.int (((4 : Int32) * v1) + (1 : Int32)), .ref 92, .int ((160 : Int32) + v1), .ref 74]) (σ' := (97, (az_u I 78 v1.toNatClampNeg (I 92 ((4 : Int32) * v1).toNatClampNeg)), J, R)) rfl ?_
        by_cases hc_9 : (((4 : Int32) * v1) + (1 : Int32)) < 0 ∨ 24 ≤ (((4 : Int32) * v1) + (1 : Int32)).toNatClampNeg
        · rw [if_pos hc_9] at h; cases h
        · rw [if_neg hc_9] at h
          refine az_E.oi (o := az_ai az_F ex (97, (az_u I 78 v1.toNatClampNeg (I 92 ((4 : Int32) * v1).toNatClampNeg)), J, R) 92 (((4 : Int32) * v1) + (1 : Int32))) (pc' := 53) (L' := [.ref 73, .int v1]) (S' := [.int ((160 : Int32) + v1), .ref 74]) (σ' := (97, (az_u I 78 v1.toNatClampNeg (I 92 ((4 : Int32) * v1).toNatClampNeg)), J, R)) (x := (I 92 (((4 : Int32) * v1) + (1 : Int32)).toNatClampNeg)) rfl (if_neg hc_9) ?_
          by_cases hc_10 : ((160 : Int32) + v1) < 0 ∨ 179 ≤ ((160 : Int32) + v1).toNatClampNeg
          · rw [if_pos hc_10] at h; cases h
          · rw [if_neg hc_10] at h
            refine az_E.o (o := az_si az_F (97, (az_u I 78 v1.toNatClampNeg (I 92 ((4 : Int32) * v1).toNatClampNeg)), J, R) 74 ((160 : Int32) + v1) (I 92 (((4 : Int32) * v1) + (1 : Int32)).toNatClampNeg)) (pc' := 54) (L' := [.ref 73, .int v1]) (S' := []) (x := (97, (az_u (az_u I 78 v1.toNatClampNeg (I 92 ((4 : Int32) * v1).toNatClampNeg)) 74 ((160 : Int32) + v1).toNatClampNeg (I 92 (((4 : Int32) * v1) + (1 : Int32)).toNatClampNeg)), J, R)) rfl (if_neg hc_10) ?_
            refine az_E.sn 12 (pc' := 72) (L' := [.ref 73, .int v1]) (S' := [.int (((4 : Int32) * v1) + (2 : Int32)), .ref 92, .int ((166 : Int32) + v1), .ref 74]) (σ' := (97, (az_u (az_u I 78 v1.toNatClampNeg (I 92 ((4 : Int32) * v1).toNatClampNeg)) 74 ((160 : Int32) + v1).toNatClampNeg (I 92 (((4 : Int32) * v1) + (1 : Int32)).toNatClampNeg)), J, R)) rfl ?_
            by_cases hc_11 : (((4 : Int32) * v1) + (2 : Int32)) < 0 ∨ 24 ≤ (((4 : Int32) * v1) + (2 : Int32)).toNatClampNeg
            · rw [if_pos hc_11] at h; cases h
            · rw [if_neg hc_11] at h
              refine az_E.oi (o := az_ai az_F ex (97, (az_u (az_u I 78 v1.toNatClampNeg (I 92 ((4 : Int32) * v1).toNatClampNeg)) 74 ((160 : Int32) + v1).toNatClampNeg (I 92 (((4 : Int32) * v1) + (1 : Int32)).toNatClampNeg)), J, R) 92 (((4 : Int32) * v1) + (2 : Int32))) (pc' := 73) (L' := [.ref 73, .int v1]) (S' := [.int ((166 : Int32) + v1), .ref 74]) (σ' := (97, (az_u (az_u I 78 v1.toNatClampNeg (I 92 ((4 : Int32) * v1).toNatClampNeg)) 74 ((160 : Int32) + v1).toNatClampNeg (I 92 (((4 : Int32) * v1) + (1 : Int32)).toNatClampNeg)), J, R)) (x := (I 92 (((4 : Int32) * v1) + (2 : Int32)).toNatClampNeg)) rfl (if_neg hc_11) ?_
              by_cases hc_12 : ((166 : Int32) + v1) < 0 ∨ 179 ≤ ((166 : Int32) + v1).toNatClampNeg
              · rw [if_pos hc_12] at h; cases h
              · rw [if_neg hc_12] at h
                refine az_E.o (o := az_si az_F (97, (az_u (az_u I 78 v1.toNatClampNeg (I 92 ((4 : Int32) * v1).toNatClampNeg)) 74 ((160 : Int32) + v1).toNatClampNeg (I 92 (((4 : Int32) * v1) + (1 : Int32)).toNatClampNeg)), J, R) 74 ((166 : Int32) + v1) (I 92 (((4 : Int32) * v1) + (2 : Int32)).toNatClampNeg)) (pc' := 74) (L' := [.ref 73, .int v1]) (S' := []) (x := (97, (az_u (az_u (az_u I 78 v1.toNatClampNeg (I 92 ((4 : Int32) * v1).toNatClampNeg)) 74 ((160 : Int32) + v1).toNatClampNeg (I 92 (((4 : Int32) * v1) + (1 : Int32)).toNatClampNeg)) 74 ((166 : Int32) + v1).toNatClampNeg (I 92 (((4 : Int32) * v1) + (2 : Int32)).toNatClampNeg)), J, R)) rfl (if_neg hc_12) ?_
                refine az_E.sn 10 (pc' := 88) (L' := [.ref 73, .int v1]) (S' := [.int (((4 : Int32) * v1) + (3 : Int32)), .ref 92, .int v1, .ref 79]) (σ' := (97, (az_u (az_u (az_u I 78 v1.toNatClampNeg (I 92 ((4 : Int32) * v1).toNatClampNeg)) 74 ((160 : Int32) + v1).toNatClampNeg (I 92 (((4 : Int32) * v1) + (1 : Int32)).toNatClampNeg)) 74 ((166 : Int32) + v1).toNatClampNeg (I 92 (((4 : Int32) * v1) + (2 : Int32)).toNatClampNeg)), J, R)) rfl ?_
                by_cases hc_13 : (((4 : Int32) * v1) + (3 : Int32)) < 0 ∨ 24 ≤ (((4 : Int32) * v1) + (3 : Int32)).toNatClampNeg
                · rw [if_pos hc_13] at h; cases h
                · rw [if_neg hc_13] at h
                  refine az_E.oi (o := az_ai az_F ex (97, (az_u (az_u (az_u I 78 v1.toNatClampNeg (I 92 ((4 : Int32) * v1).toNatClampNeg)) 74 ((160 : Int32) + v1).toNatClampNeg (I 92 (((4 : Int32) * v1) + (1 : Int32)).toNatClampNeg)) 74 ((166 : Int32) + v1).toNatClampNeg (I 92 (((4 : Int32) * v1) + (2 : Int32)).toNatClampNeg)), J, R) 92 (((4 : Int32) * v1) + (3 : Int32))) (pc' := 89) (L' := [.ref 73, .int v1]) (S' := [.int v1, .ref 79]) (σ' := (97, (az_u (az_u (az_u I 78 v1.toNatClampNeg (I 92 ((4 : Int32) * v1).toNatClampNeg)) 74 ((160 : Int32) + v1).toNatClampNeg (I 92 (((4 : Int32) * v1) + (1 : Int32)).toNatClampNeg)) 74 ((166 : Int32) + v1).toNatClampNeg (I 92 (((4 : Int32) * v1) + (2 : Int32)).toNatClampNeg)), J, R)) (x := (I 92 (((4 : Int32) * v1) + (3 : Int32)).toNatClampNeg)) rfl (if_neg hc_13) ?_
                  by_cases hc_14 : v1 < 0 ∨ 6 ≤ v1.toNatClampNeg
                  · rw [if_pos hc_14] at h; cases h
                  · rw [if_neg hc_14] at h
                    refine az_E.o (o := az_si az_F (97, (az_u (az_u (az_u I 78 v1.toNatClampNeg (I 92 ((4 : Int32) * v1).toNatClampNeg)) 74 ((160 : Int32) + v1).toNatClampNeg (I 92 (((4 : Int32) * v1) + (1 : Int32)).toNatClampNeg)) 74 ((166 : Int32) + v1).toNatClampNeg (I 92 (((4 : Int32) * v1) + (2 : Int32)).toNatClampNeg)), J, R) 79 v1 (I 92 (((4 : Int32) * v1) + (3 : Int32)).toNatClampNeg)) (pc' := 90) (L' := [.ref 73, .int v1]) (S' := []) (x := (97, (az_u (az_u (az_u (az_u I 78 v1.toNatClampNeg (I 92 ((4 : Int32) * v1).toNatClampNeg)) 74 ((160 : Int32) + v1).toNatClampNeg (I 92 (((4 : Int32) * v1) + (1 : Int32)).toNatClampNeg)) 74 ((166 : Int32) + v1).toNatClampNeg (I 92 (((4 : Int32) * v1) + (2 : Int32)).toNatClampNeg)) 79 v1.toNatClampNeg (I 92 (((4 : Int32) * v1) + (3 : Int32)).toNatClampNeg)), J, R)) rfl (if_neg hc_14) ?_
                    refine az_E.sn 2 (pc' := 12) (L' := [.ref 73, .int (v1 + (1 : Int32))]) (S' := []) (σ' := (97, (az_u (az_u (az_u (az_u I 78 v1.toNatClampNeg (I 92 ((4 : Int32) * v1).toNatClampNeg)) 74 ((160 : Int32) + v1).toNatClampNeg (I 92 (((4 : Int32) * v1) + (1 : Int32)).toNatClampNeg)) 74 ((166 : Int32) + v1).toNatClampNeg (I 92 (((4 : Int32) * v1) + (2 : Int32)).toNatClampNeg)) 79 v1.toNatClampNeg (I 92 (((4 : Int32) * v1) + (3 : Int32)).toNatClampNeg)), J, R)) rfl ?_
                    have h := Option.some.inj h
                    subst h
                    exact az_E.forget (L := [.ref 73, .int (v1 + (1 : Int32))]) ⟨rfl, rfl, trivial⟩ hQ
set_option maxRecDepth 100000 in
set_option maxHeartbeats 4000000 in
theorem re_M_back_12 {ex : az_X} {I : Nat → Nat → Int32} {J : Nat → Nat → Int64} {R : Nat → Nat → Option Nat} {v1 : Int32} {x : Int32 × (Nat → Nat → Int32)} (h : rs_M_back_12 I v1 = some x) {Q : Option Value → az_S → Prop} (hQ : Q (some (.int x.1)) (97, x.2, J, R)) : az_E az_F ex 0 233 12 [.ref 73, .int v1] [] (97, I, J, R) Q := by
  unfold rs_M_back_12 at h
  refine az_lp_E (G := fun s => az_E az_F ex 0 233 12 [.ref 73, .int s.1] [] (97, s.2, J, R) Q) (H := fun x => Q (some (.int x.1)) (97, x.2, J, R)) (fun s o hb ho => ?_) _ _ _ h hQ
  exact re_M_back_12_b  hb ho
set_option maxRecDepth 100000 in
set_option maxHeartbeats 4000000 in
theorem re_M_back {ex : az_X} {I : Nat → Nat → Int32} {J : Nat → Nat → Int64} {R : Nat → Nat → Option Nat} {o : Int32 × (Nat → Nat → Int32)} (h : rs_M_back I = some o) {Q : Option Value → az_S → Prop} (hQ : Q (some (.int o.1)) (97, o.2, J, R)) : az_E az_F ex 0 233 0 [.ref 73, .retAddr 0] [] (97, I, J, R) Q := by
  unfold rs_M_back at h
  refine az_E.sn 2 (pc' := 4) (L' := [.ref 73, .retAddr 0]) (S' := [.int (I 73 29)]) (σ' := (97, I, J, R)) rfl ?_
  refine az_E.br (c := (I 73 29) = 0) (tt := 7) (ff := 10) (L' := [.ref 73, .retAddr 0]) (S' := []) (σ' := (97, I, J, R)) rfl (fun hc_1 => ?_) (fun hc_1 => ?_)
  · rw [if_pos hc_1] at h
    refine az_E.sn 1 (pc' := 9) (L' := [.ref 73, .retAddr 0]) (S' := [.int (-5 : Int32)]) (σ' := (97, I, J, R)) rfl ?_
    have h := Option.some.inj h
    subst h
    exact az_E.ret (v := some (.int (-5 : Int32))) (σ' := (97, I, J, R)) rfl hQ
  · rw [if_neg hc_1] at h
    refine az_E.sn 2 (pc' := 12) (L' := [.ref 73, .int (0 : Int32)]) (S' := []) (σ' := (97, I, J, R)) rfl ?_
    exact az_E.forget (L := [.ref 73, .int (0 : Int32)]) ⟨rfl, rfl, trivial⟩ (re_M_back_12 (I := I) (J := J) (R := R)  h hQ)
set_option maxRecDepth 100000 in
set_option maxHeartbeats 4000000 in
theorem re_Ch_takeBack {ex : az_X} {I : Nat → Nat → Int32} {J : Nat → Nat → Int64} {R : Nat → Nat → Option Nat} {o : Int32 × (Nat → Nat → Int32)} (h : rs_Ch_takeBack I = some o) {Q : Option Value → az_S → Prop} (hQ : Q (some (.int o.1)) (97, o.2, J, R)) : az_E az_F ex 2 13 0 [.ref 44, .ref 4] [] (97, I, J, R) Q := by
  unfold rs_Ch_takeBack at h
  refine az_E.sn 2 (pc' := 4) (L' := [.ref 44, .ref 4]) (S' := [.int (I 44 4)]) (σ' := (97, I, J, R)) rfl ?_
  refine az_E.br (c := 0 < (I 44 4)) (tt := 10) (ff := 7) (L' := [.ref 44, .ref 4]) (S' := []) (σ' := (97, I, J, R)) rfl (fun hc_1 => ?_) (fun hc_1 => ?_)
  · rw [if_pos hc_1] at h
    refine az_E.sn 11 (pc' := 29) (L' := [.ref 44, .ref 4]) (S' := [.int ((I 44 4) - (1 : Int32)), .ref 45, .ref 4]) (σ' := (97, (az_u I 44 4 ((I 44 4) - (1 : Int32))), J, R)) rfl ?_
    by_cases hc_2 : ((I 44 4) - (1 : Int32)) < 0 ∨ 40 ≤ ((I 44 4) - (1 : Int32)).toNatClampNeg
    · rw [if_pos hc_2] at h; cases h
    · rw [if_neg hc_2] at h
      refine az_E.oi (o := az_ai az_F ex (97, (az_u I 44 4 ((I 44 4) - (1 : Int32))), J, R) 45 ((I 44 4) - (1 : Int32))) (pc' := 30) (L' := [.ref 44, .ref 4]) (S' := [.ref 4]) (σ' := (97, (az_u I 44 4 ((I 44 4) - (1 : Int32))), J, R)) (x := (I 45 ((I 44 4) - (1 : Int32)).toNatClampNeg)) rfl (if_neg hc_2) ?_
      refine az_E.sn 4 (pc' := 38) (L' := [.ref 44, .ref 4]) (S' := [.int ((I 44 4) - (1 : Int32)), .ref 46, .int (I 45 ((I 44 4) - (1 : Int32)).toNatClampNeg), .ref 4]) (σ' := (97, (az_u I 44 4 ((I 44 4) - (1 : Int32))), J, R)) rfl ?_
      by_cases hc_3 : ((I 44 4) - (1 : Int32)) < 0 ∨ 40 ≤ ((I 44 4) - (1 : Int32)).toNatClampNeg
      · rw [if_pos hc_3] at h; cases h
      · rw [if_neg hc_3] at h
        refine az_E.oi (o := az_ai az_F ex (97, (az_u I 44 4 ((I 44 4) - (1 : Int32))), J, R) 46 ((I 44 4) - (1 : Int32))) (pc' := 39) (L' := [.ref 44, .ref 4]) (S' := [.int (I 45 ((I 44 4) - (1 : Int32)).toNatClampNeg), .ref 4]) (σ' := (97, (az_u I 44 4 ((I 44 4) - (1 : Int32))), J, R)) (x := (I 46 ((I 44 4) - (1 : Int32)).toNatClampNeg)) rfl (if_neg hc_3) ?_
        refine az_E.sn 4 (pc' := 47) (L' := [.ref 44, .ref 4]) (S' := [.int ((I 44 4) - (1 : Int32)), .ref 47, .int (I 46 ((I 44 4) - (1 : Int32)).toNatClampNeg), .int (I 45 ((I 44 4) - (1 : Int32)).toNatClampNeg), .ref 4]) (σ' := (97, (az_u I 44 4 ((I 44 4) - (1 : Int32))), J, R)) rfl ?_
        by_cases hc_4 : ((I 44 4) - (1 : Int32)) < 0 ∨ 40 ≤ ((I 44 4) - (1 : Int32)).toNatClampNeg
        · rw [if_pos hc_4] at h; cases h
        · rw [if_neg hc_4] at h
          refine az_E.oi (o := az_ai az_F ex (97, (az_u I 44 4 ((I 44 4) - (1 : Int32))), J, R) 47 ((I 44 4) - (1 : Int32))) (pc' := 48) (L' := [.ref 44, .ref 4]) (S' := [.int (I 46 ((I 44 4) - (1 : Int32)).toNatClampNeg), .int (I 45 ((I 44 4) - (1 : Int32)).toNatClampNeg), .ref 4]) (σ' := (97, (az_u I 44 4 ((I 44 4) - (1 : Int32))), J, R)) (x := (I 47 ((I 44 4) - (1 : Int32)).toNatClampNeg)) rfl (if_neg hc_4) ?_
          cases hx_6 : rs_Mo_write (az_u I 44 4 ((I 44 4) - (1 : Int32))) (I 45 ((I 44 4) - (1 : Int32)).toNatClampNeg) (I 46 ((I 44 4) - (1 : Int32)).toNatClampNeg) (I 47 ((I 44 4) - (1 : Int32)).toNatClampNeg) with
          | none => rw [hx_6] at h; cases h
          | some I_5 =>
            rw [hx_6] at h
            dsimp only at h
            refine az_E.call (d := 1) (k' := 41) (vs := [.ref 4, .int (I 45 ((I 44 4) - (1 : Int32)).toNatClampNeg), .int (I 46 ((I 44 4) - (1 : Int32)).toNatClampNeg), .int (I 47 ((I 44 4) - (1 : Int32)).toNatClampNeg)]) (pc' := 51) (S' := []) (Q1 := fun v s => v = none ∧ s = (97, I_5, J, R)) rfl (az_E.deep (by omega) (re_Mo_write (J := J) (R := R)  hx_6 ⟨rfl, rfl⟩)) (fun v s hq => ?_)
            obtain ⟨rfl, rfl⟩ := hq
            show az_E az_F ex 2 13 51 [.ref 44, .ref 4] [] (97, I_5, J, R) _
            refine az_E.sn 2 (pc' := 55) (L' := [.ref 44, .ref 4]) (S' := [.int (I_5 44 4)]) (σ' := (97, I_5, J, R)) rfl ?_
            have h := Option.some.inj h
            subst h
            exact az_E.ret (v := some (.int (I_5 44 4))) (σ' := (97, I_5, J, R)) rfl hQ
  · rw [if_neg hc_1] at h
    refine az_E.sn 1 (pc' := 9) (L' := [.ref 44, .ref 4]) (S' := [.int (-5 : Int32)]) (σ' := (97, I, J, R)) rfl ?_
    have h := Option.some.inj h
    subst h
    exact az_E.ret (v := some (.int (-5 : Int32))) (σ' := (97, I, J, R)) rfl hQ
set_option maxRecDepth 100000 in
set_option maxHeartbeats 4000000 in
theorem re_X_undo {ex : az_X} {I : Nat → Nat → Int32} {J : Nat → Nat → Int64} {R : Nat → Nat → Option Nat} {o : Int32 × (Nat → Nat → Int32)} (h : rs_X_undo I = some o) {Q : Option Value → az_S → Prop} (hQ : Q (some (.int o.1)) (97, o.2, J, R)) : az_E az_F ex 3 119 0 [.ref 3] [] (97, I, J, R) Q := by
  unfold rs_X_undo at h
  refine az_E.sn 4 (pc' := 8) (L' := [.ref 3]) (S' := [.ref 4, .ref 44]) (σ' := (97, I, J, R)) rfl ?_
  cases hx_3 : rs_Ch_takeBack I with
  | none => rw [hx_3] at h; cases h
  | some o =>
    rw [hx_3] at h
    obtain ⟨x_1, I_2⟩ := o
    dsimp only at h
    refine az_E.call (d := 2) (k' := 13) (vs := [.ref 44, .ref 4]) (pc' := 11) (S' := []) (Q1 := fun v s => v = some (.int x_1) ∧ s = (97, I_2, J, R)) rfl (az_E.deep (by omega) (re_Ch_takeBack (J := J) (R := R)  hx_3 ⟨rfl, rfl⟩)) (fun v s hq => ?_)
    obtain ⟨rfl, rfl⟩ := hq
    show az_E az_F ex 3 119 11 [.ref 3] [.int x_1] (97, I_2, J, R) _
    have h := Option.some.inj h
    subst h
    exact az_E.ret (v := some (.int x_1)) (σ' := (97, I_2, J, R)) rfl hQ
set_option maxRecDepth 100000 in
set_option maxHeartbeats 4000000 in
theorem re_M_undo {ex : az_X} {I : Nat → Nat → Int32} {J : Nat → Nat → Int64} {R : Nat → Nat → Option Nat} {o : Int32 × (Nat → Nat → Int32)} (h : rs_M_undo I = some o) {Q : Option Value → az_S → Prop} (hQ : Q (some (.int o.1)) (97, o.2, J, R)) : az_E az_F ex 0 158 0 [.ref 73] [] (97, I, J, R) Q := by
  unfold rs_M_undo at h
  refine az_E.sn 2 (pc' := 4) (L' := [.ref 73]) (S' := [.int (I 73 5)]) (σ' := (97, I, J, R)) rfl ?_
  refine az_E.br (c := (I 73 5) = 0) (tt := 7) (ff := 10) (L' := [.ref 73]) (S' := []) (σ' := (97, I, J, R)) rfl (fun hc_1 => ?_) (fun hc_1 => ?_)
  · rw [if_pos hc_1] at h
    refine az_E.sn 1 (pc' := 9) (L' := [.ref 73]) (S' := [.int (-5 : Int32)]) (σ' := (97, I, J, R)) rfl ?_
    have h := Option.some.inj h
    subst h
    exact az_E.ret (v := some (.int (-5 : Int32))) (σ' := (97, I, J, R)) rfl hQ
  · rw [if_neg hc_1] at h
    refine az_E.sn 12 (pc' := 32) (L' := [.ref 73]) (S' := [.int ((I 73 5) - (1 : Int32)), .ref 75, .ref 74]) (σ' := (97, (az_u I 73 5 ((I 73 5) - (1 : Int32))), J, R)) rfl ?_
    by_cases hc_2 : ((I 73 5) - (1 : Int32)) < 0 ∨ 40 ≤ ((I 73 5) - (1 : Int32)).toNatClampNeg
    · rw [if_pos hc_2] at h; cases h
    · rw [if_neg hc_2] at h
      refine az_E.oi (o := az_ai az_F ex (97, (az_u I 73 5 ((I 73 5) - (1 : Int32))), J, R) 75 ((I 73 5) - (1 : Int32))) (pc' := 33) (L' := [.ref 73]) (S' := [.ref 74]) (σ' := (97, (az_u I 73 5 ((I 73 5) - (1 : Int32))), J, R)) (x := (I 75 ((I 73 5) - (1 : Int32)).toNatClampNeg)) rfl (if_neg hc_2) ?_
      refine az_E.sn 4 (pc' := 41) (L' := [.ref 73]) (S' := [.int ((I 73 5) - (1 : Int32)), .ref 76, .int (I 75 ((I 73 5) - (1 : Int32)).toNatClampNeg), .ref 74]) (σ' := (97, (az_u I 73 5 ((I 73 5) - (1 : Int32))), J, R)) rfl ?_
      by_cases hc_3 : ((I 73 5) - (1 : Int32)) < 0 ∨ 40 ≤ ((I 73 5) - (1 : Int32)).toNatClampNeg
      · rw [if_pos hc_3] at h; cases h
      · rw [if_neg hc_3] at h
        refine az_E.oi (o := az_ai az_F ex (97, (az_u I 73 5 ((I 73 5) - (1 : Int32))), J, R) 76 ((I 73 5) - (1 : Int32))) (pc' := 42) (L' := [.ref 73]) (S' := [.int (I 75 ((I 73 5) - (1 : Int32)).toNatClampNeg), .ref 74]) (σ' := (97, (az_u I 73 5 ((I 73 5) - (1 : Int32))), J, R)) (x := (I 76 ((I 73 5) - (1 : Int32)).toNatClampNeg)) rfl (if_neg hc_3) ?_
        by_cases hc_4 : (I 75 ((I 73 5) - (1 : Int32)).toNatClampNeg) < 0 ∨ 179 ≤ (I 75 ((I 73 5) - (1 : Int32)).toNatClampNeg).toNatClampNeg
        · rw [if_pos hc_4] at h; cases h
        · rw [if_neg hc_4] at h
          refine az_E.o (o := az_si az_F (97, (az_u I 73 5 ((I 73 5) - (1 : Int32))), J, R) 74 (I 75 ((I 73 5) - (1 : Int32)).toNatClampNeg) (I 76 ((I 73 5) - (1 : Int32)).toNatClampNeg)) (pc' := 43) (L' := [.ref 73]) (S' := []) (x := (97, (az_u (az_u I 73 5 ((I 73 5) - (1 : Int32))) 74 (I 75 ((I 73 5) - (1 : Int32)).toNatClampNeg).toNatClampNeg (I 76 ((I 73 5) - (1 : Int32)).toNatClampNeg)), J, R)) rfl (if_neg hc_4) ?_
          refine az_E.sn 2 (pc' := 47) (L' := [.ref 73]) (S' := [.int ((I 73 5) - (1 : Int32))]) (σ' := (97, (az_u (az_u I 73 5 ((I 73 5) - (1 : Int32))) 74 (I 75 ((I 73 5) - (1 : Int32)).toNatClampNeg).toNatClampNeg (I 76 ((I 73 5) - (1 : Int32)).toNatClampNeg)), J, R)) rfl ?_
          have h := Option.some.inj h
          subst h
          exact az_E.ret (v := some (.int ((I 73 5) - (1 : Int32)))) (σ' := (97, (az_u (az_u I 73 5 ((I 73 5) - (1 : Int32))) 74 (I 75 ((I 73 5) - (1 : Int32)).toNatClampNeg).toNatClampNeg (I 76 ((I 73 5) - (1 : Int32)).toNatClampNeg)), J, R)) rfl hQ
set_option maxRecDepth 100000 in
set_option maxHeartbeats 4000000 in
theorem re_Ch_doAgain {ex : az_X} {I : Nat → Nat → Int32} {J : Nat → Nat → Int64} {R : Nat → Nat → Option Nat} {o : Int32 × (Nat → Nat → Int32)} (h : rs_Ch_doAgain I = some o) {Q : Option Value → az_S → Prop} (hQ : Q (some (.int o.1)) (97, o.2, J, R)) : az_E az_F ex 2 14 0 [.ref 44, .ref 4] [] (97, I, J, R) Q := by
  unfold rs_Ch_doAgain at h
  refine az_E.sn 4 (pc' := 8) (L' := [.ref 44, .ref 4]) (S' := [.int (I 44 5), .int (I 44 4)]) (σ' := (97, I, J, R)) rfl ?_
  refine az_E.br (c := (I 44 4) < (I 44 5)) (tt := 14) (ff := 11) (L' := [.ref 44, .ref 4]) (S' := []) (σ' := (97, I, J, R)) rfl (fun hc_1 => ?_) (fun hc_1 => ?_)
  · rw [if_pos hc_1] at h
    refine az_E.sn 5 (pc' := 23) (L' := [.ref 44, .ref 4]) (S' := [.int (I 44 4), .ref 45, .ref 4]) (σ' := (97, I, J, R)) rfl ?_
    by_cases hc_2 : (I 44 4) < 0 ∨ 40 ≤ (I 44 4).toNatClampNeg
    · rw [if_pos hc_2] at h; cases h
    · rw [if_neg hc_2] at h
      refine az_E.oi (o := az_ai az_F ex (97, I, J, R) 45 (I 44 4)) (pc' := 24) (L' := [.ref 44, .ref 4]) (S' := [.ref 4]) (σ' := (97, I, J, R)) (x := (I 45 (I 44 4).toNatClampNeg)) rfl (if_neg hc_2) ?_
      refine az_E.sn 4 (pc' := 32) (L' := [.ref 44, .ref 4]) (S' := [.int (I 44 4), .ref 46, .int (I 45 (I 44 4).toNatClampNeg), .ref 4]) (σ' := (97, I, J, R)) rfl ?_
      by_cases hc_3 : (I 44 4) < 0 ∨ 40 ≤ (I 44 4).toNatClampNeg
      · rw [if_pos hc_3] at h; cases h
      · rw [if_neg hc_3] at h
        refine az_E.oi (o := az_ai az_F ex (97, I, J, R) 46 (I 44 4)) (pc' := 33) (L' := [.ref 44, .ref 4]) (S' := [.int (I 45 (I 44 4).toNatClampNeg), .ref 4]) (σ' := (97, I, J, R)) (x := (I 46 (I 44 4).toNatClampNeg)) rfl (if_neg hc_3) ?_
        refine az_E.sn 4 (pc' := 41) (L' := [.ref 44, .ref 4]) (S' := [.int (I 44 4), .ref 48, .int (I 46 (I 44 4).toNatClampNeg), .int (I 45 (I 44 4).toNatClampNeg), .ref 4]) (σ' := (97, I, J, R)) rfl ?_
        by_cases hc_4 : (I 44 4) < 0 ∨ 40 ≤ (I 44 4).toNatClampNeg
        · rw [if_pos hc_4] at h; cases h
        · rw [if_neg hc_4] at h
          refine az_E.oi (o := az_ai az_F ex (97, I, J, R) 48 (I 44 4)) (pc' := 42) (L' := [.ref 44, .ref 4]) (S' := [.int (I 46 (I 44 4).toNatClampNeg), .int (I 45 (I 44 4).toNatClampNeg), .ref 4]) (σ' := (97, I, J, R)) (x := (I 48 (I 44 4).toNatClampNeg)) rfl (if_neg hc_4) ?_
          cases hx_6 : rs_Mo_write I (I 45 (I 44 4).toNatClampNeg) (I 46 (I 44 4).toNatClampNeg) (I 48 (I 44 4).toNatClampNeg) with
          | none => rw [hx_6] at h; cases h
          | some I_5 =>
            rw [hx_6] at h
            dsimp only at h
            refine az_E.call (d := 1) (k' := 41) (vs := [.ref 4, .int (I 45 (I 44 4).toNatClampNeg), .int (I 46 (I 44 4).toNatClampNeg), .int (I 48 (I 44 4).toNatClampNeg)]) (pc' := 45) (S' := []) (Q1 := fun v s => v = none ∧ s = (97, I_5, J, R)) rfl (az_E.deep (by omega) (re_Mo_write (J := J) (R := R)  hx_6 ⟨rfl, rfl⟩)) (fun v s hq => ?_)
            obtain ⟨rfl, rfl⟩ := hq
            show az_E az_F ex 2 14 45 [.ref 44, .ref 4] [] (97, I_5, J, R) _
            refine az_E.sn 11 (pc' := 64) (L' := [.ref 44, .ref 4]) (S' := [.int ((I_5 44 5) - ((I_5 44 4) + (1 : Int32)))]) (σ' := (97, (az_u I_5 44 4 ((I_5 44 4) + (1 : Int32))), J, R)) rfl ?_
            have h := Option.some.inj h
            subst h
            exact az_E.ret (v := some (.int ((I_5 44 5) - ((I_5 44 4) + (1 : Int32))))) (σ' := (97, (az_u I_5 44 4 ((I_5 44 4) + (1 : Int32))), J, R)) rfl hQ
  · rw [if_neg hc_1] at h
    refine az_E.sn 1 (pc' := 13) (L' := [.ref 44, .ref 4]) (S' := [.int (-5 : Int32)]) (σ' := (97, I, J, R)) rfl ?_
    have h := Option.some.inj h
    subst h
    exact az_E.ret (v := some (.int (-5 : Int32))) (σ' := (97, I, J, R)) rfl hQ
set_option maxRecDepth 100000 in
set_option maxHeartbeats 4000000 in
theorem re_X_redo {ex : az_X} {I : Nat → Nat → Int32} {J : Nat → Nat → Int64} {R : Nat → Nat → Option Nat} {o : Int32 × (Nat → Nat → Int32)} (h : rs_X_redo I = some o) {Q : Option Value → az_S → Prop} (hQ : Q (some (.int o.1)) (97, o.2, J, R)) : az_E az_F ex 3 120 0 [.ref 3] [] (97, I, J, R) Q := by
  unfold rs_X_redo at h
  refine az_E.sn 4 (pc' := 8) (L' := [.ref 3]) (S' := [.ref 4, .ref 44]) (σ' := (97, I, J, R)) rfl ?_
  cases hx_3 : rs_Ch_doAgain I with
  | none => rw [hx_3] at h; cases h
  | some o =>
    rw [hx_3] at h
    obtain ⟨x_1, I_2⟩ := o
    dsimp only at h
    refine az_E.call (d := 2) (k' := 14) (vs := [.ref 44, .ref 4]) (pc' := 11) (S' := []) (Q1 := fun v s => v = some (.int x_1) ∧ s = (97, I_2, J, R)) rfl (az_E.deep (by omega) (re_Ch_doAgain (J := J) (R := R)  hx_3 ⟨rfl, rfl⟩)) (fun v s hq => ?_)
    obtain ⟨rfl, rfl⟩ := hq
    show az_E az_F ex 3 120 11 [.ref 3] [.int x_1] (97, I_2, J, R) _
    have h := Option.some.inj h
    subst h
    exact az_E.ret (v := some (.int x_1)) (σ' := (97, I_2, J, R)) rfl hQ
set_option maxRecDepth 100000 in
set_option maxHeartbeats 4000000 in
theorem re_M_redo {ex : az_X} {I : Nat → Nat → Int32} {J : Nat → Nat → Int64} {R : Nat → Nat → Option Nat} {o : Int32 × (Nat → Nat → Int32)} (h : rs_M_redo I = some o) {Q : Option Value → az_S → Prop} (hQ : Q (some (.int o.1)) (97, o.2, J, R)) : az_E az_F ex 0 159 0 [.ref 73] [] (97, I, J, R) Q := by
  unfold rs_M_redo at h
  refine az_E.sn 4 (pc' := 8) (L' := [.ref 73]) (S' := [.int (I 73 4), .int (I 73 5)]) (σ' := (97, I, J, R)) rfl ?_
  refine az_E.br (c := (I 73 5) = (I 73 4)) (tt := 11) (ff := 14) (L' := [.ref 73]) (S' := []) (σ' := (97, I, J, R)) rfl (fun hc_1 => ?_) (fun hc_1 => ?_)
  · rw [if_pos hc_1] at h
    refine az_E.sn 1 (pc' := 13) (L' := [.ref 73]) (S' := [.int (-5 : Int32)]) (σ' := (97, I, J, R)) rfl ?_
    have h := Option.some.inj h
    subst h
    exact az_E.ret (v := some (.int (-5 : Int32))) (σ' := (97, I, J, R)) rfl hQ
  · rw [if_neg hc_1] at h
    refine az_E.sn 6 (pc' := 26) (L' := [.ref 73]) (S' := [.int (I 73 5), .ref 75, .ref 74]) (σ' := (97, I, J, R)) rfl ?_
    by_cases hc_2 : (I 73 5) < 0 ∨ 40 ≤ (I 73 5).toNatClampNeg
    · rw [if_pos hc_2] at h; cases h
    · rw [if_neg hc_2] at h
      refine az_E.oi (o := az_ai az_F ex (97, I, J, R) 75 (I 73 5)) (pc' := 27) (L' := [.ref 73]) (S' := [.ref 74]) (σ' := (97, I, J, R)) (x := (I 75 (I 73 5).toNatClampNeg)) rfl (if_neg hc_2) ?_
      refine az_E.sn 4 (pc' := 35) (L' := [.ref 73]) (S' := [.int (I 73 5), .ref 77, .int (I 75 (I 73 5).toNatClampNeg), .ref 74]) (σ' := (97, I, J, R)) rfl ?_
      by_cases hc_3 : (I 73 5) < 0 ∨ 40 ≤ (I 73 5).toNatClampNeg
      · rw [if_pos hc_3] at h; cases h
      · rw [if_neg hc_3] at h
        refine az_E.oi (o := az_ai az_F ex (97, I, J, R) 77 (I 73 5)) (pc' := 36) (L' := [.ref 73]) (S' := [.int (I 75 (I 73 5).toNatClampNeg), .ref 74]) (σ' := (97, I, J, R)) (x := (I 77 (I 73 5).toNatClampNeg)) rfl (if_neg hc_3) ?_
        by_cases hc_4 : (I 75 (I 73 5).toNatClampNeg) < 0 ∨ 179 ≤ (I 75 (I 73 5).toNatClampNeg).toNatClampNeg
        · rw [if_pos hc_4] at h; cases h
        · rw [if_neg hc_4] at h
          refine az_E.o (o := az_si az_F (97, I, J, R) 74 (I 75 (I 73 5).toNatClampNeg) (I 77 (I 73 5).toNatClampNeg)) (pc' := 37) (L' := [.ref 73]) (S' := []) (x := (97, (az_u I 74 (I 75 (I 73 5).toNatClampNeg).toNatClampNeg (I 77 (I 73 5).toNatClampNeg)), J, R)) rfl (if_neg hc_4) ?_
          refine az_E.sn 11 (pc' := 56) (L' := [.ref 73]) (S' := [.int ((I 73 4) - ((I 73 5) + (1 : Int32)))]) (σ' := (97, (az_u (az_u I 74 (I 75 (I 73 5).toNatClampNeg).toNatClampNeg (I 77 (I 73 5).toNatClampNeg)) 73 5 ((I 73 5) + (1 : Int32))), J, R)) rfl ?_
          have h := Option.some.inj h
          subst h
          exact az_E.ret (v := some (.int ((I 73 4) - ((I 73 5) + (1 : Int32))))) (σ' := (97, (az_u (az_u I 74 (I 75 (I 73 5).toNatClampNeg).toNatClampNeg (I 77 (I 73 5).toNatClampNeg)) 73 5 ((I 73 5) + (1 : Int32))), J, R)) rfl hQ
set_option maxRecDepth 100000 in
set_option maxHeartbeats 4000000 in
theorem re_Bd_add {ex : az_X} {I : Nat → Nat → Int32} {J : Nat → Nat → Int64} {R : Nat → Nat → Option Nat} {a1 : Int32} {o : Int32 × (Nat → Nat → Int32)} (h : rs_Bd_add I a1 = some o) {Q : Option Value → az_S → Prop} (hQ : Q (some (.int o.1)) (97, o.2, J, R)) : az_E az_F ex 0 1 0 [.ref 55, .int a1] [] (97, I, J, R) Q := by
  unfold rs_Bd_add at h
  refine az_E.sn 3 (pc' := 6) (L' := [.ref 55, .int a1]) (S' := [.int (50 : Int32), .int (I 55 1)]) (σ' := (97, I, J, R)) rfl ?_
  refine az_E.br (c := (I 55 1) < (50 : Int32)) (tt := 12) (ff := 9) (L' := [.ref 55, .int a1]) (S' := []) (σ' := (97, I, J, R)) rfl (fun hc_1 => ?_) (fun hc_1 => ?_)
  · rw [if_pos hc_1] at h
    refine az_E.sn 5 (pc' := 21) (L' := [.ref 55, .int a1]) (S' := [.int a1, .int (I 55 1), .ref 56]) (σ' := (97, I, J, R)) rfl ?_
    by_cases hc_2 : (I 55 1) < 0 ∨ 50 ≤ (I 55 1).toNatClampNeg
    · rw [if_pos hc_2] at h; cases h
    · rw [if_neg hc_2] at h
      refine az_E.o (o := az_si az_F (97, I, J, R) 56 (I 55 1) a1) (pc' := 22) (L' := [.ref 55, .int a1]) (S' := []) (x := (97, (az_u I 56 (I 55 1).toNatClampNeg a1), J, R)) rfl (if_neg hc_2) ?_
      refine az_E.sn 7 (pc' := 33) (L' := [.ref 55, .int a1]) (S' := [.int (I 55 1)]) (σ' := (97, (az_u (az_u I 56 (I 55 1).toNatClampNeg a1) 55 1 ((I 55 1) + (1 : Int32))), J, R)) rfl ?_
      have h := Option.some.inj h
      subst h
      exact az_E.ret (v := some (.int (I 55 1))) (σ' := (97, (az_u (az_u I 56 (I 55 1).toNatClampNeg a1) 55 1 ((I 55 1) + (1 : Int32))), J, R)) rfl hQ
  · rw [if_neg hc_1] at h
    refine az_E.sn 1 (pc' := 11) (L' := [.ref 55, .int a1]) (S' := [.int (-3 : Int32)]) (σ' := (97, I, J, R)) rfl ?_
    have h := Option.some.inj h
    subst h
    exact az_E.ret (v := some (.int (-3 : Int32))) (σ' := (97, I, J, R)) rfl hQ
set_option maxRecDepth 100000 in
set_option maxHeartbeats 4000000 in
theorem re_X_body {ex : az_X} {I : Nat → Nat → Int32} {J : Nat → Nat → Int64} {R : Nat → Nat → Option Nat} {a1 : Int32} {o : Int32 × (Nat → Nat → Int32)} (h : rs_X_body I a1 = some o) {Q : Option Value → az_S → Prop} (hQ : Q (some (.int o.1)) (97, o.2, J, R)) : az_E az_F ex 1 121 0 [.ref 3, .int a1] [] (97, I, J, R) Q := by
  unfold rs_X_body at h
  refine az_E.sn 3 (pc' := 4) (L' := [.ref 3, .int a1]) (S' := [.int (7 : Int32), .int (0 : Int32), .int a1]) (σ' := (97, I, J, R)) rfl ?_
  refine az_E.call (d := 0) (k' := 131) (vs := [.int a1, .int (0 : Int32), .int (7 : Int32)]) (pc' := 7) (S' := []) rfl ?_ (fun _ _ hq => hq)
  show az_E az_F ex 0 131 0 [.int a1, .int (0 : Int32), .int (7 : Int32)] [] (97, I, J, R) _
  refine az_E.sn 2 (pc' := 2) (L' := [.int a1, .int (0 : Int32), .int (7 : Int32)]) (S' := [.int (0 : Int32), .int a1]) (σ' := (97, I, J, R)) rfl ?_
  refine az_E.br (c := a1 < (0 : Int32)) (tt := 14) (ff := 5) (L' := [.int a1, .int (0 : Int32), .int (7 : Int32)]) (S' := []) (σ' := (97, I, J, R)) rfl (fun hc_1 => ?_) (fun hc_1 => ?_)
  · rw [if_pos hc_1] at h
    refine az_E.sn 1 (pc' := 15) (L' := [.int a1, .int (0 : Int32), .int (7 : Int32)]) (S' := [.int (0 : Int32)]) (σ' := (97, I, J, R)) rfl ?_
    refine az_E.ret (v := some (.int (0 : Int32))) (σ' := (97, I, J, R)) rfl ?_
    show az_E az_F ex 1 121 7 [.ref 3, .int a1] [.int (0 : Int32)] (97, I, J, R) _
    refine az_E.br (c := (0 : Int32) = 0) (tt := 21) (ff := 10) (L' := [.ref 3, .int a1]) (S' := []) (σ' := (97, I, J, R)) rfl (fun _ => ?_) (fun hn => absurd (by decide) hn)
    refine az_E.sn 1 (pc' := 22) (L' := [.ref 3, .int a1]) (S' := [.int (-1 : Int32)]) (σ' := (97, I, J, R)) rfl ?_
    have h := Option.some.inj h
    subst h
    exact az_E.ret (v := some (.int (-1 : Int32))) (σ' := (97, I, J, R)) rfl hQ
  · rw [if_neg hc_1] at h
    refine az_E.sn 2 (pc' := 7) (L' := [.int a1, .int (0 : Int32), .int (7 : Int32)]) (S' := [.int (7 : Int32), .int a1]) (σ' := (97, I, J, R)) rfl ?_
    refine az_E.br (c := (7 : Int32) < a1) (tt := 14) (ff := 10) (L' := [.int a1, .int (0 : Int32), .int (7 : Int32)]) (S' := []) (σ' := (97, I, J, R)) rfl (fun hc_2 => ?_) (fun hc_2 => ?_)
    · rw [if_pos hc_2] at h
      refine az_E.sn 1 (pc' := 15) (L' := [.int a1, .int (0 : Int32), .int (7 : Int32)]) (S' := [.int (0 : Int32)]) (σ' := (97, I, J, R)) rfl ?_
      refine az_E.ret (v := some (.int (0 : Int32))) (σ' := (97, I, J, R)) rfl ?_
      show az_E az_F ex 1 121 7 [.ref 3, .int a1] [.int (0 : Int32)] (97, I, J, R) _
      refine az_E.br (c := (0 : Int32) = 0) (tt := 21) (ff := 10) (L' := [.ref 3, .int a1]) (S' := []) (σ' := (97, I, J, R)) rfl (fun _ => ?_) (fun hn => absurd (by decide) hn)
      refine az_E.sn 1 (pc' := 22) (L' := [.ref 3, .int a1]) (S' := [.int (-1 : Int32)]) (σ' := (97, I, J, R)) rfl ?_
      have h := Option.some.inj h
      subst h
      exact az_E.ret (v := some (.int (-1 : Int32))) (σ' := (97, I, J, R)) rfl hQ
    · rw [if_neg hc_2] at h
      refine az_E.sn 2 (pc' := 15) (L' := [.int a1, .int (0 : Int32), .int (7 : Int32)]) (S' := [.int (1 : Int32)]) (σ' := (97, I, J, R)) rfl ?_
      refine az_E.ret (v := some (.int (1 : Int32))) (σ' := (97, I, J, R)) rfl ?_
      show az_E az_F ex 1 121 7 [.ref 3, .int a1] [.int (1 : Int32)] (97, I, J, R) _
      refine az_E.br (c := (1 : Int32) = 0) (tt := 21) (ff := 10) (L' := [.ref 3, .int a1]) (S' := []) (σ' := (97, I, J, R)) rfl (fun hn => absurd hn (by decide)) (fun _ => ?_)
      refine az_E.sn 3 (pc' := 15) (L' := [.ref 3, .int a1]) (S' := [.int a1, .ref 55]) (σ' := (97, I, J, R)) rfl ?_
      cases hx_5 : rs_Bd_add I a1 with
      | none => rw [hx_5] at h; cases h
      | some o =>
        rw [hx_5] at h
        obtain ⟨x_3, I_4⟩ := o
        dsimp only at h
        refine az_E.call (d := 0) (k' := 1) (vs := [.ref 55, .int a1]) (pc' := 18) (S' := []) (Q1 := fun v s => v = some (.int x_3) ∧ s = (97, I_4, J, R)) rfl (az_E.deep (by omega) (re_Bd_add (J := J) (R := R)  hx_5 ⟨rfl, rfl⟩)) (fun v s hq => ?_)
        obtain ⟨rfl, rfl⟩ := hq
        show az_E az_F ex 1 121 18 [.ref 3, .int a1] [.int x_3] (97, I_4, J, R) _
        refine az_E.sn 1 (pc' := 22) (L' := [.ref 3, .int a1]) (S' := [.int x_3]) (σ' := (97, I_4, J, R)) rfl ?_
        have h := Option.some.inj h
        subst h
        exact az_E.ret (v := some (.int x_3)) (σ' := (97, I_4, J, R)) rfl hQ
set_option maxRecDepth 100000 in
set_option maxHeartbeats 4000000 in
theorem re_M_body {ex : az_X} {I : Nat → Nat → Int32} {J : Nat → Nat → Int64} {R : Nat → Nat → Option Nat} {a1 : Int32} {o : Int32 × (Nat → Nat → Int32)} (h : rs_M_body I a1 = some o) {Q : Option Value → az_S → Prop} (hQ : Q (some (.int o.1)) (97, o.2, J, R)) : az_E az_F ex 1 236 0 [.ref 73, .int a1] [] (97, I, J, R) Q := by
  unfold rs_M_body at h
  refine az_E.sn 4 (pc' := 6) (L' := [.ref 73, .int a1]) (S' := [.long (7 : Int64), .long (0 : Int64), .long a1.toInt64]) (σ' := (97, I, J, R)) rfl ?_
  refine az_E.call (d := 0) (k' := 154) (vs := [.long a1.toInt64, .long (0 : Int64), .long (7 : Int64)]) (pc' := 9) (S' := []) rfl ?_ (fun _ _ hq => hq)
  show az_E az_F ex 0 154 0 [.long a1.toInt64, .retAddr 0, .long (0 : Int64), .retAddr 0, .long (7 : Int64), .retAddr 0] [] (97, I, J, R) _
  refine az_E.sn 3 (pc' := 3) (L' := [.long a1.toInt64, .retAddr 0, .long (0 : Int64), .retAddr 0, .long (7 : Int64), .retAddr 0]) (S' := [.int (lg_cmp a1.toInt64 (0 : Int64))]) (σ' := (97, I, J, R)) rfl ?_
  refine az_E.br (c := (lg_cmp a1.toInt64 (0 : Int64)) < 0) (tt := 17) (ff := 6) (L' := [.long a1.toInt64, .retAddr 0, .long (0 : Int64), .retAddr 0, .long (7 : Int64), .retAddr 0]) (S' := []) (σ' := (97, I, J, R)) rfl (fun hc_1 => ?_) (fun hc_1 => ?_)
  · rw [if_pos hc_1] at h
    refine az_E.sn 1 (pc' := 18) (L' := [.long a1.toInt64, .retAddr 0, .long (0 : Int64), .retAddr 0, .long (7 : Int64), .retAddr 0]) (S' := [.int (0 : Int32)]) (σ' := (97, I, J, R)) rfl ?_
    refine az_E.ret (v := some (.int (0 : Int32))) (σ' := (97, I, J, R)) rfl ?_
    show az_E az_F ex 1 236 9 [.ref 73, .int a1] [.int (0 : Int32)] (97, I, J, R) _
    refine az_E.br (c := (0 : Int32) = 0) (tt := 12) (ff := 14) (L' := [.ref 73, .int a1]) (S' := []) (σ' := (97, I, J, R)) rfl (fun _ => ?_) (fun hn => absurd (by decide) hn)
    refine az_E.sn 1 (pc' := 13) (L' := [.ref 73, .int a1]) (S' := [.int (-1 : Int32)]) (σ' := (97, I, J, R)) rfl ?_
    have h := Option.some.inj h
    subst h
    exact az_E.ret (v := some (.int (-1 : Int32))) (σ' := (97, I, J, R)) rfl hQ
  · rw [if_neg hc_1] at h
    refine az_E.sn 3 (pc' := 10) (L' := [.long a1.toInt64, .retAddr 0, .long (0 : Int64), .retAddr 0, .long (7 : Int64), .retAddr 0]) (S' := [.int (lg_cmp a1.toInt64 (7 : Int64))]) (σ' := (97, I, J, R)) rfl ?_
    refine az_E.br (c := 0 < (lg_cmp a1.toInt64 (7 : Int64))) (tt := 17) (ff := 13) (L' := [.long a1.toInt64, .retAddr 0, .long (0 : Int64), .retAddr 0, .long (7 : Int64), .retAddr 0]) (S' := []) (σ' := (97, I, J, R)) rfl (fun hc_2 => ?_) (fun hc_2 => ?_)
    · rw [if_pos hc_2] at h
      refine az_E.sn 1 (pc' := 18) (L' := [.long a1.toInt64, .retAddr 0, .long (0 : Int64), .retAddr 0, .long (7 : Int64), .retAddr 0]) (S' := [.int (0 : Int32)]) (σ' := (97, I, J, R)) rfl ?_
      refine az_E.ret (v := some (.int (0 : Int32))) (σ' := (97, I, J, R)) rfl ?_
      show az_E az_F ex 1 236 9 [.ref 73, .int a1] [.int (0 : Int32)] (97, I, J, R) _
      refine az_E.br (c := (0 : Int32) = 0) (tt := 12) (ff := 14) (L' := [.ref 73, .int a1]) (S' := []) (σ' := (97, I, J, R)) rfl (fun _ => ?_) (fun hn => absurd (by decide) hn)
      refine az_E.sn 1 (pc' := 13) (L' := [.ref 73, .int a1]) (S' := [.int (-1 : Int32)]) (σ' := (97, I, J, R)) rfl ?_
      have h := Option.some.inj h
      subst h
      exact az_E.ret (v := some (.int (-1 : Int32))) (σ' := (97, I, J, R)) rfl hQ
    · rw [if_neg hc_2] at h
      refine az_E.sn 2 (pc' := 18) (L' := [.long a1.toInt64, .retAddr 0, .long (0 : Int64), .retAddr 0, .long (7 : Int64), .retAddr 0]) (S' := [.int (1 : Int32)]) (σ' := (97, I, J, R)) rfl ?_
      refine az_E.ret (v := some (.int (1 : Int32))) (σ' := (97, I, J, R)) rfl ?_
      show az_E az_F ex 1 236 9 [.ref 73, .int a1] [.int (1 : Int32)] (97, I, J, R) _
      refine az_E.br (c := (1 : Int32) = 0) (tt := 12) (ff := 14) (L' := [.ref 73, .int a1]) (S' := []) (σ' := (97, I, J, R)) rfl (fun hn => absurd hn (by decide)) (fun _ => ?_)
      refine az_E.sn 3 (pc' := 20) (L' := [.ref 73, .int a1]) (S' := [.int (50 : Int32), .int (I 73 33)]) (σ' := (97, I, J, R)) rfl ?_
      refine az_E.br (c := (I 73 33) = (50 : Int32)) (tt := 23) (ff := 26) (L' := [.ref 73, .int a1]) (S' := []) (σ' := (97, I, J, R)) rfl (fun hc_3 => ?_) (fun hc_3 => ?_)
      · rw [if_pos hc_3] at h
        refine az_E.sn 1 (pc' := 25) (L' := [.ref 73, .int a1]) (S' := [.int (-3 : Int32)]) (σ' := (97, I, J, R)) rfl ?_
        have h := Option.some.inj h
        subst h
        exact az_E.ret (v := some (.int (-3 : Int32))) (σ' := (97, I, J, R)) rfl hQ
      · rw [if_neg hc_3] at h
        refine az_E.sn 5 (pc' := 35) (L' := [.ref 73, .int a1]) (S' := [.int a1, .int (I 73 33), .ref 94]) (σ' := (97, I, J, R)) rfl ?_
        by_cases hc_4 : (I 73 33) < 0 ∨ 50 ≤ (I 73 33).toNatClampNeg
        · rw [if_pos hc_4] at h; cases h
        · rw [if_neg hc_4] at h
          refine az_E.o (o := az_si az_F (97, I, J, R) 94 (I 73 33) a1) (pc' := 36) (L' := [.ref 73, .int a1]) (S' := []) (x := (97, (az_u I 94 (I 73 33).toNatClampNeg a1), J, R)) rfl (if_neg hc_4) ?_
          refine az_E.sn 10 (pc' := 52) (L' := [.ref 73, .int a1]) (S' := [.int (((I 73 33) + (1 : Int32)) - (1 : Int32))]) (σ' := (97, (az_u (az_u I 94 (I 73 33).toNatClampNeg a1) 73 33 ((I 73 33) + (1 : Int32))), J, R)) rfl ?_
          have h := Option.some.inj h
          subst h
          exact az_E.ret (v := some (.int (((I 73 33) + (1 : Int32)) - (1 : Int32)))) (σ' := (97, (az_u (az_u I 94 (I 73 33).toNatClampNeg a1) 73 33 ((I 73 33) + (1 : Int32))), J, R)) rfl hQ
set_option maxRecDepth 100000 in
set_option maxHeartbeats 4000000 in
theorem re_Bd_own {rec : az_GT} {d : Nat} {ex : az_X} {I : Nat → Nat → Int32} {J : Nat → Nat → Int64} {R : Nat → Nat → Option Nat} {a1 : Int32} {a2 : Int32} {a3 : Int32} (hg_5 : ∀ (b1 b2 b3 b4 : Int32) (I : Nat → Nat → Int32) (o : Int32 × (Nat → Nat → Int32)), rec 5 b1 b2 b3 b4 I = some o → ∀ {J : Nat → Nat → Int64} {R : Nat → Nat → Option Nat} {Q : Option Value → az_S → Prop}, Q (some (.int o.1)) (97, o.2, J, R) → az_E az_F ex d 5 0 [.ref 55, .int b1, .int b2, .int b3] [] (97, I, J, R) Q) (hg_6 : ∀ (b1 b2 b3 b4 : Int32) (I : Nat → Nat → Int32) (o : Int32 × (Nat → Nat → Int32)), rec 6 b1 b2 b3 b4 I = some o → ∀ {J : Nat → Nat → Int64} {R : Nat → Nat → Option Nat} {Q : Option Value → az_S → Prop}, Q (some (.int o.1)) (97, o.2, J, R) → az_E az_F ex d 6 0 [.ref 55, .int b1, .int b2, .int b3, .int b4] [] (97, I, J, R) Q) (hg_7 : ∀ (b1 b2 b3 b4 : Int32) (I : Nat → Nat → Int32) (o : Int32 × (Nat → Nat → Int32)), rec 7 b1 b2 b3 b4 I = some o → ∀ {J : Nat → Nat → Int64} {R : Nat → Nat → Option Nat} {Q : Option Value → az_S → Prop}, Q (some (.int o.1)) (97, o.2, J, R) → az_E az_F ex d 7 0 [.ref 55, .int b1, .int b2, .int b3, .int b4, .retAddr 0, .retAddr 0] [] (97, I, J, R) Q) (hg_9 : ∀ (b1 b2 b3 b4 : Int32) (I : Nat → Nat → Int32) (o : Int32 × (Nat → Nat → Int32)), rec 9 b1 b2 b3 b4 I = some o → ∀ {J : Nat → Nat → Int64} {R : Nat → Nat → Option Nat} {Q : Option Value → az_S → Prop}, Q (some (.int o.1)) (97, o.2, J, R) → az_E az_F ex d 9 0 [.ref 55, .int b1, .int b2, .int b3, .int b4] [] (97, I, J, R) Q) {o : Int32 × (Nat → Nat → Int32)} (h : rs_Bd_own rec ex I a1 a2 a3 = some o) {Q : Option Value → az_S → Prop} (hQ : Q (some (.int o.1)) (97, o.2, J, R)) : az_E az_F ex (d + 1) 5 0 [.ref 55, .int a1, .int a2, .int a3] [] (97, I, J, R) Q := by
  unfold rs_Bd_own at h
  refine az_E.sn 5 (pc' := 9) (L' := [.ref 55, .int a1, .int a2, .int a3]) (S' := [.int (I 55 4), .ref 56, .ref 55]) (σ' := (97, I, J, R)) rfl ?_
  by_cases hc_1 : (I 55 4) < 0 ∨ 50 ≤ (I 55 4).toNatClampNeg
  · rw [if_pos hc_1] at h; cases h
  · rw [if_neg hc_1] at h
    refine az_E.oi (o := az_ai az_F ex (97, I, J, R) 56 (I 55 4)) (pc' := 10) (L' := [.ref 55, .int a1, .int a2, .int a3]) (S' := [.ref 55]) (σ' := (97, I, J, R)) (x := (I 56 (I 55 4).toNatClampNeg)) rfl (if_neg hc_1) ?_
    refine az_E.sn 3 (pc' := 13) (L' := [.ref 55, .int a1, .int a2, .int a3]) (S' := [.int a3, .int a2, .int a1, .int (I 56 (I 55 4).toNatClampNeg), .ref 55]) (σ' := (97, I, J, R)) rfl ?_
    cases hx_4 : rec 7 (I 56 (I 55 4).toNatClampNeg) a1 a2 a3 I with
    | none => rw [hx_4] at h; cases h
    | some o =>
      rw [hx_4] at h
      obtain ⟨x_2, I_3⟩ := o
      dsimp only at h
      refine az_E.call (d := (d + 0)) (k' := 7) (vs := [.ref 55, .int (I 56 (I 55 4).toNatClampNeg), .int a1, .int a2, .int a3]) (pc' := 16) (S' := []) (Q1 := fun v s => v = some (.int x_2) ∧ s = (97, I_3, J, R)) rfl (az_E.deep (by omega) (hg_7 _ _ _ _ _ _ hx_4 (J := J) (R := R)  ⟨rfl, rfl⟩)) (fun v s hq => ?_)
      obtain ⟨rfl, rfl⟩ := hq
      show az_E az_F ex (d + 1) 5 16 [.ref 55, .int a1, .int a2, .int a3] [.int x_2] (97, I_3, J, R) _
      have h := Option.some.inj h
      subst h
      exact az_E.ret (v := some (.int x_2)) (σ' := (97, I_3, J, R)) rfl hQ
set_option maxRecDepth 100000 in
set_option maxHeartbeats 4000000 in
theorem re_Bd_above {rec : az_GT} {d : Nat} {ex : az_X} {I : Nat → Nat → Int32} {J : Nat → Nat → Int64} {R : Nat → Nat → Option Nat} {a1 : Int32} {a2 : Int32} {a3 : Int32} {a4 : Int32} (hg_5 : ∀ (b1 b2 b3 b4 : Int32) (I : Nat → Nat → Int32) (o : Int32 × (Nat → Nat → Int32)), rec 5 b1 b2 b3 b4 I = some o → ∀ {J : Nat → Nat → Int64} {R : Nat → Nat → Option Nat} {Q : Option Value → az_S → Prop}, Q (some (.int o.1)) (97, o.2, J, R) → az_E az_F ex d 5 0 [.ref 55, .int b1, .int b2, .int b3] [] (97, I, J, R) Q) (hg_6 : ∀ (b1 b2 b3 b4 : Int32) (I : Nat → Nat → Int32) (o : Int32 × (Nat → Nat → Int32)), rec 6 b1 b2 b3 b4 I = some o → ∀ {J : Nat → Nat → Int64} {R : Nat → Nat → Option Nat} {Q : Option Value → az_S → Prop}, Q (some (.int o.1)) (97, o.2, J, R) → az_E az_F ex d 6 0 [.ref 55, .int b1, .int b2, .int b3, .int b4] [] (97, I, J, R) Q) (hg_7 : ∀ (b1 b2 b3 b4 : Int32) (I : Nat → Nat → Int32) (o : Int32 × (Nat → Nat → Int32)), rec 7 b1 b2 b3 b4 I = some o → ∀ {J : Nat → Nat → Int64} {R : Nat → Nat → Option Nat} {Q : Option Value → az_S → Prop}, Q (some (.int o.1)) (97, o.2, J, R) → az_E az_F ex d 7 0 [.ref 55, .int b1, .int b2, .int b3, .int b4, .retAddr 0, .retAddr 0] [] (97, I, J, R) Q) (hg_9 : ∀ (b1 b2 b3 b4 : Int32) (I : Nat → Nat → Int32) (o : Int32 × (Nat → Nat → Int32)), rec 9 b1 b2 b3 b4 I = some o → ∀ {J : Nat → Nat → Int64} {R : Nat → Nat → Option Nat} {Q : Option Value → az_S → Prop}, Q (some (.int o.1)) (97, o.2, J, R) → az_E az_F ex d 9 0 [.ref 55, .int b1, .int b2, .int b3, .int b4] [] (97, I, J, R) Q) {o : Int32 × (Nat → Nat → Int32)} (h : rs_Bd_above rec ex I a1 a2 a3 a4 = some o) {Q : Option Value → az_S → Prop} (hQ : Q (some (.int o.1)) (97, o.2, J, R)) : az_E az_F ex (d + 1) 6 0 [.ref 55, .int a1, .int a2, .int a3, .int a4] [] (97, I, J, R) Q := by
  unfold rs_Bd_above at h
  refine az_E.sn 3 (pc' := 5) (L' := [.ref 55, .int a1, .int a2, .int a3, .int a4]) (S' := [.int a1, .ref 2, .ref 55]) (σ' := (97, I, J, R)) rfl ?_
  by_cases hc_1 : a1 < 0 ∨ (ex 2).1 ≤ a1.toNatClampNeg
  · rw [if_pos hc_1] at h; cases h
  · rw [if_neg hc_1] at h
    refine az_E.oi (o := az_ai az_F ex (97, I, J, R) 2 a1) (pc' := 6) (L' := [.ref 55, .int a1, .int a2, .int a3, .int a4]) (S' := [.ref 55]) (σ' := (97, I, J, R)) (x := ((ex 2).2 a1.toNatClampNeg)) rfl (if_neg hc_1) ?_
    refine az_E.sn 3 (pc' := 10) (L' := [.ref 55, .int a1, .int a2, .int a3, .int a4]) (S' := [.int a4, .int a3, .int a2, .int ((ex 2).2 a1.toNatClampNeg), .ref 55]) (σ' := (97, I, J, R)) rfl ?_
    cases hx_4 : rec 7 ((ex 2).2 a1.toNatClampNeg) a2 a3 a4 I with
    | none => rw [hx_4] at h; cases h
    | some o =>
      rw [hx_4] at h
      obtain ⟨x_2, I_3⟩ := o
      dsimp only at h
      refine az_E.call (d := (d + 0)) (k' := 7) (vs := [.ref 55, .int ((ex 2).2 a1.toNatClampNeg), .int a2, .int a3, .int a4]) (pc' := 13) (S' := []) (Q1 := fun v s => v = some (.int x_2) ∧ s = (97, I_3, J, R)) rfl (az_E.deep (by omega) (hg_7 _ _ _ _ _ _ hx_4 (J := J) (R := R)  ⟨rfl, rfl⟩)) (fun v s hq => ?_)
      obtain ⟨rfl, rfl⟩ := hq
      show az_E az_F ex (d + 1) 6 13 [.ref 55, .int a1, .int a2, .int a3, .int a4] [.int x_2] (97, I_3, J, R) _
      have h := Option.some.inj h
      subst h
      exact az_E.ret (v := some (.int x_2)) (σ' := (97, I_3, J, R)) rfl hQ
set_option maxRecDepth 100000 in
set_option maxHeartbeats 4000000 in
theorem re_Bd_begin {ex : az_X} {I : Nat → Nat → Int32} {J : Nat → Nat → Int64} {R : Nat → Nat → Option Nat} {a1 : Int32} {o : (Nat → Nat → Int32)} (h : rs_Bd_begin I a1 = some o) {Q : Option Value → az_S → Prop} (hQ : Q none (97, o, J, R)) : az_E az_F ex 0 8 0 [.ref 55, .int a1] [] (97, I, J, R) Q := by
  unfold rs_Bd_begin at h
  refine az_E.sn 3 (pc' := 6) (L' := [.ref 55, .int a1]) (S' := [.int (24 : Int32), .int (I 55 3)]) (σ' := (97, I, J, R)) rfl ?_
  refine az_E.br (c := (24 : Int32) ≤ (I 55 3)) (tt := 19) (ff := 9) (L' := [.ref 55, .int a1]) (S' := []) (σ' := (97, I, J, R)) rfl (fun hc_1 => ?_) (fun hc_1 => ?_)
  · rw [if_pos hc_1] at h
    refine az_E.sn 6 (pc' := 29) (L' := [.ref 55, .int a1]) (S' := []) (σ' := (97, (az_u I 55 3 ((I 55 3) + (1 : Int32))), J, R)) rfl ?_
    have h := Option.some.inj h
    subst h
    exact az_E.ret (v := none) (σ' := (97, (az_u I 55 3 ((I 55 3) + (1 : Int32))), J, R)) rfl hQ
  · rw [if_neg hc_1] at h
    refine az_E.sn 5 (pc' := 18) (L' := [.ref 55, .int a1]) (S' := [.int a1, .int (I 55 3), .ref 57]) (σ' := (97, I, J, R)) rfl ?_
    by_cases hc_2 : (I 55 3) < 0 ∨ 24 ≤ (I 55 3).toNatClampNeg
    · rw [if_pos hc_2] at h; cases h
    · rw [if_neg hc_2] at h
      refine az_E.o (o := az_si az_F (97, I, J, R) 57 (I 55 3) a1) (pc' := 19) (L' := [.ref 55, .int a1]) (S' := []) (x := (97, (az_u I 57 (I 55 3).toNatClampNeg a1), J, R)) rfl (if_neg hc_2) ?_
      refine az_E.sn 6 (pc' := 29) (L' := [.ref 55, .int a1]) (S' := []) (σ' := (97, (az_u (az_u I 57 (I 55 3).toNatClampNeg a1) 55 3 ((I 55 3) + (1 : Int32))), J, R)) rfl ?_
      have h := Option.some.inj h
      subst h
      exact az_E.ret (v := none) (σ' := (97, (az_u (az_u I 57 (I 55 3).toNatClampNeg a1) 55 3 ((I 55 3) + (1 : Int32))), J, R)) rfl hQ
set_option maxRecDepth 100000 in
set_option maxHeartbeats 4000000 in
theorem re_Bd_from_45 {rec : az_GT} {d : Nat} {ex : az_X} {I : Nat → Nat → Int32} {J : Nat → Nat → Int64} {R : Nat → Nat → Option Nat} {v2 : Int32} {v3 : Int32} {v4 : Int32} {v5 : Int32} (hg_5 : ∀ (b1 b2 b3 b4 : Int32) (I : Nat → Nat → Int32) (o : Int32 × (Nat → Nat → Int32)), rec 5 b1 b2 b3 b4 I = some o → ∀ {J : Nat → Nat → Int64} {R : Nat → Nat → Option Nat} {Q : Option Value → az_S → Prop}, Q (some (.int o.1)) (97, o.2, J, R) → az_E az_F ex d 5 0 [.ref 55, .int b1, .int b2, .int b3] [] (97, I, J, R) Q) (hg_6 : ∀ (b1 b2 b3 b4 : Int32) (I : Nat → Nat → Int32) (o : Int32 × (Nat → Nat → Int32)), rec 6 b1 b2 b3 b4 I = some o → ∀ {J : Nat → Nat → Int64} {R : Nat → Nat → Option Nat} {Q : Option Value → az_S → Prop}, Q (some (.int o.1)) (97, o.2, J, R) → az_E az_F ex d 6 0 [.ref 55, .int b1, .int b2, .int b3, .int b4] [] (97, I, J, R) Q) (hg_7 : ∀ (b1 b2 b3 b4 : Int32) (I : Nat → Nat → Int32) (o : Int32 × (Nat → Nat → Int32)), rec 7 b1 b2 b3 b4 I = some o → ∀ {J : Nat → Nat → Int64} {R : Nat → Nat → Option Nat} {Q : Option Value → az_S → Prop}, Q (some (.int o.1)) (97, o.2, J, R) → az_E az_F ex d 7 0 [.ref 55, .int b1, .int b2, .int b3, .int b4, .retAddr 0, .retAddr 0] [] (97, I, J, R) Q) (hg_9 : ∀ (b1 b2 b3 b4 : Int32) (I : Nat → Nat → Int32) (o : Int32 × (Nat → Nat → Int32)), rec 9 b1 b2 b3 b4 I = some o → ∀ {J : Nat → Nat → Int64} {R : Nat → Nat → Option Nat} {Q : Option Value → az_S → Prop}, Q (some (.int o.1)) (97, o.2, J, R) → az_E az_F ex d 9 0 [.ref 55, .int b1, .int b2, .int b3, .int b4] [] (97, I, J, R) Q) {x : Int32 × (Nat → Nat → Int32)} (h : rs_Bd_from_45 rec ex I v2 v3 v4 v5 = some x) {Q : Option Value → az_S → Prop} (hQ : Q (some (.int x.1)) (97, x.2, J, R)) : az_E az_F ex (d + 1) 7 45 [.ref 55, .retAddr 0, .int v2, .int v3, .int v4, .int v5, .retAddr 0] [] (97, I, J, R) Q := by
  unfold rs_Bd_from_45 at h
  refine az_E.sn 3 (pc' := 50) (L' := [.ref 55, .retAddr 0, .int v2, .int v3, .int v4, .int v5, .retAddr 0]) (S' := [.int (7 : Int32), .int (0 : Int32), .int v5]) (σ' := (97, I, J, R)) rfl ?_
  refine az_E.call (d := (d + 0)) (k' := 131) (vs := [.int v5, .int (0 : Int32), .int (7 : Int32)]) (pc' := 53) (S' := []) rfl ?_ (fun _ _ hq => hq)
  show az_E az_F ex (d + 0) 131 0 [.int v5, .int (0 : Int32), .int (7 : Int32)] [] (97, I, J, R) _
  refine az_E.sn 2 (pc' := 2) (L' := [.int v5, .int (0 : Int32), .int (7 : Int32)]) (S' := [.int (0 : Int32), .int v5]) (σ' := (97, I, J, R)) rfl ?_
  refine az_E.br (c := v5 < (0 : Int32)) (tt := 14) (ff := 5) (L' := [.int v5, .int (0 : Int32), .int (7 : Int32)]) (S' := []) (σ' := (97, I, J, R)) rfl (fun hc_2 => ?_) (fun hc_2 => ?_)
  · rw [if_pos hc_2] at h
    refine az_E.sn 1 (pc' := 15) (L' := [.int v5, .int (0 : Int32), .int (7 : Int32)]) (S' := [.int (0 : Int32)]) (σ' := (97, I, J, R)) rfl ?_
    refine az_E.ret (v := some (.int (0 : Int32))) (σ' := (97, I, J, R)) rfl ?_
    show az_E az_F ex (d + 1) 7 53 [.ref 55, .retAddr 0, .int v2, .int v3, .int v4, .int v5, .retAddr 0] [.int (0 : Int32)] (97, I, J, R) _
    refine az_E.br (c := (0 : Int32) = 0) (tt := 63) (ff := 56) (L' := [.ref 55, .retAddr 0, .int v2, .int v3, .int v4, .int v5, .retAddr 0]) (S' := []) (σ' := (97, I, J, R)) rfl (fun _ => ?_) (fun hn => absurd (by decide) hn)
    refine az_E.sn 1 (pc' := 64) (L' := [.ref 55, .retAddr 0, .int v2, .int v3, .int v4, .int v5, .retAddr 0]) (S' := [.int (0 : Int32)]) (σ' := (97, I, J, R)) rfl ?_
    have h := Option.some.inj h
    subst h
    exact az_E.ret (v := some (.int (0 : Int32))) (σ' := (97, I, J, R)) rfl hQ
  · rw [if_neg hc_2] at h
    refine az_E.sn 2 (pc' := 7) (L' := [.int v5, .int (0 : Int32), .int (7 : Int32)]) (S' := [.int (7 : Int32), .int v5]) (σ' := (97, I, J, R)) rfl ?_
    refine az_E.br (c := (7 : Int32) < v5) (tt := 14) (ff := 10) (L' := [.int v5, .int (0 : Int32), .int (7 : Int32)]) (S' := []) (σ' := (97, I, J, R)) rfl (fun hc_3 => ?_) (fun hc_3 => ?_)
    · rw [if_pos hc_3] at h
      refine az_E.sn 1 (pc' := 15) (L' := [.int v5, .int (0 : Int32), .int (7 : Int32)]) (S' := [.int (0 : Int32)]) (σ' := (97, I, J, R)) rfl ?_
      refine az_E.ret (v := some (.int (0 : Int32))) (σ' := (97, I, J, R)) rfl ?_
      show az_E az_F ex (d + 1) 7 53 [.ref 55, .retAddr 0, .int v2, .int v3, .int v4, .int v5, .retAddr 0] [.int (0 : Int32)] (97, I, J, R) _
      refine az_E.br (c := (0 : Int32) = 0) (tt := 63) (ff := 56) (L' := [.ref 55, .retAddr 0, .int v2, .int v3, .int v4, .int v5, .retAddr 0]) (S' := []) (σ' := (97, I, J, R)) rfl (fun _ => ?_) (fun hn => absurd (by decide) hn)
      refine az_E.sn 1 (pc' := 64) (L' := [.ref 55, .retAddr 0, .int v2, .int v3, .int v4, .int v5, .retAddr 0]) (S' := [.int (0 : Int32)]) (σ' := (97, I, J, R)) rfl ?_
      have h := Option.some.inj h
      subst h
      exact az_E.ret (v := some (.int (0 : Int32))) (σ' := (97, I, J, R)) rfl hQ
    · rw [if_neg hc_3] at h
      refine az_E.sn 2 (pc' := 15) (L' := [.int v5, .int (0 : Int32), .int (7 : Int32)]) (S' := [.int (1 : Int32)]) (σ' := (97, I, J, R)) rfl ?_
      refine az_E.ret (v := some (.int (1 : Int32))) (σ' := (97, I, J, R)) rfl ?_
      show az_E az_F ex (d + 1) 7 53 [.ref 55, .retAddr 0, .int v2, .int v3, .int v4, .int v5, .retAddr 0] [.int (1 : Int32)] (97, I, J, R) _
      refine az_E.br (c := (1 : Int32) = 0) (tt := 63) (ff := 56) (L' := [.ref 55, .retAddr 0, .int v2, .int v3, .int v4, .int v5, .retAddr 0]) (S' := []) (σ' := (97, I, J, R)) rfl (fun hn => absurd hn (by decide)) (fun _ => ?_)
      refine az_E.sn 2 (pc' := 60) (L' := [.ref 55, .retAddr 0, .int v2, .int v3, .int v4, .int v5, .retAddr 0]) (S' := [.int (40 : Int32), .int v4]) (σ' := (97, I, J, R)) rfl ?_
      refine az_E.br (c := v4 < (40 : Int32)) (tt := 65) (ff := 63) (L' := [.ref 55, .retAddr 0, .int v2, .int v3, .int v4, .int v5, .retAddr 0]) (S' := []) (σ' := (97, I, J, R)) rfl (fun hc_4 => ?_) (fun hc_4 => ?_)
      · rw [if_pos hc_4] at h
        refine az_E.sn 6 (pc' := 74) (L' := [.ref 55, .retAddr 0, .int v2, .int v3, .int v4, .int v5, .retAddr 0]) (S' := [.int ((v5 * (4 : Int32)) + v2), .ref 1]) (σ' := (97, I, J, R)) rfl ?_
        by_cases hc_5 : ((v5 * (4 : Int32)) + v2) < 0 ∨ (ex 1).1 ≤ ((v5 * (4 : Int32)) + v2).toNatClampNeg
        · rw [if_pos hc_5] at h; cases h
        · rw [if_neg hc_5] at h
          refine az_E.oi (o := az_ai az_F ex (97, I, J, R) 1 ((v5 * (4 : Int32)) + v2)) (pc' := 75) (L' := [.ref 55, .retAddr 0, .int v2, .int v3, .int v4, .int v5, .retAddr 0]) (S' := []) (σ' := (97, I, J, R)) (x := ((ex 1).2 ((v5 * (4 : Int32)) + v2).toNatClampNeg)) rfl (if_neg hc_5) ?_
          refine az_E.sn 3 (pc' := 80) (L' := [.ref 55, .retAddr 0, .int v2, .int v3, .int v4, .int v5, .int ((ex 1).2 ((v5 * (4 : Int32)) + v2).toNatClampNeg)]) (S' := [.int ((ex 1).2 ((v5 * (4 : Int32)) + v2).toNatClampNeg), .ref 55]) (σ' := (97, I, J, R)) rfl ?_
          cases hx_7 : rs_Bd_begin I ((ex 1).2 ((v5 * (4 : Int32)) + v2).toNatClampNeg) with
          | none => rw [hx_7] at h; cases h
          | some I_6 =>
            rw [hx_7] at h
            dsimp only at h
            refine az_E.call (d := (d + 0)) (k' := 8) (vs := [.ref 55, .int ((ex 1).2 ((v5 * (4 : Int32)) + v2).toNatClampNeg)]) (pc' := 83) (S' := []) (Q1 := fun v s => v = none ∧ s = (97, I_6, J, R)) rfl (az_E.deep (by omega) (re_Bd_begin (J := J) (R := R)  hx_7 ⟨rfl, rfl⟩)) (fun v s hq => ?_)
            obtain ⟨rfl, rfl⟩ := hq
            show az_E az_F ex (d + 1) 7 83 [.ref 55, .retAddr 0, .int v2, .int v3, .int v4, .int v5, .int ((ex 1).2 ((v5 * (4 : Int32)) + v2).toNatClampNeg)] [] (97, I_6, J, R) _
            refine az_E.sn 7 (pc' := 93) (L' := [.ref 55, .retAddr 0, .int v2, .int v3, .int v4, .int v5, .int ((ex 1).2 ((v5 * (4 : Int32)) + v2).toNatClampNeg)]) (S' := [.int (v4 + (1 : Int32)), .int v3, .int v5, .int ((ex 1).2 ((v5 * (4 : Int32)) + v2).toNatClampNeg), .ref 55]) (σ' := (97, I_6, J, R)) rfl ?_
            cases hx_10 : rec 9 ((ex 1).2 ((v5 * (4 : Int32)) + v2).toNatClampNeg) v5 v3 (v4 + (1 : Int32)) I_6 with
            | none => rw [hx_10] at h; cases h
            | some o =>
              rw [hx_10] at h
              obtain ⟨x_8, I_9⟩ := o
              dsimp only at h
              refine az_E.call (d := (d + 0)) (k' := 9) (vs := [.ref 55, .int ((ex 1).2 ((v5 * (4 : Int32)) + v2).toNatClampNeg), .int v5, .int v3, .int (v4 + (1 : Int32))]) (pc' := 96) (S' := []) (Q1 := fun v s => v = some (.int x_8) ∧ s = (97, I_9, J, R)) rfl (az_E.deep (by omega) (hg_9 _ _ _ _ _ _ hx_10 (J := J) (R := R)  ⟨rfl, rfl⟩)) (fun v s hq => ?_)
              obtain ⟨rfl, rfl⟩ := hq
              show az_E az_F ex (d + 1) 7 96 [.ref 55, .retAddr 0, .int v2, .int v3, .int v4, .int v5, .int ((ex 1).2 ((v5 * (4 : Int32)) + v2).toNatClampNeg)] [.int x_8] (97, I_9, J, R) _
              have h := Option.some.inj h
              subst h
              exact az_E.ret (v := some (.int x_8)) (σ' := (97, I_9, J, R)) rfl hQ
      · rw [if_neg hc_4] at h
        refine az_E.sn 1 (pc' := 64) (L' := [.ref 55, .retAddr 0, .int v2, .int v3, .int v4, .int v5, .retAddr 0]) (S' := [.int (0 : Int32)]) (σ' := (97, I, J, R)) rfl ?_
        have h := Option.some.inj h
        subst h
        exact az_E.ret (v := some (.int (0 : Int32))) (σ' := (97, I, J, R)) rfl hQ
set_option maxRecDepth 100000 in
set_option maxHeartbeats 4000000 in
theorem re_Bd_from_6_b {rec : az_GT} {d : Nat} {ex : az_X} {I : Nat → Nat → Int32} {J : Nat → Nat → Int64} {R : Nat → Nat → Option Nat} {v2 : Int32} {v3 : Int32} {v4 : Int32} {v5 : Int32} {v6 : Int32} (hg_5 : ∀ (b1 b2 b3 b4 : Int32) (I : Nat → Nat → Int32) (o : Int32 × (Nat → Nat → Int32)), rec 5 b1 b2 b3 b4 I = some o → ∀ {J : Nat → Nat → Int64} {R : Nat → Nat → Option Nat} {Q : Option Value → az_S → Prop}, Q (some (.int o.1)) (97, o.2, J, R) → az_E az_F ex d 5 0 [.ref 55, .int b1, .int b2, .int b3] [] (97, I, J, R) Q) (hg_6 : ∀ (b1 b2 b3 b4 : Int32) (I : Nat → Nat → Int32) (o : Int32 × (Nat → Nat → Int32)), rec 6 b1 b2 b3 b4 I = some o → ∀ {J : Nat → Nat → Int64} {R : Nat → Nat → Option Nat} {Q : Option Value → az_S → Prop}, Q (some (.int o.1)) (97, o.2, J, R) → az_E az_F ex d 6 0 [.ref 55, .int b1, .int b2, .int b3, .int b4] [] (97, I, J, R) Q) (hg_7 : ∀ (b1 b2 b3 b4 : Int32) (I : Nat → Nat → Int32) (o : Int32 × (Nat → Nat → Int32)), rec 7 b1 b2 b3 b4 I = some o → ∀ {J : Nat → Nat → Int64} {R : Nat → Nat → Option Nat} {Q : Option Value → az_S → Prop}, Q (some (.int o.1)) (97, o.2, J, R) → az_E az_F ex d 7 0 [.ref 55, .int b1, .int b2, .int b3, .int b4, .retAddr 0, .retAddr 0] [] (97, I, J, R) Q) (hg_9 : ∀ (b1 b2 b3 b4 : Int32) (I : Nat → Nat → Int32) (o : Int32 × (Nat → Nat → Int32)), rec 9 b1 b2 b3 b4 I = some o → ∀ {J : Nat → Nat → Int64} {R : Nat → Nat → Option Nat} {Q : Option Value → az_S → Prop}, Q (some (.int o.1)) (97, o.2, J, R) → az_E az_F ex d 9 0 [.ref 55, .int b1, .int b2, .int b3, .int b4] [] (97, I, J, R) Q) {x : ((Int32 × Int32) ⊕ (Int32 × (Nat → Nat → Int32)))} (h : rs_Bd_from_6_b rec ex I v2 v3 v4 v5 v6 = some x) {Q : Option Value → az_S → Prop} (hQ : Sum.elim (fun s => az_E az_F ex (d + 1) 7 6 [.ref 55, .retAddr 0, .int v2, .int v3, .int v4, .int s.1, .int s.2] [] (97, I, J, R) Q) (fun x => Q (some (.int x.1)) (97, x.2, J, R)) x) : az_E az_F ex (d + 1) 7 6 [.ref 55, .retAddr 0, .int v2, .int v3, .int v4, .int v5, .int v6] [] (97, I, J, R) Q := by
  unfold rs_Bd_from_6_b at h
  refine az_E.sn 2 (pc' := 10) (L' := [.ref 55, .retAddr 0, .int v2, .int v3, .int v4, .int v5, .int v6]) (S' := [.int (8 : Int32), .int v6]) (σ' := (97, I, J, R)) rfl ?_
  refine az_E.br (c := (8 : Int32) ≤ v6) (tt := 45) (ff := 13) (L' := [.ref 55, .retAddr 0, .int v2, .int v3, .int v4, .int v5, .int v6]) (S' := []) (σ' := (97, I, J, R)) rfl (fun hc_1 => ?_) (fun hc_1 => ?_)
  · rw [if_pos hc_1] at h
    obtain ⟨x, hx, rfl⟩ := Option.map_eq_some_iff.mp h
    exact az_E.forget (L := [.ref 55, .retAddr 0, .int v2, .int v3, .int v4, .int v5, .retAddr 0]) ⟨rfl, trivial, rfl, rfl, rfl, rfl, trivial, trivial⟩ (re_Bd_from_45 (I := I) (J := J) (R := R) hg_5 hg_6 hg_7 hg_9 hx hQ)
  · rw [if_neg hc_1] at h
    refine az_E.sn 1 (pc' := 15) (L' := [.ref 55, .retAddr 0, .int v2, .int v3, .int v4, .int v5, .int v6]) (S' := [.int v5]) (σ' := (97, I, J, R)) rfl ?_
    refine az_E.br (c := v5 ≤ 0) (tt := 45) (ff := 18) (L' := [.ref 55, .retAddr 0, .int v2, .int v3, .int v4, .int v5, .int v6]) (S' := []) (σ' := (97, I, J, R)) rfl (fun hc_11 => ?_) (fun hc_11 => ?_)
    · rw [if_pos hc_11] at h
      obtain ⟨x, hx, rfl⟩ := Option.map_eq_some_iff.mp h
      exact az_E.forget (L := [.ref 55, .retAddr 0, .int v2, .int v3, .int v4, .int v5, .retAddr 0]) ⟨rfl, trivial, rfl, rfl, rfl, rfl, trivial, trivial⟩ (re_Bd_from_45 (I := I) (J := J) (R := R) hg_5 hg_6 hg_7 hg_9 hx hQ)
    · rw [if_neg hc_11] at h
      refine az_E.sn 6 (pc' := 27) (L' := [.ref 55, .retAddr 0, .int v2, .int v3, .int v4, .int v5, .int v6]) (S' := [.int ((v5 * (4 : Int32)) + v2), .ref 1]) (σ' := (97, I, J, R)) rfl ?_
      by_cases hc_12 : ((v5 * (4 : Int32)) + v2) < 0 ∨ (ex 1).1 ≤ ((v5 * (4 : Int32)) + v2).toNatClampNeg
      · rw [if_pos hc_12] at h; cases h
      · rw [if_neg hc_12] at h
        refine az_E.oi (o := az_ai az_F ex (97, I, J, R) 1 ((v5 * (4 : Int32)) + v2)) (pc' := 28) (L' := [.ref 55, .retAddr 0, .int v2, .int v3, .int v4, .int v5, .int v6]) (S' := []) (σ' := (97, I, J, R)) (x := ((ex 1).2 ((v5 * (4 : Int32)) + v2).toNatClampNeg)) rfl (if_neg hc_12) ?_
        refine az_E.br (c := ((ex 1).2 ((v5 * (4 : Int32)) + v2).toNatClampNeg) = 0) (tt := 31) (ff := 45) (L' := [.ref 55, .retAddr 0, .int v2, .int v3, .int v4, .int v5, .int v6]) (S' := []) (σ' := (97, I, J, R)) rfl (fun hc_13 => ?_) (fun hc_13 => ?_)
        · rw [if_pos hc_13] at h
          refine az_E.sn 2 (pc' := 36) (L' := [.ref 55, .retAddr 0, .int v2, .int v3, .int v4, .int v5, .int v6]) (S' := [.int v5, .ref 2]) (σ' := (97, I, J, R)) rfl ?_
          by_cases hc_14 : v5 < 0 ∨ (ex 2).1 ≤ v5.toNatClampNeg
          · rw [if_pos hc_14] at h; cases h
          · rw [if_neg hc_14] at h
            refine az_E.oi (o := az_ai az_F ex (97, I, J, R) 2 v5) (pc' := 37) (L' := [.ref 55, .retAddr 0, .int v2, .int v3, .int v4, .int v5, .int v6]) (S' := []) (σ' := (97, I, J, R)) (x := ((ex 2).2 v5.toNatClampNeg)) rfl (if_neg hc_14) ?_
            refine az_E.sn 3 (pc' := 6) (L' := [.ref 55, .retAddr 0, .int v2, .int v3, .int v4, .int ((ex 2).2 v5.toNatClampNeg), .int (v6 + (1 : Int32))]) (S' := []) (σ' := (97, I, J, R)) rfl ?_
            have h := Option.some.inj h
            subst h
            exact az_E.forget (L := [.ref 55, .retAddr 0, .int v2, .int v3, .int v4, .int ((ex 2).2 v5.toNatClampNeg), .int (v6 + (1 : Int32))]) ⟨rfl, trivial, rfl, rfl, rfl, rfl, rfl, trivial⟩ hQ
        · rw [if_neg hc_13] at h
          obtain ⟨x, hx, rfl⟩ := Option.map_eq_some_iff.mp h
          exact az_E.forget (L := [.ref 55, .retAddr 0, .int v2, .int v3, .int v4, .int v5, .retAddr 0]) ⟨rfl, trivial, rfl, rfl, rfl, rfl, trivial, trivial⟩ (re_Bd_from_45 (I := I) (J := J) (R := R) hg_5 hg_6 hg_7 hg_9 hx hQ)
set_option maxRecDepth 100000 in
set_option maxHeartbeats 4000000 in
theorem re_Bd_from_6 {rec : az_GT} {d : Nat} {ex : az_X} {I : Nat → Nat → Int32} {J : Nat → Nat → Int64} {R : Nat → Nat → Option Nat} {v2 : Int32} {v3 : Int32} {v4 : Int32} {v5 : Int32} {v6 : Int32} (hg_5 : ∀ (b1 b2 b3 b4 : Int32) (I : Nat → Nat → Int32) (o : Int32 × (Nat → Nat → Int32)), rec 5 b1 b2 b3 b4 I = some o → ∀ {J : Nat → Nat → Int64} {R : Nat → Nat → Option Nat} {Q : Option Value → az_S → Prop}, Q (some (.int o.1)) (97, o.2, J, R) → az_E az_F ex d 5 0 [.ref 55, .int b1, .int b2, .int b3] [] (97, I, J, R) Q) (hg_6 : ∀ (b1 b2 b3 b4 : Int32) (I : Nat → Nat → Int32) (o : Int32 × (Nat → Nat → Int32)), rec 6 b1 b2 b3 b4 I = some o → ∀ {J : Nat → Nat → Int64} {R : Nat → Nat → Option Nat} {Q : Option Value → az_S → Prop}, Q (some (.int o.1)) (97, o.2, J, R) → az_E az_F ex d 6 0 [.ref 55, .int b1, .int b2, .int b3, .int b4] [] (97, I, J, R) Q) (hg_7 : ∀ (b1 b2 b3 b4 : Int32) (I : Nat → Nat → Int32) (o : Int32 × (Nat → Nat → Int32)), rec 7 b1 b2 b3 b4 I = some o → ∀ {J : Nat → Nat → Int64} {R : Nat → Nat → Option Nat} {Q : Option Value → az_S → Prop}, Q (some (.int o.1)) (97, o.2, J, R) → az_E az_F ex d 7 0 [.ref 55, .int b1, .int b2, .int b3, .int b4, .retAddr 0, .retAddr 0] [] (97, I, J, R) Q) (hg_9 : ∀ (b1 b2 b3 b4 : Int32) (I : Nat → Nat → Int32) (o : Int32 × (Nat → Nat → Int32)), rec 9 b1 b2 b3 b4 I = some o → ∀ {J : Nat → Nat → Int64} {R : Nat → Nat → Option Nat} {Q : Option Value → az_S → Prop}, Q (some (.int o.1)) (97, o.2, J, R) → az_E az_F ex d 9 0 [.ref 55, .int b1, .int b2, .int b3, .int b4] [] (97, I, J, R) Q) {x : Int32 × (Nat → Nat → Int32)} (h : rs_Bd_from_6 rec ex I v2 v3 v4 v5 v6 = some x) {Q : Option Value → az_S → Prop} (hQ : Q (some (.int x.1)) (97, x.2, J, R)) : az_E az_F ex (d + 1) 7 6 [.ref 55, .retAddr 0, .int v2, .int v3, .int v4, .int v5, .int v6] [] (97, I, J, R) Q := by
  unfold rs_Bd_from_6 at h
  refine az_lp_E (G := fun s => az_E az_F ex (d + 1) 7 6 [.ref 55, .retAddr 0, .int v2, .int v3, .int v4, .int s.1, .int s.2] [] (97, I, J, R) Q) (H := fun x => Q (some (.int x.1)) (97, x.2, J, R)) (fun s o hb ho => ?_) _ _ _ h hQ
  exact re_Bd_from_6_b hg_5 hg_6 hg_7 hg_9 hb ho
set_option maxRecDepth 100000 in
set_option maxHeartbeats 4000000 in
theorem re_Bd_from {rec : az_GT} {d : Nat} {ex : az_X} {I : Nat → Nat → Int32} {J : Nat → Nat → Int64} {R : Nat → Nat → Option Nat} {a1 : Int32} {a2 : Int32} {a3 : Int32} {a4 : Int32} (hg_5 : ∀ (b1 b2 b3 b4 : Int32) (I : Nat → Nat → Int32) (o : Int32 × (Nat → Nat → Int32)), rec 5 b1 b2 b3 b4 I = some o → ∀ {J : Nat → Nat → Int64} {R : Nat → Nat → Option Nat} {Q : Option Value → az_S → Prop}, Q (some (.int o.1)) (97, o.2, J, R) → az_E az_F ex d 5 0 [.ref 55, .int b1, .int b2, .int b3] [] (97, I, J, R) Q) (hg_6 : ∀ (b1 b2 b3 b4 : Int32) (I : Nat → Nat → Int32) (o : Int32 × (Nat → Nat → Int32)), rec 6 b1 b2 b3 b4 I = some o → ∀ {J : Nat → Nat → Int64} {R : Nat → Nat → Option Nat} {Q : Option Value → az_S → Prop}, Q (some (.int o.1)) (97, o.2, J, R) → az_E az_F ex d 6 0 [.ref 55, .int b1, .int b2, .int b3, .int b4] [] (97, I, J, R) Q) (hg_7 : ∀ (b1 b2 b3 b4 : Int32) (I : Nat → Nat → Int32) (o : Int32 × (Nat → Nat → Int32)), rec 7 b1 b2 b3 b4 I = some o → ∀ {J : Nat → Nat → Int64} {R : Nat → Nat → Option Nat} {Q : Option Value → az_S → Prop}, Q (some (.int o.1)) (97, o.2, J, R) → az_E az_F ex d 7 0 [.ref 55, .int b1, .int b2, .int b3, .int b4, .retAddr 0, .retAddr 0] [] (97, I, J, R) Q) (hg_9 : ∀ (b1 b2 b3 b4 : Int32) (I : Nat → Nat → Int32) (o : Int32 × (Nat → Nat → Int32)), rec 9 b1 b2 b3 b4 I = some o → ∀ {J : Nat → Nat → Int64} {R : Nat → Nat → Option Nat} {Q : Option Value → az_S → Prop}, Q (some (.int o.1)) (97, o.2, J, R) → az_E az_F ex d 9 0 [.ref 55, .int b1, .int b2, .int b3, .int b4] [] (97, I, J, R) Q) {o : Int32 × (Nat → Nat → Int32)} (h : rs_Bd_from rec ex I a1 a2 a3 a4 = some o) {Q : Option Value → az_S → Prop} (hQ : Q (some (.int o.1)) (97, o.2, J, R)) : az_E az_F ex (d + 1) 7 0 [.ref 55, .int a1, .int a2, .int a3, .int a4, .retAddr 0, .retAddr 0] [] (97, I, J, R) Q := by
  unfold rs_Bd_from at h
  refine az_E.sn 4 (pc' := 6) (L' := [.ref 55, .int a1, .int a2, .int a3, .int a4, .int a1, .int (0 : Int32)]) (S' := []) (σ' := (97, I, J, R)) rfl ?_
  exact az_E.forget (L := [.ref 55, .retAddr 0, .int a2, .int a3, .int a4, .int a1, .int (0 : Int32)]) ⟨rfl, trivial, rfl, rfl, rfl, rfl, rfl, trivial⟩ (re_Bd_from_6 (I := I) (J := J) (R := R) hg_5 hg_6 hg_7 hg_9 h hQ)
set_option maxRecDepth 100000 in
set_option maxHeartbeats 4000000 in
theorem re_Bd_run {rec : az_GT} {d : Nat} {ex : az_X} {I : Nat → Nat → Int32} {J : Nat → Nat → Int64} {R : Nat → Nat → Option Nat} {a1 : Int32} {a2 : Int32} {a3 : Int32} {a4 : Int32} (hg_5 : ∀ (b1 b2 b3 b4 : Int32) (I : Nat → Nat → Int32) (o : Int32 × (Nat → Nat → Int32)), rec 5 b1 b2 b3 b4 I = some o → ∀ {J : Nat → Nat → Int64} {R : Nat → Nat → Option Nat} {Q : Option Value → az_S → Prop}, Q (some (.int o.1)) (97, o.2, J, R) → az_E az_F ex d 5 0 [.ref 55, .int b1, .int b2, .int b3] [] (97, I, J, R) Q) (hg_6 : ∀ (b1 b2 b3 b4 : Int32) (I : Nat → Nat → Int32) (o : Int32 × (Nat → Nat → Int32)), rec 6 b1 b2 b3 b4 I = some o → ∀ {J : Nat → Nat → Int64} {R : Nat → Nat → Option Nat} {Q : Option Value → az_S → Prop}, Q (some (.int o.1)) (97, o.2, J, R) → az_E az_F ex d 6 0 [.ref 55, .int b1, .int b2, .int b3, .int b4] [] (97, I, J, R) Q) (hg_7 : ∀ (b1 b2 b3 b4 : Int32) (I : Nat → Nat → Int32) (o : Int32 × (Nat → Nat → Int32)), rec 7 b1 b2 b3 b4 I = some o → ∀ {J : Nat → Nat → Int64} {R : Nat → Nat → Option Nat} {Q : Option Value → az_S → Prop}, Q (some (.int o.1)) (97, o.2, J, R) → az_E az_F ex d 7 0 [.ref 55, .int b1, .int b2, .int b3, .int b4, .retAddr 0, .retAddr 0] [] (97, I, J, R) Q) (hg_9 : ∀ (b1 b2 b3 b4 : Int32) (I : Nat → Nat → Int32) (o : Int32 × (Nat → Nat → Int32)), rec 9 b1 b2 b3 b4 I = some o → ∀ {J : Nat → Nat → Int64} {R : Nat → Nat → Option Nat} {Q : Option Value → az_S → Prop}, Q (some (.int o.1)) (97, o.2, J, R) → az_E az_F ex d 9 0 [.ref 55, .int b1, .int b2, .int b3, .int b4] [] (97, I, J, R) Q) {o : Int32 × (Nat → Nat → Int32)} (h : rs_Bd_run rec ex I a1 a2 a3 a4 = some o) {Q : Option Value → az_S → Prop} (hQ : Q (some (.int o.1)) (97, o.2, J, R)) : az_E az_F ex (d + 1) 9 0 [.ref 55, .int a1, .int a2, .int a3, .int a4] [] (97, I, J, R) Q := by
  unfold rs_Bd_run at h
  refine az_E.sn 1 (pc' := 1) (L' := [.ref 55, .int a1, .int a2, .int a3, .int a4]) (S' := [.int a1]) (σ' := (97, I, J, R)) rfl ?_
  by_cases hc_1 : a1 = (1 : Int32)
  · rw [if_pos hc_1] at h
    refine az_E.sw hc_1 (pc' := 116) (L' := [.ref 55, .int a1, .int a2, .int a3, .int a4]) (S' := []) (σ' := (97, I, J, R)) rfl ?_
    refine az_E.sn 4 (pc' := 122) (L' := [.ref 55, .int a1, .int a2, .int a3, .int a4]) (S' := [.int (a3 + (I 55 4))]) (σ' := (97, I, J, R)) rfl ?_
    have h := Option.some.inj h
    subst h
    exact az_E.ret (v := some (.int (a3 + (I 55 4)))) (σ' := (97, I, J, R)) rfl hQ
  · rw [if_neg hc_1] at h
    by_cases hc_2 : a1 = (2 : Int32)
    · rw [if_pos hc_2] at h
      refine az_E.sw hc_2 (pc' := 123) (L' := [.ref 55, .int a1, .int a2, .int a3, .int a4]) (S' := []) (σ' := (97, I, J, R)) rfl ?_
      refine az_E.sn 4 (pc' := 128) (L' := [.ref 55, .int a1, .int a2, .int a3, .int a4]) (S' := [.int a4, .int a3, .int (1 : Int32), .ref 55]) (σ' := (97, I, J, R)) rfl ?_
      cases hx_5 : rec 5 (1 : Int32) a3 a4 0 I with
      | none => rw [hx_5] at h; cases h
      | some o =>
        rw [hx_5] at h
        obtain ⟨x_3, I_4⟩ := o
        dsimp only at h
        refine az_E.call (d := (d + 0)) (k' := 5) (vs := [.ref 55, .int (1 : Int32), .int a3, .int a4]) (pc' := 131) (S' := []) (Q1 := fun v s => v = some (.int x_3) ∧ s = (97, I_4, J, R)) rfl (az_E.deep (by omega) (hg_5 _ _ _ _ _ _ hx_5 (J := J) (R := R)  ⟨rfl, rfl⟩)) (fun v s hq => ?_)
        obtain ⟨rfl, rfl⟩ := hq
        show az_E az_F ex (d + 1) 9 131 [.ref 55, .int a1, .int a2, .int a3, .int a4] [.int x_3] (97, I_4, J, R) _
        refine az_E.sn 4 (pc' := 136) (L' := [.ref 55, .int a1, .int a2, .int a3, .int a4]) (S' := [.int a4, .int (1 : Int32), .int (2 : Int32), .ref 55, .int x_3]) (σ' := (97, I_4, J, R)) rfl ?_
        cases hx_8 : rec 5 (2 : Int32) (1 : Int32) a4 0 I_4 with
        | none => rw [hx_8] at h; cases h
        | some o =>
          rw [hx_8] at h
          obtain ⟨x_6, I_7⟩ := o
          dsimp only at h
          refine az_E.call (d := (d + 0)) (k' := 5) (vs := [.ref 55, .int (2 : Int32), .int (1 : Int32), .int a4]) (pc' := 139) (S' := [.int x_3]) (Q1 := fun v s => v = some (.int x_6) ∧ s = (97, I_7, J, R)) rfl (az_E.deep (by omega) (hg_5 _ _ _ _ _ _ hx_8 (J := J) (R := R)  ⟨rfl, rfl⟩)) (fun v s hq => ?_)
          obtain ⟨rfl, rfl⟩ := hq
          show az_E az_F ex (d + 1) 9 139 [.ref 55, .int a1, .int a2, .int a3, .int a4] [.int x_6, .int x_3] (97, I_7, J, R) _
          refine az_E.sn 1 (pc' := 140) (L' := [.ref 55, .int a1, .int a2, .int a3, .int a4]) (S' := [.int (x_3 - x_6)]) (σ' := (97, I_7, J, R)) rfl ?_
          have h := Option.some.inj h
          subst h
          exact az_E.ret (v := some (.int (x_3 - x_6))) (σ' := (97, I_7, J, R)) rfl hQ
    · rw [if_neg hc_2] at h
      by_cases hc_9 : a1 = (10 : Int32)
      · rw [if_pos hc_9] at h
        refine az_E.sw hc_9 (pc' := 141) (L' := [.ref 55, .int a1, .int a2, .int a3, .int a4]) (S' := []) (σ' := (97, I, J, R)) rfl ?_
        refine az_E.sn 4 (pc' := 146) (L' := [.ref 55, .int a1, .int a2, .int a3, .int a4]) (S' := [.int a4, .int a3, .int (0 : Int32), .ref 55]) (σ' := (97, I, J, R)) rfl ?_
        cases hx_12 : rec 5 (0 : Int32) a3 a4 0 I with
        | none => rw [hx_12] at h; cases h
        | some o =>
          rw [hx_12] at h
          obtain ⟨x_10, I_11⟩ := o
          dsimp only at h
          refine az_E.call (d := (d + 0)) (k' := 5) (vs := [.ref 55, .int (0 : Int32), .int a3, .int a4]) (pc' := 149) (S' := []) (Q1 := fun v s => v = some (.int x_10) ∧ s = (97, I_11, J, R)) rfl (az_E.deep (by omega) (hg_5 _ _ _ _ _ _ hx_12 (J := J) (R := R)  ⟨rfl, rfl⟩)) (fun v s hq => ?_)
          obtain ⟨rfl, rfl⟩ := hq
          show az_E az_F ex (d + 1) 9 149 [.ref 55, .int a1, .int a2, .int a3, .int a4] [.int x_10] (97, I_11, J, R) _
          refine az_E.sn 2 (pc' := 151) (L' := [.ref 55, .int a1, .int a2, .int a3, .int a4]) (S' := [.int (x_10 * (2 : Int32))]) (σ' := (97, I_11, J, R)) rfl ?_
          have h := Option.some.inj h
          subst h
          exact az_E.ret (v := some (.int (x_10 * (2 : Int32)))) (σ' := (97, I_11, J, R)) rfl hQ
      · rw [if_neg hc_9] at h
        by_cases hc_13 : a1 = (11 : Int32)
        · rw [if_pos hc_13] at h
          refine az_E.sw hc_13 (pc' := 152) (L' := [.ref 55, .int a1, .int a2, .int a3, .int a4]) (S' := []) (σ' := (97, I, J, R)) rfl ?_
          refine az_E.sn 4 (pc' := 158) (L' := [.ref 55, .int a1, .int a2, .int a3, .int a4]) (S' := [.int (a3 ^^^ (I 55 4))]) (σ' := (97, I, J, R)) rfl ?_
          have h := Option.some.inj h
          subst h
          exact az_E.ret (v := some (.int (a3 ^^^ (I 55 4)))) (σ' := (97, I, J, R)) rfl hQ
        · rw [if_neg hc_13] at h
          by_cases hc_14 : a1 = (20 : Int32)
          · rw [if_pos hc_14] at h
            refine az_E.sw hc_14 (pc' := 159) (L' := [.ref 55, .int a1, .int a2, .int a3, .int a4]) (S' := []) (σ' := (97, I, J, R)) rfl ?_
            refine az_E.sn 5 (pc' := 165) (L' := [.ref 55, .int a1, .int a2, .int a3, .int a4]) (S' := [.int a4, .int a3, .int (0 : Int32), .int a2, .ref 55]) (σ' := (97, I, J, R)) rfl ?_
            cases hx_17 : rec 6 a2 (0 : Int32) a3 a4 I with
            | none => rw [hx_17] at h; cases h
            | some o =>
              rw [hx_17] at h
              obtain ⟨x_15, I_16⟩ := o
              dsimp only at h
              refine az_E.call (d := (d + 0)) (k' := 6) (vs := [.ref 55, .int a2, .int (0 : Int32), .int a3, .int a4]) (pc' := 168) (S' := []) (Q1 := fun v s => v = some (.int x_15) ∧ s = (97, I_16, J, R)) rfl (az_E.deep (by omega) (hg_6 _ _ _ _ _ _ hx_17 (J := J) (R := R)  ⟨rfl, rfl⟩)) (fun v s hq => ?_)
              obtain ⟨rfl, rfl⟩ := hq
              show az_E az_F ex (d + 1) 9 168 [.ref 55, .int a1, .int a2, .int a3, .int a4] [.int x_15] (97, I_16, J, R) _
              refine az_E.sn 2 (pc' := 170) (L' := [.ref 55, .int a1, .int a2, .int a3, .int a4]) (S' := [.int (x_15 + (3 : Int32))]) (σ' := (97, I_16, J, R)) rfl ?_
              have h := Option.some.inj h
              subst h
              exact az_E.ret (v := some (.int (x_15 + (3 : Int32)))) (σ' := (97, I_16, J, R)) rfl hQ
          · rw [if_neg hc_14] at h
            by_cases hc_18 : a1 = (30 : Int32)
            · rw [if_pos hc_18] at h
              refine az_E.sw hc_18 (pc' := 171) (L' := [.ref 55, .int a1, .int a2, .int a3, .int a4]) (S' := []) (σ' := (97, I, J, R)) rfl ?_
              refine az_E.sn 5 (pc' := 177) (L' := [.ref 55, .int a1, .int a2, .int a3, .int a4]) (S' := [.int a4, .int a3, .int (1 : Int32), .int a2, .ref 55]) (σ' := (97, I, J, R)) rfl ?_
              cases hx_21 : rec 6 a2 (1 : Int32) a3 a4 I with
              | none => rw [hx_21] at h; cases h
              | some o =>
                rw [hx_21] at h
                obtain ⟨x_19, I_20⟩ := o
                dsimp only at h
                refine az_E.call (d := (d + 0)) (k' := 6) (vs := [.ref 55, .int a2, .int (1 : Int32), .int a3, .int a4]) (pc' := 180) (S' := []) (Q1 := fun v s => v = some (.int x_19) ∧ s = (97, I_20, J, R)) rfl (az_E.deep (by omega) (hg_6 _ _ _ _ _ _ hx_21 (J := J) (R := R)  ⟨rfl, rfl⟩)) (fun v s hq => ?_)
                obtain ⟨rfl, rfl⟩ := hq
                show az_E az_F ex (d + 1) 9 180 [.ref 55, .int a1, .int a2, .int a3, .int a4] [.int x_19] (97, I_20, J, R) _
                refine az_E.sn 1 (pc' := 181) (L' := [.ref 55, .int a1, .int a2, .int a3, .int a4]) (S' := [.int (-x_19)]) (σ' := (97, I_20, J, R)) rfl ?_
                have h := Option.some.inj h
                subst h
                exact az_E.ret (v := some (.int (-x_19))) (σ' := (97, I_20, J, R)) rfl hQ
            · rw [if_neg hc_18] at h
              by_cases hc_22 : a1 = (40 : Int32)
              · rw [if_pos hc_22] at h
                refine az_E.sw hc_22 (pc' := 182) (L' := [.ref 55, .int a1, .int a2, .int a3, .int a4]) (S' := []) (σ' := (97, I, J, R)) rfl ?_
                refine az_E.sn 5 (pc' := 188) (L' := [.ref 55, .int a1, .int a2, .int a3, .int a4]) (S' := [.int a4, .int a3, .int (2 : Int32), .int a2, .ref 55]) (σ' := (97, I, J, R)) rfl ?_
                cases hx_25 : rec 6 a2 (2 : Int32) a3 a4 I with
                | none => rw [hx_25] at h; cases h
                | some o =>
                  rw [hx_25] at h
                  obtain ⟨x_23, I_24⟩ := o
                  dsimp only at h
                  refine az_E.call (d := (d + 0)) (k' := 6) (vs := [.ref 55, .int a2, .int (2 : Int32), .int a3, .int a4]) (pc' := 191) (S' := []) (Q1 := fun v s => v = some (.int x_23) ∧ s = (97, I_24, J, R)) rfl (az_E.deep (by omega) (hg_6 _ _ _ _ _ _ hx_25 (J := J) (R := R)  ⟨rfl, rfl⟩)) (fun v s hq => ?_)
                  obtain ⟨rfl, rfl⟩ := hq
                  show az_E az_F ex (d + 1) 9 191 [.ref 55, .int a1, .int a2, .int a3, .int a4] [.int x_23] (97, I_24, J, R) _
                  refine az_E.sn 2 (pc' := 193) (L' := [.ref 55, .int a1, .int a2, .int a3, .int a4]) (S' := [.int (x_23 * (3 : Int32))]) (σ' := (97, I_24, J, R)) rfl ?_
                  have h := Option.some.inj h
                  subst h
                  exact az_E.ret (v := some (.int (x_23 * (3 : Int32)))) (σ' := (97, I_24, J, R)) rfl hQ
              · rw [if_neg hc_22] at h
                by_cases hc_26 : a1 = (41 : Int32)
                · rw [if_pos hc_26] at h
                  refine az_E.sw hc_26 (pc' := 194) (L' := [.ref 55, .int a1, .int a2, .int a3, .int a4]) (S' := []) (σ' := (97, I, J, R)) rfl ?_
                  refine az_E.sn 7 (pc' := 202) (L' := [.ref 55, .int a1, .int a2, .int a3, .int a4]) (S' := [.int a4, .int (a3 + (1 : Int32)), .int (1 : Int32), .int a2, .ref 55]) (σ' := (97, I, J, R)) rfl ?_
                  cases hx_29 : rec 6 a2 (1 : Int32) (a3 + (1 : Int32)) a4 I with
                  | none => rw [hx_29] at h; cases h
                  | some o =>
                    rw [hx_29] at h
                    obtain ⟨x_27, I_28⟩ := o
                    dsimp only at h
                    refine az_E.call (d := (d + 0)) (k' := 6) (vs := [.ref 55, .int a2, .int (1 : Int32), .int (a3 + (1 : Int32)), .int a4]) (pc' := 205) (S' := []) (Q1 := fun v s => v = some (.int x_27) ∧ s = (97, I_28, J, R)) rfl (az_E.deep (by omega) (hg_6 _ _ _ _ _ _ hx_29 (J := J) (R := R)  ⟨rfl, rfl⟩)) (fun v s hq => ?_)
                    obtain ⟨rfl, rfl⟩ := hq
                    show az_E az_F ex (d + 1) 9 205 [.ref 55, .int a1, .int a2, .int a3, .int a4] [.int x_27] (97, I_28, J, R) _
                    have h := Option.some.inj h
                    subst h
                    exact az_E.ret (v := some (.int x_27)) (σ' := (97, I_28, J, R)) rfl hQ
                · rw [if_neg hc_26] at h
                  by_cases hc_30 : a1 = (50 : Int32)
                  · rw [if_pos hc_30] at h
                    refine az_E.sw hc_30 (pc' := 206) (L' := [.ref 55, .int a1, .int a2, .int a3, .int a4]) (S' := []) (σ' := (97, I, J, R)) rfl ?_
                    refine az_E.sn 5 (pc' := 212) (L' := [.ref 55, .int a1, .int a2, .int a3, .int a4]) (S' := [.int a4, .int a3, .int (2 : Int32), .int a2, .ref 55]) (σ' := (97, I, J, R)) rfl ?_
                    cases hx_33 : rec 6 a2 (2 : Int32) a3 a4 I with
                    | none => rw [hx_33] at h; cases h
                    | some o =>
                      rw [hx_33] at h
                      obtain ⟨x_31, I_32⟩ := o
                      dsimp only at h
                      refine az_E.call (d := (d + 0)) (k' := 6) (vs := [.ref 55, .int a2, .int (2 : Int32), .int a3, .int a4]) (pc' := 215) (S' := []) (Q1 := fun v s => v = some (.int x_31) ∧ s = (97, I_32, J, R)) rfl (az_E.deep (by omega) (hg_6 _ _ _ _ _ _ hx_33 (J := J) (R := R)  ⟨rfl, rfl⟩)) (fun v s hq => ?_)
                      obtain ⟨rfl, rfl⟩ := hq
                      show az_E az_F ex (d + 1) 9 215 [.ref 55, .int a1, .int a2, .int a3, .int a4] [.int x_31] (97, I_32, J, R) _
                      refine az_E.sn 4 (pc' := 220) (L' := [.ref 55, .int a1, .int a2, .int a3, .int a4]) (S' := [.int a4, .int (2 : Int32), .int (0 : Int32), .ref 55, .int x_31]) (σ' := (97, I_32, J, R)) rfl ?_
                      cases hx_36 : rec 5 (0 : Int32) (2 : Int32) a4 0 I_32 with
                      | none => rw [hx_36] at h; cases h
                      | some o =>
                        rw [hx_36] at h
                        obtain ⟨x_34, I_35⟩ := o
                        dsimp only at h
                        refine az_E.call (d := (d + 0)) (k' := 5) (vs := [.ref 55, .int (0 : Int32), .int (2 : Int32), .int a4]) (pc' := 223) (S' := [.int x_31]) (Q1 := fun v s => v = some (.int x_34) ∧ s = (97, I_35, J, R)) rfl (az_E.deep (by omega) (hg_5 _ _ _ _ _ _ hx_36 (J := J) (R := R)  ⟨rfl, rfl⟩)) (fun v s hq => ?_)
                        obtain ⟨rfl, rfl⟩ := hq
                        show az_E az_F ex (d + 1) 9 223 [.ref 55, .int a1, .int a2, .int a3, .int a4] [.int x_34, .int x_31] (97, I_35, J, R) _
                        refine az_E.sn 1 (pc' := 224) (L' := [.ref 55, .int a1, .int a2, .int a3, .int a4]) (S' := [.int (x_31 - x_34)]) (σ' := (97, I_35, J, R)) rfl ?_
                        have h := Option.some.inj h
                        subst h
                        exact az_E.ret (v := some (.int (x_31 - x_34))) (σ' := (97, I_35, J, R)) rfl hQ
                  · rw [if_neg hc_30] at h
                    by_cases hc_37 : a1 = (60 : Int32)
                    · rw [if_pos hc_37] at h
                      refine az_E.sw hc_37 (pc' := 225) (L' := [.ref 55, .int a1, .int a2, .int a3, .int a4]) (S' := []) (σ' := (97, I, J, R)) rfl ?_
                      refine az_E.sn 5 (pc' := 231) (L' := [.ref 55, .int a1, .int a2, .int a3, .int a4]) (S' := [.int a4, .int a3, .int (3 : Int32), .int a2, .ref 55]) (σ' := (97, I, J, R)) rfl ?_
                      cases hx_40 : rec 6 a2 (3 : Int32) a3 a4 I with
                      | none => rw [hx_40] at h; cases h
                      | some o =>
                        rw [hx_40] at h
                        obtain ⟨x_38, I_39⟩ := o
                        dsimp only at h
                        refine az_E.call (d := (d + 0)) (k' := 6) (vs := [.ref 55, .int a2, .int (3 : Int32), .int a3, .int a4]) (pc' := 234) (S' := []) (Q1 := fun v s => v = some (.int x_38) ∧ s = (97, I_39, J, R)) rfl (az_E.deep (by omega) (hg_6 _ _ _ _ _ _ hx_40 (J := J) (R := R)  ⟨rfl, rfl⟩)) (fun v s hq => ?_)
                        obtain ⟨rfl, rfl⟩ := hq
                        show az_E az_F ex (d + 1) 9 234 [.ref 55, .int a1, .int a2, .int a3, .int a4] [.int x_38] (97, I_39, J, R) _
                        refine az_E.sn 2 (pc' := 236) (L' := [.ref 55, .int a1, .int a2, .int a3, .int a4]) (S' := [.int (x_38 ^^^ (5 : Int32))]) (σ' := (97, I_39, J, R)) rfl ?_
                        have h := Option.some.inj h
                        subst h
                        exact az_E.ret (v := some (.int (x_38 ^^^ (5 : Int32)))) (σ' := (97, I_39, J, R)) rfl hQ
                    · rw [if_neg hc_37] at h
                      by_cases hc_41 : a1 = (70 : Int32)
                      · rw [if_pos hc_41] at h
                        refine az_E.sw hc_41 (pc' := 237) (L' := [.ref 55, .int a1, .int a2, .int a3, .int a4]) (S' := []) (σ' := (97, I, J, R)) rfl ?_
                        refine az_E.sn 5 (pc' := 243) (L' := [.ref 55, .int a1, .int a2, .int a3, .int a4]) (S' := [.int a4, .int a3, .int (0 : Int32), .int a2, .ref 55]) (σ' := (97, I, J, R)) rfl ?_
                        cases hx_44 : rec 6 a2 (0 : Int32) a3 a4 I with
                        | none => rw [hx_44] at h; cases h
                        | some o =>
                          rw [hx_44] at h
                          obtain ⟨x_42, I_43⟩ := o
                          dsimp only at h
                          refine az_E.call (d := (d + 0)) (k' := 6) (vs := [.ref 55, .int a2, .int (0 : Int32), .int a3, .int a4]) (pc' := 246) (S' := []) (Q1 := fun v s => v = some (.int x_42) ∧ s = (97, I_43, J, R)) rfl (az_E.deep (by omega) (hg_6 _ _ _ _ _ _ hx_44 (J := J) (R := R)  ⟨rfl, rfl⟩)) (fun v s hq => ?_)
                          obtain ⟨rfl, rfl⟩ := hq
                          show az_E az_F ex (d + 1) 9 246 [.ref 55, .int a1, .int a2, .int a3, .int a4] [.int x_42] (97, I_43, J, R) _
                          refine az_E.sn 2 (pc' := 248) (L' := [.ref 55, .int a1, .int a2, .int a3, .int a4]) (S' := [.int (x_42 * (2 : Int32))]) (σ' := (97, I_43, J, R)) rfl ?_
                          have h := Option.some.inj h
                          subst h
                          exact az_E.ret (v := some (.int (x_42 * (2 : Int32)))) (σ' := (97, I_43, J, R)) rfl hQ
                      · rw [if_neg hc_41] at h
                        by_cases hc_45 : a1 = (80 : Int32)
                        · rw [if_pos hc_45] at h
                          refine az_E.sw hc_45 (pc' := 249) (L' := [.ref 55, .int a1, .int a2, .int a3, .int a4]) (S' := []) (σ' := (97, I, J, R)) rfl ?_
                          refine az_E.sn 5 (pc' := 255) (L' := [.ref 55, .int a1, .int a2, .int a3, .int a4]) (S' := [.int a4, .int a3, .int (1 : Int32), .int a2, .ref 55]) (σ' := (97, I, J, R)) rfl ?_
                          cases hx_48 : rec 6 a2 (1 : Int32) a3 a4 I with
                          | none => rw [hx_48] at h; cases h
                          | some o =>
                            rw [hx_48] at h
                            obtain ⟨x_46, I_47⟩ := o
                            dsimp only at h
                            refine az_E.call (d := (d + 0)) (k' := 6) (vs := [.ref 55, .int a2, .int (1 : Int32), .int a3, .int a4]) (pc' := 258) (S' := []) (Q1 := fun v s => v = some (.int x_46) ∧ s = (97, I_47, J, R)) rfl (az_E.deep (by omega) (hg_6 _ _ _ _ _ _ hx_48 (J := J) (R := R)  ⟨rfl, rfl⟩)) (fun v s hq => ?_)
                            obtain ⟨rfl, rfl⟩ := hq
                            show az_E az_F ex (d + 1) 9 258 [.ref 55, .int a1, .int a2, .int a3, .int a4] [.int x_46] (97, I_47, J, R) _
                            refine az_E.sn 4 (pc' := 263) (L' := [.ref 55, .int a1, .int a2, .int a3, .int a4]) (S' := [.int a4, .int (2 : Int32), .int (2 : Int32), .ref 55, .int x_46]) (σ' := (97, I_47, J, R)) rfl ?_
                            cases hx_51 : rec 5 (2 : Int32) (2 : Int32) a4 0 I_47 with
                            | none => rw [hx_51] at h; cases h
                            | some o =>
                              rw [hx_51] at h
                              obtain ⟨x_49, I_50⟩ := o
                              dsimp only at h
                              refine az_E.call (d := (d + 0)) (k' := 5) (vs := [.ref 55, .int (2 : Int32), .int (2 : Int32), .int a4]) (pc' := 266) (S' := [.int x_46]) (Q1 := fun v s => v = some (.int x_49) ∧ s = (97, I_50, J, R)) rfl (az_E.deep (by omega) (hg_5 _ _ _ _ _ _ hx_51 (J := J) (R := R)  ⟨rfl, rfl⟩)) (fun v s hq => ?_)
                              obtain ⟨rfl, rfl⟩ := hq
                              show az_E az_F ex (d + 1) 9 266 [.ref 55, .int a1, .int a2, .int a3, .int a4] [.int x_49, .int x_46] (97, I_50, J, R) _
                              refine az_E.sn 1 (pc' := 267) (L' := [.ref 55, .int a1, .int a2, .int a3, .int a4]) (S' := [.int (x_46 + x_49)]) (σ' := (97, I_50, J, R)) rfl ?_
                              have h := Option.some.inj h
                              subst h
                              exact az_E.ret (v := some (.int (x_46 + x_49))) (σ' := (97, I_50, J, R)) rfl hQ
                        · rw [if_neg hc_45] at h
                          by_cases hc_52 : a1 = (81 : Int32)
                          · rw [if_pos hc_52] at h
                            refine az_E.sw hc_52 (pc' := 268) (L' := [.ref 55, .int a1, .int a2, .int a3, .int a4]) (S' := []) (σ' := (97, I, J, R)) rfl ?_
                            refine az_E.sn 5 (pc' := 274) (L' := [.ref 55, .int a1, .int a2, .int a3, .int a4]) (S' := [.int a4, .int a3, .int (3 : Int32), .int a2, .ref 55]) (σ' := (97, I, J, R)) rfl ?_
                            cases hx_55 : rec 6 a2 (3 : Int32) a3 a4 I with
                            | none => rw [hx_55] at h; cases h
                            | some o =>
                              rw [hx_55] at h
                              obtain ⟨x_53, I_54⟩ := o
                              dsimp only at h
                              refine az_E.call (d := (d + 0)) (k' := 6) (vs := [.ref 55, .int a2, .int (3 : Int32), .int a3, .int a4]) (pc' := 277) (S' := []) (Q1 := fun v s => v = some (.int x_53) ∧ s = (97, I_54, J, R)) rfl (az_E.deep (by omega) (hg_6 _ _ _ _ _ _ hx_55 (J := J) (R := R)  ⟨rfl, rfl⟩)) (fun v s hq => ?_)
                              obtain ⟨rfl, rfl⟩ := hq
                              show az_E az_F ex (d + 1) 9 277 [.ref 55, .int a1, .int a2, .int a3, .int a4] [.int x_53] (97, I_54, J, R) _
                              refine az_E.sn 2 (pc' := 279) (L' := [.ref 55, .int a1, .int a2, .int a3, .int a4]) (S' := [.int (x_53 - (1 : Int32))]) (σ' := (97, I_54, J, R)) rfl ?_
                              have h := Option.some.inj h
                              subst h
                              exact az_E.ret (v := some (.int (x_53 - (1 : Int32)))) (σ' := (97, I_54, J, R)) rfl hQ
                          · rw [if_neg hc_52] at h
                            refine az_E.lwd (df := 279) (ps := #[(1, 115), (2, 122), (10, 140), (11, 151), (20, 158), (30, 170), (40, 181), (41, 193), (50, 205), (60, 224), (70, 236), (80, 248), (81, 267)]) (a := 280) rfl (by show Op.lookupswitch.offset [(1, 115), (2, 122), (10, 140), (11, 151), (20, 158), (30, 170), (40, 181), (41, 193), (50, 205), (60, 224), (70, 236), (80, 248), (81, 267)] _ _ = _; rw [lv_osw hc_1 (by decide), lv_osw hc_2 (by decide), lv_osw hc_9 (by decide), lv_osw hc_13 (by decide), lv_osw hc_14 (by decide), lv_osw hc_18 (by decide), lv_osw hc_22 (by decide), lv_osw hc_26 (by decide), lv_osw hc_30 (by decide), lv_osw hc_37 (by decide), lv_osw hc_41 (by decide), lv_osw hc_45 (by decide), lv_osw hc_52 (by decide)]; rfl) (by decide) ?_
                            refine az_E.sn 1 (pc' := 281) (L' := [.ref 55, .int a1, .int a2, .int a3, .int a4]) (S' := [.int (0 : Int32)]) (σ' := (97, I, J, R)) rfl ?_
                            have h := Option.some.inj h
                            subst h
                            exact az_E.ret (v := some (.int (0 : Int32))) (σ' := (97, I, J, R)) rfl hQ
set_option maxRecDepth 100000 in
set_option maxHeartbeats 4000000 in
theorem re_G0 {ex : az_X} : ∀ n : Nat, (∀ (b1 b2 b3 b4 : Int32) (I : Nat → Nat → Int32) (o : Int32 × (Nat → Nat → Int32)), rs_G0 ex n 5 b1 b2 b3 b4 I = some o → ∀ {J : Nat → Nat → Int64} {R : Nat → Nat → Option Nat} {Q : Option Value → az_S → Prop}, Q (some (.int o.1)) (97, o.2, J, R) → az_E az_F ex (n * 1) 5 0 [.ref 55, .int b1, .int b2, .int b3] [] (97, I, J, R) Q) ∧ (∀ (b1 b2 b3 b4 : Int32) (I : Nat → Nat → Int32) (o : Int32 × (Nat → Nat → Int32)), rs_G0 ex n 6 b1 b2 b3 b4 I = some o → ∀ {J : Nat → Nat → Int64} {R : Nat → Nat → Option Nat} {Q : Option Value → az_S → Prop}, Q (some (.int o.1)) (97, o.2, J, R) → az_E az_F ex (n * 1) 6 0 [.ref 55, .int b1, .int b2, .int b3, .int b4] [] (97, I, J, R) Q) ∧ (∀ (b1 b2 b3 b4 : Int32) (I : Nat → Nat → Int32) (o : Int32 × (Nat → Nat → Int32)), rs_G0 ex n 7 b1 b2 b3 b4 I = some o → ∀ {J : Nat → Nat → Int64} {R : Nat → Nat → Option Nat} {Q : Option Value → az_S → Prop}, Q (some (.int o.1)) (97, o.2, J, R) → az_E az_F ex (n * 1) 7 0 [.ref 55, .int b1, .int b2, .int b3, .int b4, .retAddr 0, .retAddr 0] [] (97, I, J, R) Q) ∧ (∀ (b1 b2 b3 b4 : Int32) (I : Nat → Nat → Int32) (o : Int32 × (Nat → Nat → Int32)), rs_G0 ex n 9 b1 b2 b3 b4 I = some o → ∀ {J : Nat → Nat → Int64} {R : Nat → Nat → Option Nat} {Q : Option Value → az_S → Prop}, Q (some (.int o.1)) (97, o.2, J, R) → az_E az_F ex (n * 1) 9 0 [.ref 55, .int b1, .int b2, .int b3, .int b4] [] (97, I, J, R) Q) := by
  intro n
  induction n with
  | zero =>
    refine ⟨?_, ?_, ?_, ?_⟩
    all_goals (intro b1 b2 b3 b4 I o h; cases h)
  | succ n ih =>
    obtain ⟨hg_5, hg_6, hg_7, hg_9⟩ := ih
    have e : (n + 1) * 1 = n * 1 + 1 := by omega
    rw [e]
    refine ⟨?_, ?_, ?_, ?_⟩
    · intro b1 b2 b3 b4 I o h J R Q  hQ
      replace h : rs_Bd_own (rs_G0 ex n) ex I b1 b2 b3 = some o := h
      exact re_Bd_own hg_5 hg_6 hg_7 hg_9  h hQ
    · intro b1 b2 b3 b4 I o h J R Q  hQ
      replace h : rs_Bd_above (rs_G0 ex n) ex I b1 b2 b3 b4 = some o := h
      exact re_Bd_above hg_5 hg_6 hg_7 hg_9  h hQ
    · intro b1 b2 b3 b4 I o h J R Q  hQ
      replace h : rs_Bd_from (rs_G0 ex n) ex I b1 b2 b3 b4 = some o := h
      exact re_Bd_from hg_5 hg_6 hg_7 hg_9  h hQ
    · intro b1 b2 b3 b4 I o h J R Q  hQ
      replace h : rs_Bd_run (rs_G0 ex n) ex I b1 b2 b3 b4 = some o := h
      exact re_Bd_run hg_5 hg_6 hg_7 hg_9  h hQ
set_option maxRecDepth 100000 in
set_option maxHeartbeats 4000000 in
theorem re_G0_5 {ex : az_X} {n : Nat} : ∀ (b1 b2 b3 b4 : Int32) (I : Nat → Nat → Int32) (o : Int32 × (Nat → Nat → Int32)), rs_G0 ex n 5 b1 b2 b3 b4 I = some o → ∀ {J : Nat → Nat → Int64} {R : Nat → Nat → Option Nat} {Q : Option Value → az_S → Prop}, Q (some (.int o.1)) (97, o.2, J, R) → az_E az_F ex (n * 1) 5 0 [.ref 55, .int b1, .int b2, .int b3] [] (97, I, J, R) Q := (re_G0 n).1
set_option maxRecDepth 100000 in
set_option maxHeartbeats 4000000 in
theorem re_G0_6 {ex : az_X} {n : Nat} : ∀ (b1 b2 b3 b4 : Int32) (I : Nat → Nat → Int32) (o : Int32 × (Nat → Nat → Int32)), rs_G0 ex n 6 b1 b2 b3 b4 I = some o → ∀ {J : Nat → Nat → Int64} {R : Nat → Nat → Option Nat} {Q : Option Value → az_S → Prop}, Q (some (.int o.1)) (97, o.2, J, R) → az_E az_F ex (n * 1) 6 0 [.ref 55, .int b1, .int b2, .int b3, .int b4] [] (97, I, J, R) Q := (re_G0 n).2.1
set_option maxRecDepth 100000 in
set_option maxHeartbeats 4000000 in
theorem re_G0_7 {ex : az_X} {n : Nat} : ∀ (b1 b2 b3 b4 : Int32) (I : Nat → Nat → Int32) (o : Int32 × (Nat → Nat → Int32)), rs_G0 ex n 7 b1 b2 b3 b4 I = some o → ∀ {J : Nat → Nat → Int64} {R : Nat → Nat → Option Nat} {Q : Option Value → az_S → Prop}, Q (some (.int o.1)) (97, o.2, J, R) → az_E az_F ex (n * 1) 7 0 [.ref 55, .int b1, .int b2, .int b3, .int b4, .retAddr 0, .retAddr 0] [] (97, I, J, R) Q := (re_G0 n).2.2.1
set_option maxRecDepth 100000 in
set_option maxHeartbeats 4000000 in
theorem re_G0_9 {ex : az_X} {n : Nat} : ∀ (b1 b2 b3 b4 : Int32) (I : Nat → Nat → Int32) (o : Int32 × (Nat → Nat → Int32)), rs_G0 ex n 9 b1 b2 b3 b4 I = some o → ∀ {J : Nat → Nat → Int64} {R : Nat → Nat → Option Nat} {Q : Option Value → az_S → Prop}, Q (some (.int o.1)) (97, o.2, J, R) → az_E az_F ex (n * 1) 9 0 [.ref 55, .int b1, .int b2, .int b3, .int b4] [] (97, I, J, R) Q := (re_G0 n).2.2.2
set_option maxRecDepth 100000 in
set_option maxHeartbeats 4000000 in
theorem re_Bd_perform {ex : az_X} {I : Nat → Nat → Int32} {J : Nat → Nat → Int64} {R : Nat → Nat → Option Nat} {a1 : Int32} {a2 : Int32} {a3 : Int32} {o : Int32 × (Nat → Nat → Int32)} (h : rs_Bd_perform ex I a1 a2 a3 = some o) {Q : Option Value → az_S → Prop} (hQ : Q (some (.int o.1)) (97, o.2, J, R)) : az_E az_F ex 61 4 0 [.ref 55, .int a1, .int a2, .int a3] [] (97, I, J, R) Q := by
  unfold rs_Bd_perform at h
  refine az_E.sn 5 (pc' := 7) (L' := [.ref 55, .int a1, .int a2, .int a3]) (S' := [.int a1, .ref 55]) (σ' := (97, (az_u I 55 3 (0 : Int32)), J, R)) rfl ?_
  refine az_E.call (d := 60) (k' := 2) (vs := [.ref 55, .int a1]) (pc' := 10) (S' := []) rfl ?_ (fun _ _ hq => hq)
  show az_E az_F ex 60 2 0 [.ref 55, .int a1] [] (97, (az_u I 55 3 (0 : Int32)), J, R) _
  refine az_E.sn 6 (pc' := 8) (L' := [.ref 55, .int a1]) (S' := [.int ((I 55 1) - (1 : Int32)), .int (0 : Int32), .int a1]) (σ' := (97, (az_u I 55 3 (0 : Int32)), J, R)) rfl ?_
  refine az_E.call (d := 59) (k' := 131) (vs := [.int a1, .int (0 : Int32), .int ((I 55 1) - (1 : Int32))]) (pc' := 11) (S' := []) rfl ?_ (fun _ _ hq => hq)
  show az_E az_F ex 59 131 0 [.int a1, .int (0 : Int32), .int ((I 55 1) - (1 : Int32))] [] (97, (az_u I 55 3 (0 : Int32)), J, R) _
  refine az_E.sn 2 (pc' := 2) (L' := [.int a1, .int (0 : Int32), .int ((I 55 1) - (1 : Int32))]) (S' := [.int (0 : Int32), .int a1]) (σ' := (97, (az_u I 55 3 (0 : Int32)), J, R)) rfl ?_
  refine az_E.br (c := a1 < (0 : Int32)) (tt := 14) (ff := 5) (L' := [.int a1, .int (0 : Int32), .int ((I 55 1) - (1 : Int32))]) (S' := []) (σ' := (97, (az_u I 55 3 (0 : Int32)), J, R)) rfl (fun hc_1 => ?_) (fun hc_1 => ?_)
  · rw [if_pos hc_1] at h
    refine az_E.sn 1 (pc' := 15) (L' := [.int a1, .int (0 : Int32), .int ((I 55 1) - (1 : Int32))]) (S' := [.int (0 : Int32)]) (σ' := (97, (az_u I 55 3 (0 : Int32)), J, R)) rfl ?_
    refine az_E.ret (v := some (.int (0 : Int32))) (σ' := (97, (az_u I 55 3 (0 : Int32)), J, R)) rfl ?_
    show az_E az_F ex 60 2 11 [.ref 55, .int a1] [.int (0 : Int32)] (97, (az_u I 55 3 (0 : Int32)), J, R) _
    refine az_E.ret (v := some (.int (0 : Int32))) (σ' := (97, (az_u I 55 3 (0 : Int32)), J, R)) rfl ?_
    show az_E az_F ex 61 4 10 [.ref 55, .int a1, .int a2, .int a3] [.int (0 : Int32)] (97, (az_u I 55 3 (0 : Int32)), J, R) _
    refine az_E.br (c := (0 : Int32) = 0) (tt := 22) (ff := 13) (L' := [.ref 55, .int a1, .int a2, .int a3]) (S' := []) (σ' := (97, (az_u I 55 3 (0 : Int32)), J, R)) rfl (fun _ => ?_) (fun hn => absurd (by decide) hn)
    refine az_E.sn 1 (pc' := 23) (L' := [.ref 55, .int a1, .int a2, .int a3]) (S' := [.int (0 : Int32)]) (σ' := (97, (az_u I 55 3 (0 : Int32)), J, R)) rfl ?_
    have h := Option.some.inj h
    subst h
    exact az_E.ret (v := some (.int (0 : Int32))) (σ' := (97, (az_u I 55 3 (0 : Int32)), J, R)) rfl hQ
  · rw [if_neg hc_1] at h
    refine az_E.sn 2 (pc' := 7) (L' := [.int a1, .int (0 : Int32), .int ((I 55 1) - (1 : Int32))]) (S' := [.int ((I 55 1) - (1 : Int32)), .int a1]) (σ' := (97, (az_u I 55 3 (0 : Int32)), J, R)) rfl ?_
    refine az_E.br (c := ((I 55 1) - (1 : Int32)) < a1) (tt := 14) (ff := 10) (L' := [.int a1, .int (0 : Int32), .int ((I 55 1) - (1 : Int32))]) (S' := []) (σ' := (97, (az_u I 55 3 (0 : Int32)), J, R)) rfl (fun hc_2 => ?_) (fun hc_2 => ?_)
    · rw [if_pos hc_2] at h
      refine az_E.sn 1 (pc' := 15) (L' := [.int a1, .int (0 : Int32), .int ((I 55 1) - (1 : Int32))]) (S' := [.int (0 : Int32)]) (σ' := (97, (az_u I 55 3 (0 : Int32)), J, R)) rfl ?_
      refine az_E.ret (v := some (.int (0 : Int32))) (σ' := (97, (az_u I 55 3 (0 : Int32)), J, R)) rfl ?_
      show az_E az_F ex 60 2 11 [.ref 55, .int a1] [.int (0 : Int32)] (97, (az_u I 55 3 (0 : Int32)), J, R) _
      refine az_E.ret (v := some (.int (0 : Int32))) (σ' := (97, (az_u I 55 3 (0 : Int32)), J, R)) rfl ?_
      show az_E az_F ex 61 4 10 [.ref 55, .int a1, .int a2, .int a3] [.int (0 : Int32)] (97, (az_u I 55 3 (0 : Int32)), J, R) _
      refine az_E.br (c := (0 : Int32) = 0) (tt := 22) (ff := 13) (L' := [.ref 55, .int a1, .int a2, .int a3]) (S' := []) (σ' := (97, (az_u I 55 3 (0 : Int32)), J, R)) rfl (fun _ => ?_) (fun hn => absurd (by decide) hn)
      refine az_E.sn 1 (pc' := 23) (L' := [.ref 55, .int a1, .int a2, .int a3]) (S' := [.int (0 : Int32)]) (σ' := (97, (az_u I 55 3 (0 : Int32)), J, R)) rfl ?_
      have h := Option.some.inj h
      subst h
      exact az_E.ret (v := some (.int (0 : Int32))) (σ' := (97, (az_u I 55 3 (0 : Int32)), J, R)) rfl hQ
    · rw [if_neg hc_2] at h
      refine az_E.sn 2 (pc' := 15) (L' := [.int a1, .int (0 : Int32), .int ((I 55 1) - (1 : Int32))]) (S' := [.int (1 : Int32)]) (σ' := (97, (az_u I 55 3 (0 : Int32)), J, R)) rfl ?_
      refine az_E.ret (v := some (.int (1 : Int32))) (σ' := (97, (az_u I 55 3 (0 : Int32)), J, R)) rfl ?_
      show az_E az_F ex 60 2 11 [.ref 55, .int a1] [.int (1 : Int32)] (97, (az_u I 55 3 (0 : Int32)), J, R) _
      refine az_E.ret (v := some (.int (1 : Int32))) (σ' := (97, (az_u I 55 3 (0 : Int32)), J, R)) rfl ?_
      show az_E az_F ex 61 4 10 [.ref 55, .int a1, .int a2, .int a3] [.int (1 : Int32)] (97, (az_u I 55 3 (0 : Int32)), J, R) _
      refine az_E.br (c := (1 : Int32) = 0) (tt := 22) (ff := 13) (L' := [.ref 55, .int a1, .int a2, .int a3]) (S' := []) (σ' := (97, (az_u I 55 3 (0 : Int32)), J, R)) rfl (fun hn => absurd hn (by decide)) (fun _ => ?_)
      refine az_E.sn 3 (pc' := 16) (L' := [.ref 55, .int a1, .int a2, .int a3]) (S' := [.int (3 : Int32), .int (0 : Int32), .int a2]) (σ' := (97, (az_u I 55 3 (0 : Int32)), J, R)) rfl ?_
      refine az_E.call (d := 60) (k' := 131) (vs := [.int a2, .int (0 : Int32), .int (3 : Int32)]) (pc' := 19) (S' := []) rfl ?_ (fun _ _ hq => hq)
      show az_E az_F ex 60 131 0 [.int a2, .int (0 : Int32), .int (3 : Int32)] [] (97, (az_u I 55 3 (0 : Int32)), J, R) _
      refine az_E.sn 2 (pc' := 2) (L' := [.int a2, .int (0 : Int32), .int (3 : Int32)]) (S' := [.int (0 : Int32), .int a2]) (σ' := (97, (az_u I 55 3 (0 : Int32)), J, R)) rfl ?_
      refine az_E.br (c := a2 < (0 : Int32)) (tt := 14) (ff := 5) (L' := [.int a2, .int (0 : Int32), .int (3 : Int32)]) (S' := []) (σ' := (97, (az_u I 55 3 (0 : Int32)), J, R)) rfl (fun hc_3 => ?_) (fun hc_3 => ?_)
      · rw [if_pos hc_3] at h
        refine az_E.sn 1 (pc' := 15) (L' := [.int a2, .int (0 : Int32), .int (3 : Int32)]) (S' := [.int (0 : Int32)]) (σ' := (97, (az_u I 55 3 (0 : Int32)), J, R)) rfl ?_
        refine az_E.ret (v := some (.int (0 : Int32))) (σ' := (97, (az_u I 55 3 (0 : Int32)), J, R)) rfl ?_
        show az_E az_F ex 61 4 19 [.ref 55, .int a1, .int a2, .int a3] [.int (0 : Int32)] (97, (az_u I 55 3 (0 : Int32)), J, R) _
        refine az_E.br (c := (0 : Int32) = 0) (tt := 22) (ff := 24) (L' := [.ref 55, .int a1, .int a2, .int a3]) (S' := []) (σ' := (97, (az_u I 55 3 (0 : Int32)), J, R)) rfl (fun _ => ?_) (fun hn => absurd (by decide) hn)
        refine az_E.sn 1 (pc' := 23) (L' := [.ref 55, .int a1, .int a2, .int a3]) (S' := [.int (0 : Int32)]) (σ' := (97, (az_u I 55 3 (0 : Int32)), J, R)) rfl ?_
        have h := Option.some.inj h
        subst h
        exact az_E.ret (v := some (.int (0 : Int32))) (σ' := (97, (az_u I 55 3 (0 : Int32)), J, R)) rfl hQ
      · rw [if_neg hc_3] at h
        refine az_E.sn 2 (pc' := 7) (L' := [.int a2, .int (0 : Int32), .int (3 : Int32)]) (S' := [.int (3 : Int32), .int a2]) (σ' := (97, (az_u I 55 3 (0 : Int32)), J, R)) rfl ?_
        refine az_E.br (c := (3 : Int32) < a2) (tt := 14) (ff := 10) (L' := [.int a2, .int (0 : Int32), .int (3 : Int32)]) (S' := []) (σ' := (97, (az_u I 55 3 (0 : Int32)), J, R)) rfl (fun hc_4 => ?_) (fun hc_4 => ?_)
        · rw [if_pos hc_4] at h
          refine az_E.sn 1 (pc' := 15) (L' := [.int a2, .int (0 : Int32), .int (3 : Int32)]) (S' := [.int (0 : Int32)]) (σ' := (97, (az_u I 55 3 (0 : Int32)), J, R)) rfl ?_
          refine az_E.ret (v := some (.int (0 : Int32))) (σ' := (97, (az_u I 55 3 (0 : Int32)), J, R)) rfl ?_
          show az_E az_F ex 61 4 19 [.ref 55, .int a1, .int a2, .int a3] [.int (0 : Int32)] (97, (az_u I 55 3 (0 : Int32)), J, R) _
          refine az_E.br (c := (0 : Int32) = 0) (tt := 22) (ff := 24) (L' := [.ref 55, .int a1, .int a2, .int a3]) (S' := []) (σ' := (97, (az_u I 55 3 (0 : Int32)), J, R)) rfl (fun _ => ?_) (fun hn => absurd (by decide) hn)
          refine az_E.sn 1 (pc' := 23) (L' := [.ref 55, .int a1, .int a2, .int a3]) (S' := [.int (0 : Int32)]) (σ' := (97, (az_u I 55 3 (0 : Int32)), J, R)) rfl ?_
          have h := Option.some.inj h
          subst h
          exact az_E.ret (v := some (.int (0 : Int32))) (σ' := (97, (az_u I 55 3 (0 : Int32)), J, R)) rfl hQ
        · rw [if_neg hc_4] at h
          refine az_E.sn 2 (pc' := 15) (L' := [.int a2, .int (0 : Int32), .int (3 : Int32)]) (S' := [.int (1 : Int32)]) (σ' := (97, (az_u I 55 3 (0 : Int32)), J, R)) rfl ?_
          refine az_E.ret (v := some (.int (1 : Int32))) (σ' := (97, (az_u I 55 3 (0 : Int32)), J, R)) rfl ?_
          show az_E az_F ex 61 4 19 [.ref 55, .int a1, .int a2, .int a3] [.int (1 : Int32)] (97, (az_u I 55 3 (0 : Int32)), J, R) _
          refine az_E.br (c := (1 : Int32) = 0) (tt := 22) (ff := 24) (L' := [.ref 55, .int a1, .int a2, .int a3]) (S' := []) (σ' := (97, (az_u I 55 3 (0 : Int32)), J, R)) rfl (fun hn => absurd hn (by decide)) (fun _ => ?_)
          refine az_E.sn 7 (pc' := 33) (L' := [.ref 55, .int a1, .int a2, .int a3]) (S' := [.int (0 : Int32), .int a3, .int a2, .ref 55]) (σ' := (97, (az_u (az_u I 55 3 (0 : Int32)) 55 4 a1), J, R)) rfl ?_
          cases hx_7 : rs_G0 ex 60 5 a2 a3 (0 : Int32) 0 (az_u (az_u I 55 3 (0 : Int32)) 55 4 a1) with
          | none => rw [hx_7] at h; cases h
          | some o =>
            rw [hx_7] at h
            obtain ⟨x_5, I_6⟩ := o
            dsimp only at h
            refine az_E.call (d := 60) (k' := 5) (vs := [.ref 55, .int a2, .int a3, .int (0 : Int32)]) (pc' := 36) (S' := []) (Q1 := fun v s => v = some (.int x_5) ∧ s = (97, I_6, J, R)) rfl (az_E.deep (by omega) (re_G0_5 (n := 60) _ _ _ _ _ _ hx_7 (J := J) (R := R)  ⟨rfl, rfl⟩)) (fun v s hq => ?_)
            obtain ⟨rfl, rfl⟩ := hq
            show az_E az_F ex 61 4 36 [.ref 55, .int a1, .int a2, .int a3] [.int x_5] (97, I_6, J, R) _
            have h := Option.some.inj h
            subst h
            exact az_E.ret (v := some (.int x_5)) (σ' := (97, I_6, J, R)) rfl hQ
set_option maxRecDepth 100000 in
set_option maxHeartbeats 4000000 in
theorem re_X_act {ex : az_X} {I : Nat → Nat → Int32} {J : Nat → Nat → Int64} {R : Nat → Nat → Option Nat} {a1 : Int32} {a2 : Int32} {a3 : Int32} {o : Int32 × (Nat → Nat → Int32)} (h : rs_X_act ex I a1 a2 a3 = some o) {Q : Option Value → az_S → Prop} (hQ : Q (some (.int o.1)) (97, o.2, J, R)) : az_E az_F ex 62 122 0 [.ref 3, .int a1, .int a2, .int a3] [] (97, I, J, R) Q := by
  unfold rs_X_act at h
  refine az_E.sn 5 (pc' := 7) (L' := [.ref 3, .int a1, .int a2, .int a3]) (S' := [.int a3, .int a2, .int a1, .ref 55]) (σ' := (97, I, J, R)) rfl ?_
  cases hx_3 : rs_Bd_perform ex I a1 a2 a3 with
  | none => rw [hx_3] at h; cases h
  | some o =>
    rw [hx_3] at h
    obtain ⟨x_1, I_2⟩ := o
    dsimp only at h
    refine az_E.call (d := 61) (k' := 4) (vs := [.ref 55, .int a1, .int a2, .int a3]) (pc' := 10) (S' := []) (Q1 := fun v s => v = some (.int x_1) ∧ s = (97, I_2, J, R)) rfl (az_E.deep (by omega) (re_Bd_perform (J := J) (R := R)  hx_3 ⟨rfl, rfl⟩)) (fun v s hq => ?_)
    obtain ⟨rfl, rfl⟩ := hq
    show az_E az_F ex 62 122 10 [.ref 3, .int a1, .int a2, .int a3] [.int x_1] (97, I_2, J, R) _
    have h := Option.some.inj h
    subst h
    exact az_E.ret (v := some (.int x_1)) (σ' := (97, I_2, J, R)) rfl hQ
set_option maxRecDepth 100000 in
set_option maxHeartbeats 4000000 in
theorem re_M_runs {ex : az_X} {I : Nat → Nat → Int32} {J : Nat → Nat → Int64} {R : Nat → Nat → Option Nat} {a1 : Int32} {o : (Nat → Nat → Int32)} (h : rs_M_runs I a1 = some o) {Q : Option Value → az_S → Prop} (hQ : Q none (97, o, J, R)) : az_E az_F ex 0 238 0 [.ref 73, .int a1] [] (97, I, J, R) Q := by
  unfold rs_M_runs at h
  refine az_E.sn 3 (pc' := 6) (L' := [.ref 73, .int a1]) (S' := [.int (24 : Int32), .int (I 73 36)]) (σ' := (97, I, J, R)) rfl ?_
  refine az_E.br (c := (24 : Int32) ≤ (I 73 36)) (tt := 19) (ff := 9) (L' := [.ref 73, .int a1]) (S' := []) (σ' := (97, I, J, R)) rfl (fun hc_1 => ?_) (fun hc_1 => ?_)
  · rw [if_pos hc_1] at h
    refine az_E.sn 6 (pc' := 29) (L' := [.ref 73, .int a1]) (S' := []) (σ' := (97, (az_u I 73 36 ((I 73 36) + (1 : Int32))), J, R)) rfl ?_
    have h := Option.some.inj h
    subst h
    exact az_E.ret (v := none) (σ' := (97, (az_u I 73 36 ((I 73 36) + (1 : Int32))), J, R)) rfl hQ
  · rw [if_neg hc_1] at h
    refine az_E.sn 5 (pc' := 18) (L' := [.ref 73, .int a1]) (S' := [.int a1, .int (I 73 36), .ref 95]) (σ' := (97, I, J, R)) rfl ?_
    by_cases hc_2 : (I 73 36) < 0 ∨ 24 ≤ (I 73 36).toNatClampNeg
    · rw [if_pos hc_2] at h; cases h
    · rw [if_neg hc_2] at h
      refine az_E.o (o := az_si az_F (97, I, J, R) 95 (I 73 36) a1) (pc' := 19) (L' := [.ref 73, .int a1]) (S' := []) (x := (97, (az_u I 95 (I 73 36).toNatClampNeg a1), J, R)) rfl (if_neg hc_2) ?_
      refine az_E.sn 6 (pc' := 29) (L' := [.ref 73, .int a1]) (S' := []) (σ' := (97, (az_u (az_u I 95 (I 73 36).toNatClampNeg a1) 73 36 ((I 73 36) + (1 : Int32))), J, R)) rfl ?_
      have h := Option.some.inj h
      subst h
      exact az_E.ret (v := none) (σ' := (97, (az_u (az_u I 95 (I 73 36).toNatClampNeg a1) 73 36 ((I 73 36) + (1 : Int32))), J, R)) rfl hQ
set_option maxRecDepth 100000 in
set_option maxHeartbeats 4000000 in
theorem re_M_pointsAs_16 {rec : az_GT} {d : Nat} {ex : az_X} {I : Nat → Nat → Int32} {J : Nat → Nat → Int64} {R : Nat → Nat → Option Nat} {v2 : Int32} (hg_239 : ∀ (b1 b2 b3 b4 : Int32) (I : Nat → Nat → Int32) (o : Int32 × (Nat → Nat → Int32)), rec 239 b1 b2 b3 b4 I = some o → ∀ {J : Nat → Nat → Int64} {R : Nat → Nat → Option Nat} {Q : Option Value → az_S → Prop}, Q (some (.int o.1)) (97, o.2, J, R) → az_E az_F ex d 239 0 [.ref 73, .int b1, .int b2] [] (97, I, J, R) Q) (hg_240 : ∀ (b1 b2 b3 b4 : Int32) (I : Nat → Nat → Int32) (o : Int32 × (Nat → Nat → Int32)), rec 240 b1 b2 b3 b4 I = some o → ∀ {J : Nat → Nat → Int64} {R : Nat → Nat → Option Nat} {Q : Option Value → az_S → Prop}, Q (some (.int o.1)) (97, o.2, J, R) → az_E az_F ex d 240 0 [.ref 73, .int b1, .int b2, .retAddr 0] [] (97, I, J, R) Q) (hg_241 : ∀ (b1 b2 b3 b4 : Int32) (I : Nat → Nat → Int32) (o : Int32 × (Nat → Nat → Int32)), rec 241 b1 b2 b3 b4 I = some o → ∀ {J : Nat → Nat → Int64} {R : Nat → Nat → Option Nat} {Q : Option Value → az_S → Prop}, Q (some (.int o.1)) (97, o.2, J, R) → az_E az_F ex d 241 0 [.ref 73, .int b1, .int b2, .retAddr 0] [] (97, I, J, R) Q) (hg_242 : ∀ (b1 b2 b3 b4 : Int32) (I : Nat → Nat → Int32) (o : Int32 × (Nat → Nat → Int32)), rec 242 b1 b2 b3 b4 I = some o → ∀ {J : Nat → Nat → Int64} {R : Nat → Nat → Option Nat} {Q : Option Value → az_S → Prop}, Q (some (.int o.1)) (97, o.2, J, R) → az_E az_F ex d 242 0 [.ref 73, .int b1, .int b2, .retAddr 0] [] (97, I, J, R) Q) {x : Int32 × (Nat → Nat → Int32)} (h : rs_M_pointsAs_16 rec I v2 = some x) {Q : Option Value → az_S → Prop} (hQ : Q (some (.int x.1)) (97, x.2, J, R)) : az_E az_F ex (d + 1) 239 16 [.ref 73, .retAddr 0, .int v2] [] (97, I, J, R) Q := by
  unfold rs_M_pointsAs_16 at h
  refine az_E.sn 2 (pc' := 19) (L' := [.ref 73, .retAddr 0, .int v2]) (S' := [.int (20 : Int32), .ref 73]) (σ' := (97, I, J, R)) rfl ?_
  cases hx_3 : rs_M_runs I (20 : Int32) with
  | none => rw [hx_3] at h; cases h
  | some I_2 =>
    rw [hx_3] at h
    dsimp only at h
    refine az_E.call (d := (d + 0)) (k' := 238) (vs := [.ref 73, .int (20 : Int32)]) (pc' := 22) (S' := []) (Q1 := fun v s => v = none ∧ s = (97, I_2, J, R)) rfl (az_E.deep (by omega) (re_M_runs (J := J) (R := R)  hx_3 ⟨rfl, rfl⟩)) (fun v s hq => ?_)
    obtain ⟨rfl, rfl⟩ := hq
    show az_E az_F ex (d + 1) 239 22 [.ref 73, .retAddr 0, .int v2] [] (97, I_2, J, R) _
    refine az_E.sn 3 (pc' := 25) (L' := [.ref 73, .retAddr 0, .int v2]) (S' := [.int v2, .int (0 : Int32), .ref 73]) (σ' := (97, I_2, J, R)) rfl ?_
    cases hx_6 : rec 239 (0 : Int32) v2 0 0 I_2 with
    | none => rw [hx_6] at h; cases h
    | some o =>
      rw [hx_6] at h
      obtain ⟨x_4, I_5⟩ := o
      dsimp only at h
      refine az_E.call (d := (d + 0)) (k' := 239) (vs := [.ref 73, .int (0 : Int32), .int v2]) (pc' := 28) (S' := []) (Q1 := fun v s => v = some (.int x_4) ∧ s = (97, I_5, J, R)) rfl (az_E.deep (by omega) (hg_239 _ _ _ _ _ _ hx_6 (J := J) (R := R)  ⟨rfl, rfl⟩)) (fun v s hq => ?_)
      obtain ⟨rfl, rfl⟩ := hq
      show az_E az_F ex (d + 1) 239 28 [.ref 73, .retAddr 0, .int v2] [.int x_4] (97, I_5, J, R) _
      refine az_E.sn 2 (pc' := 30) (L' := [.ref 73, .retAddr 0, .int v2]) (S' := [.int (x_4 + (3 : Int32))]) (σ' := (97, I_5, J, R)) rfl ?_
      have h := Option.some.inj h
      subst h
      exact az_E.ret (v := some (.int (x_4 + (3 : Int32)))) (σ' := (97, I_5, J, R)) rfl hQ
set_option maxRecDepth 100000 in
set_option maxHeartbeats 4000000 in
theorem re_M_pointsAs {rec : az_GT} {d : Nat} {ex : az_X} {I : Nat → Nat → Int32} {J : Nat → Nat → Int64} {R : Nat → Nat → Option Nat} {a1 : Int32} {a2 : Int32} (hg_239 : ∀ (b1 b2 b3 b4 : Int32) (I : Nat → Nat → Int32) (o : Int32 × (Nat → Nat → Int32)), rec 239 b1 b2 b3 b4 I = some o → ∀ {J : Nat → Nat → Int64} {R : Nat → Nat → Option Nat} {Q : Option Value → az_S → Prop}, Q (some (.int o.1)) (97, o.2, J, R) → az_E az_F ex d 239 0 [.ref 73, .int b1, .int b2] [] (97, I, J, R) Q) (hg_240 : ∀ (b1 b2 b3 b4 : Int32) (I : Nat → Nat → Int32) (o : Int32 × (Nat → Nat → Int32)), rec 240 b1 b2 b3 b4 I = some o → ∀ {J : Nat → Nat → Int64} {R : Nat → Nat → Option Nat} {Q : Option Value → az_S → Prop}, Q (some (.int o.1)) (97, o.2, J, R) → az_E az_F ex d 240 0 [.ref 73, .int b1, .int b2, .retAddr 0] [] (97, I, J, R) Q) (hg_241 : ∀ (b1 b2 b3 b4 : Int32) (I : Nat → Nat → Int32) (o : Int32 × (Nat → Nat → Int32)), rec 241 b1 b2 b3 b4 I = some o → ∀ {J : Nat → Nat → Int64} {R : Nat → Nat → Option Nat} {Q : Option Value → az_S → Prop}, Q (some (.int o.1)) (97, o.2, J, R) → az_E az_F ex d 241 0 [.ref 73, .int b1, .int b2, .retAddr 0] [] (97, I, J, R) Q) (hg_242 : ∀ (b1 b2 b3 b4 : Int32) (I : Nat → Nat → Int32) (o : Int32 × (Nat → Nat → Int32)), rec 242 b1 b2 b3 b4 I = some o → ∀ {J : Nat → Nat → Int64} {R : Nat → Nat → Option Nat} {Q : Option Value → az_S → Prop}, Q (some (.int o.1)) (97, o.2, J, R) → az_E az_F ex d 242 0 [.ref 73, .int b1, .int b2, .retAddr 0] [] (97, I, J, R) Q) {o : Int32 × (Nat → Nat → Int32)} (h : rs_M_pointsAs rec I a1 a2 = some o) {Q : Option Value → az_S → Prop} (hQ : Q (some (.int o.1)) (97, o.2, J, R)) : az_E az_F ex (d + 1) 239 0 [.ref 73, .int a1, .int a2] [] (97, I, J, R) Q := by
  unfold rs_M_pointsAs at h
  refine az_E.sn 2 (pc' := 2) (L' := [.ref 73, .int a1, .int a2]) (S' := [.int (1 : Int32), .int a1]) (σ' := (97, I, J, R)) rfl ?_
  refine az_E.br (c := a1 = (1 : Int32)) (tt := 16) (ff := 5) (L' := [.ref 73, .int a1, .int a2]) (S' := []) (σ' := (97, I, J, R)) rfl (fun hc_1 => ?_) (fun hc_1 => ?_)
  · rw [if_pos hc_1] at h
    exact az_E.forget (L := [.ref 73, .retAddr 0, .int a2]) ⟨rfl, trivial, rfl, trivial⟩ (re_M_pointsAs_16 (I := I) (J := J) (R := R) hg_239 hg_240 hg_241 hg_242 h hQ)
  · rw [if_neg hc_1] at h
    refine az_E.sn 2 (pc' := 7) (L' := [.ref 73, .int a1, .int a2]) (S' := [.int (4 : Int32), .int a1]) (σ' := (97, I, J, R)) rfl ?_
    refine az_E.br (c := a1 = (4 : Int32)) (tt := 16) (ff := 10) (L' := [.ref 73, .int a1, .int a2]) (S' := []) (σ' := (97, I, J, R)) rfl (fun hc_7 => ?_) (fun hc_7 => ?_)
    · rw [if_pos hc_7] at h
      exact az_E.forget (L := [.ref 73, .retAddr 0, .int a2]) ⟨rfl, trivial, rfl, trivial⟩ (re_M_pointsAs_16 (I := I) (J := J) (R := R) hg_239 hg_240 hg_241 hg_242 h hQ)
    · rw [if_neg hc_7] at h
      refine az_E.sn 2 (pc' := 13) (L' := [.ref 73, .int a1, .int a2]) (S' := [.int (7 : Int32), .int a1]) (σ' := (97, I, J, R)) rfl ?_
      refine az_E.br (c := a1 = (7 : Int32)) (tt := 16) (ff := 31) (L' := [.ref 73, .int a1, .int a2]) (S' := []) (σ' := (97, I, J, R)) rfl (fun hc_8 => ?_) (fun hc_8 => ?_)
      · rw [if_pos hc_8] at h
        exact az_E.forget (L := [.ref 73, .retAddr 0, .int a2]) ⟨rfl, trivial, rfl, trivial⟩ (re_M_pointsAs_16 (I := I) (J := J) (R := R) hg_239 hg_240 hg_241 hg_242 h hQ)
      · rw [if_neg hc_8] at h
        refine az_E.sn 2 (pc' := 34) (L' := [.ref 73, .int a1, .int a2]) (S' := [.int (6 : Int32), .int a1]) (σ' := (97, I, J, R)) rfl ?_
        refine az_E.br (c := a1 = (6 : Int32)) (tt := 37) (ff := 52) (L' := [.ref 73, .int a1, .int a2]) (S' := []) (σ' := (97, I, J, R)) rfl (fun hc_9 => ?_) (fun hc_9 => ?_)
        · rw [if_pos hc_9] at h
          refine az_E.sn 2 (pc' := 40) (L' := [.ref 73, .int a1, .int a2]) (S' := [.int (70 : Int32), .ref 73]) (σ' := (97, I, J, R)) rfl ?_
          cases hx_11 : rs_M_runs I (70 : Int32) with
          | none => rw [hx_11] at h; cases h
          | some I_10 =>
            rw [hx_11] at h
            dsimp only at h
            refine az_E.call (d := (d + 0)) (k' := 238) (vs := [.ref 73, .int (70 : Int32)]) (pc' := 43) (S' := []) (Q1 := fun v s => v = none ∧ s = (97, I_10, J, R)) rfl (az_E.deep (by omega) (re_M_runs (J := J) (R := R)  hx_11 ⟨rfl, rfl⟩)) (fun v s hq => ?_)
            obtain ⟨rfl, rfl⟩ := hq
            show az_E az_F ex (d + 1) 239 43 [.ref 73, .int a1, .int a2] [] (97, I_10, J, R) _
            refine az_E.sn 3 (pc' := 46) (L' := [.ref 73, .int a1, .int a2]) (S' := [.int a2, .int (0 : Int32), .ref 73]) (σ' := (97, I_10, J, R)) rfl ?_
            cases hx_14 : rec 239 (0 : Int32) a2 0 0 I_10 with
            | none => rw [hx_14] at h; cases h
            | some o =>
              rw [hx_14] at h
              obtain ⟨x_12, I_13⟩ := o
              dsimp only at h
              refine az_E.call (d := (d + 0)) (k' := 239) (vs := [.ref 73, .int (0 : Int32), .int a2]) (pc' := 49) (S' := []) (Q1 := fun v s => v = some (.int x_12) ∧ s = (97, I_13, J, R)) rfl (az_E.deep (by omega) (hg_239 _ _ _ _ _ _ hx_14 (J := J) (R := R)  ⟨rfl, rfl⟩)) (fun v s hq => ?_)
              obtain ⟨rfl, rfl⟩ := hq
              show az_E az_F ex (d + 1) 239 49 [.ref 73, .int a1, .int a2] [.int x_12] (97, I_13, J, R) _
              refine az_E.sn 2 (pc' := 51) (L' := [.ref 73, .int a1, .int a2]) (S' := [.int (x_12 * (2 : Int32))]) (σ' := (97, I_13, J, R)) rfl ?_
              have h := Option.some.inj h
              subst h
              exact az_E.ret (v := some (.int (x_12 * (2 : Int32)))) (σ' := (97, I_13, J, R)) rfl hQ
        · rw [if_neg hc_9] at h
          refine az_E.sn 2 (pc' := 54) (L' := [.ref 73, .int a1, .int a2]) (S' := [.int (1 : Int32), .ref 73]) (σ' := (97, I, J, R)) rfl ?_
          cases hx_16 : rs_M_runs I (1 : Int32) with
          | none => rw [hx_16] at h; cases h
          | some I_15 =>
            rw [hx_16] at h
            dsimp only at h
            refine az_E.call (d := (d + 0)) (k' := 238) (vs := [.ref 73, .int (1 : Int32)]) (pc' := 57) (S' := []) (Q1 := fun v s => v = none ∧ s = (97, I_15, J, R)) rfl (az_E.deep (by omega) (re_M_runs (J := J) (R := R)  hx_16 ⟨rfl, rfl⟩)) (fun v s hq => ?_)
            obtain ⟨rfl, rfl⟩ := hq
            show az_E az_F ex (d + 1) 239 57 [.ref 73, .int a1, .int a2] [] (97, I_15, J, R) _
            refine az_E.sn 4 (pc' := 63) (L' := [.ref 73, .int a1, .int a2]) (S' := [.int (a2 + (I_15 73 38))]) (σ' := (97, I_15, J, R)) rfl ?_
            have h := Option.some.inj h
            subst h
            exact az_E.ret (v := some (.int (a2 + (I_15 73 38)))) (σ' := (97, I_15, J, R)) rfl hQ
set_option maxRecDepth 100000 in
set_option maxHeartbeats 4000000 in
theorem re_M_growsAs_10 {rec : az_GT} {d : Nat} {ex : az_X} {I : Nat → Nat → Int32} {J : Nat → Nat → Int64} {R : Nat → Nat → Option Nat} {v2 : Int32} (hg_239 : ∀ (b1 b2 b3 b4 : Int32) (I : Nat → Nat → Int32) (o : Int32 × (Nat → Nat → Int32)), rec 239 b1 b2 b3 b4 I = some o → ∀ {J : Nat → Nat → Int64} {R : Nat → Nat → Option Nat} {Q : Option Value → az_S → Prop}, Q (some (.int o.1)) (97, o.2, J, R) → az_E az_F ex d 239 0 [.ref 73, .int b1, .int b2] [] (97, I, J, R) Q) (hg_240 : ∀ (b1 b2 b3 b4 : Int32) (I : Nat → Nat → Int32) (o : Int32 × (Nat → Nat → Int32)), rec 240 b1 b2 b3 b4 I = some o → ∀ {J : Nat → Nat → Int64} {R : Nat → Nat → Option Nat} {Q : Option Value → az_S → Prop}, Q (some (.int o.1)) (97, o.2, J, R) → az_E az_F ex d 240 0 [.ref 73, .int b1, .int b2, .retAddr 0] [] (97, I, J, R) Q) (hg_241 : ∀ (b1 b2 b3 b4 : Int32) (I : Nat → Nat → Int32) (o : Int32 × (Nat → Nat → Int32)), rec 241 b1 b2 b3 b4 I = some o → ∀ {J : Nat → Nat → Int64} {R : Nat → Nat → Option Nat} {Q : Option Value → az_S → Prop}, Q (some (.int o.1)) (97, o.2, J, R) → az_E az_F ex d 241 0 [.ref 73, .int b1, .int b2, .retAddr 0] [] (97, I, J, R) Q) (hg_242 : ∀ (b1 b2 b3 b4 : Int32) (I : Nat → Nat → Int32) (o : Int32 × (Nat → Nat → Int32)), rec 242 b1 b2 b3 b4 I = some o → ∀ {J : Nat → Nat → Int64} {R : Nat → Nat → Option Nat} {Q : Option Value → az_S → Prop}, Q (some (.int o.1)) (97, o.2, J, R) → az_E az_F ex d 242 0 [.ref 73, .int b1, .int b2, .retAddr 0] [] (97, I, J, R) Q) {x : Int32 × (Nat → Nat → Int32)} (h : rs_M_growsAs_10 rec I v2 = some x) {Q : Option Value → az_S → Prop} (hQ : Q (some (.int x.1)) (97, x.2, J, R)) : az_E az_F ex (d + 1) 240 10 [.ref 73, .retAddr 0, .int v2, .retAddr 0] [] (97, I, J, R) Q := by
  unfold rs_M_growsAs_10 at h
  refine az_E.sn 2 (pc' := 13) (L' := [.ref 73, .retAddr 0, .int v2, .retAddr 0]) (S' := [.int (41 : Int32), .ref 73]) (σ' := (97, I, J, R)) rfl ?_
  cases hx_3 : rs_M_runs I (41 : Int32) with
  | none => rw [hx_3] at h; cases h
  | some I_2 =>
    rw [hx_3] at h
    dsimp only at h
    refine az_E.call (d := (d + 0)) (k' := 238) (vs := [.ref 73, .int (41 : Int32)]) (pc' := 16) (S' := []) (Q1 := fun v s => v = none ∧ s = (97, I_2, J, R)) rfl (az_E.deep (by omega) (re_M_runs (J := J) (R := R)  hx_3 ⟨rfl, rfl⟩)) (fun v s hq => ?_)
    obtain ⟨rfl, rfl⟩ := hq
    show az_E az_F ex (d + 1) 240 16 [.ref 73, .retAddr 0, .int v2, .retAddr 0] [] (97, I_2, J, R) _
    refine az_E.sn 5 (pc' := 21) (L' := [.ref 73, .retAddr 0, .int v2, .retAddr 0]) (S' := [.int (v2 + (1 : Int32)), .int (2 : Int32), .ref 73]) (σ' := (97, I_2, J, R)) rfl ?_
    cases hx_6 : rec 240 (2 : Int32) (v2 + (1 : Int32)) 0 0 I_2 with
    | none => rw [hx_6] at h; cases h
    | some o =>
      rw [hx_6] at h
      obtain ⟨x_4, I_5⟩ := o
      dsimp only at h
      refine az_E.call (d := (d + 0)) (k' := 240) (vs := [.ref 73, .int (2 : Int32), .int (v2 + (1 : Int32))]) (pc' := 24) (S' := []) (Q1 := fun v s => v = some (.int x_4) ∧ s = (97, I_5, J, R)) rfl (az_E.deep (by omega) (hg_240 _ _ _ _ _ _ hx_6 (J := J) (R := R)  ⟨rfl, rfl⟩)) (fun v s hq => ?_)
      obtain ⟨rfl, rfl⟩ := hq
      show az_E az_F ex (d + 1) 240 24 [.ref 73, .retAddr 0, .int v2, .retAddr 0] [.int x_4] (97, I_5, J, R) _
      have h := Option.some.inj h
      subst h
      exact az_E.ret (v := some (.int x_4)) (σ' := (97, I_5, J, R)) rfl hQ
set_option maxRecDepth 100000 in
set_option maxHeartbeats 4000000 in
theorem re_M_growsAs {rec : az_GT} {d : Nat} {ex : az_X} {I : Nat → Nat → Int32} {J : Nat → Nat → Int64} {R : Nat → Nat → Option Nat} {a1 : Int32} {a2 : Int32} (hg_239 : ∀ (b1 b2 b3 b4 : Int32) (I : Nat → Nat → Int32) (o : Int32 × (Nat → Nat → Int32)), rec 239 b1 b2 b3 b4 I = some o → ∀ {J : Nat → Nat → Int64} {R : Nat → Nat → Option Nat} {Q : Option Value → az_S → Prop}, Q (some (.int o.1)) (97, o.2, J, R) → az_E az_F ex d 239 0 [.ref 73, .int b1, .int b2] [] (97, I, J, R) Q) (hg_240 : ∀ (b1 b2 b3 b4 : Int32) (I : Nat → Nat → Int32) (o : Int32 × (Nat → Nat → Int32)), rec 240 b1 b2 b3 b4 I = some o → ∀ {J : Nat → Nat → Int64} {R : Nat → Nat → Option Nat} {Q : Option Value → az_S → Prop}, Q (some (.int o.1)) (97, o.2, J, R) → az_E az_F ex d 240 0 [.ref 73, .int b1, .int b2, .retAddr 0] [] (97, I, J, R) Q) (hg_241 : ∀ (b1 b2 b3 b4 : Int32) (I : Nat → Nat → Int32) (o : Int32 × (Nat → Nat → Int32)), rec 241 b1 b2 b3 b4 I = some o → ∀ {J : Nat → Nat → Int64} {R : Nat → Nat → Option Nat} {Q : Option Value → az_S → Prop}, Q (some (.int o.1)) (97, o.2, J, R) → az_E az_F ex d 241 0 [.ref 73, .int b1, .int b2, .retAddr 0] [] (97, I, J, R) Q) (hg_242 : ∀ (b1 b2 b3 b4 : Int32) (I : Nat → Nat → Int32) (o : Int32 × (Nat → Nat → Int32)), rec 242 b1 b2 b3 b4 I = some o → ∀ {J : Nat → Nat → Int64} {R : Nat → Nat → Option Nat} {Q : Option Value → az_S → Prop}, Q (some (.int o.1)) (97, o.2, J, R) → az_E az_F ex d 242 0 [.ref 73, .int b1, .int b2, .retAddr 0] [] (97, I, J, R) Q) {o : Int32 × (Nat → Nat → Int32)} (h : rs_M_growsAs rec I a1 a2 = some o) {Q : Option Value → az_S → Prop} (hQ : Q (some (.int o.1)) (97, o.2, J, R)) : az_E az_F ex (d + 1) 240 0 [.ref 73, .int a1, .int a2, .retAddr 0] [] (97, I, J, R) Q := by
  unfold rs_M_growsAs at h
  refine az_E.sn 2 (pc' := 2) (L' := [.ref 73, .int a1, .int a2, .retAddr 0]) (S' := [.int (3 : Int32), .int a1]) (σ' := (97, I, J, R)) rfl ?_
  refine az_E.br (c := a1 = (3 : Int32)) (tt := 10) (ff := 5) (L' := [.ref 73, .int a1, .int a2, .retAddr 0]) (S' := []) (σ' := (97, I, J, R)) rfl (fun hc_1 => ?_) (fun hc_1 => ?_)
  · rw [if_pos hc_1] at h
    exact az_E.forget (L := [.ref 73, .retAddr 0, .int a2, .retAddr 0]) ⟨rfl, trivial, rfl, trivial, trivial⟩ (re_M_growsAs_10 (I := I) (J := J) (R := R) hg_239 hg_240 hg_241 hg_242 h hQ)
  · rw [if_neg hc_1] at h
    refine az_E.sn 2 (pc' := 7) (L' := [.ref 73, .int a1, .int a2, .retAddr 0]) (S' := [.int (5 : Int32), .int a1]) (σ' := (97, I, J, R)) rfl ?_
    refine az_E.br (c := a1 = (5 : Int32)) (tt := 10) (ff := 25) (L' := [.ref 73, .int a1, .int a2, .retAddr 0]) (S' := []) (σ' := (97, I, J, R)) rfl (fun hc_7 => ?_) (fun hc_7 => ?_)
    · rw [if_pos hc_7] at h
      exact az_E.forget (L := [.ref 73, .retAddr 0, .int a2, .retAddr 0]) ⟨rfl, trivial, rfl, trivial, trivial⟩ (re_M_growsAs_10 (I := I) (J := J) (R := R) hg_239 hg_240 hg_241 hg_242 h hQ)
    · rw [if_neg hc_7] at h
      refine az_E.sn 2 (pc' := 27) (L' := [.ref 73, .int a1, .int a2, .retAddr 0]) (S' := [.int (2 : Int32), .int a1]) (σ' := (97, I, J, R)) rfl ?_
      refine az_E.br (c := a1 = (2 : Int32)) (tt := 30) (ff := 44) (L' := [.ref 73, .int a1, .int a2, .retAddr 0]) (S' := []) (σ' := (97, I, J, R)) rfl (fun hc_8 => ?_) (fun hc_8 => ?_)
      · rw [if_pos hc_8] at h
        refine az_E.sn 2 (pc' := 33) (L' := [.ref 73, .int a1, .int a2, .retAddr 0]) (S' := [.int (30 : Int32), .ref 73]) (σ' := (97, I, J, R)) rfl ?_
        cases hx_10 : rs_M_runs I (30 : Int32) with
        | none => rw [hx_10] at h; cases h
        | some I_9 =>
          rw [hx_10] at h
          dsimp only at h
          refine az_E.call (d := (d + 0)) (k' := 238) (vs := [.ref 73, .int (30 : Int32)]) (pc' := 36) (S' := []) (Q1 := fun v s => v = none ∧ s = (97, I_9, J, R)) rfl (az_E.deep (by omega) (re_M_runs (J := J) (R := R)  hx_10 ⟨rfl, rfl⟩)) (fun v s hq => ?_)
          obtain ⟨rfl, rfl⟩ := hq
          show az_E az_F ex (d + 1) 240 36 [.ref 73, .int a1, .int a2, .retAddr 0] [] (97, I_9, J, R) _
          refine az_E.sn 3 (pc' := 39) (L' := [.ref 73, .int a1, .int a2, .retAddr 0]) (S' := [.int a2, .int (0 : Int32), .ref 73]) (σ' := (97, I_9, J, R)) rfl ?_
          cases hx_13 : rec 240 (0 : Int32) a2 0 0 I_9 with
          | none => rw [hx_13] at h; cases h
          | some o =>
            rw [hx_13] at h
            obtain ⟨x_11, I_12⟩ := o
            dsimp only at h
            refine az_E.call (d := (d + 0)) (k' := 240) (vs := [.ref 73, .int (0 : Int32), .int a2]) (pc' := 42) (S' := []) (Q1 := fun v s => v = some (.int x_11) ∧ s = (97, I_12, J, R)) rfl (az_E.deep (by omega) (hg_240 _ _ _ _ _ _ hx_13 (J := J) (R := R)  ⟨rfl, rfl⟩)) (fun v s hq => ?_)
            obtain ⟨rfl, rfl⟩ := hq
            show az_E az_F ex (d + 1) 240 42 [.ref 73, .int a1, .int a2, .retAddr 0] [.int x_11] (97, I_12, J, R) _
            refine az_E.sn 1 (pc' := 43) (L' := [.ref 73, .int a1, .int a2, .retAddr 0]) (S' := [.int (-x_11)]) (σ' := (97, I_12, J, R)) rfl ?_
            have h := Option.some.inj h
            subst h
            exact az_E.ret (v := some (.int (-x_11))) (σ' := (97, I_12, J, R)) rfl hQ
      · rw [if_neg hc_8] at h
        refine az_E.sn 2 (pc' := 47) (L' := [.ref 73, .int a1, .int a2, .retAddr 0]) (S' := [.int (7 : Int32), .int a1]) (σ' := (97, I, J, R)) rfl ?_
        refine az_E.br (c := a1 = (7 : Int32)) (tt := 50) (ff := 75) (L' := [.ref 73, .int a1, .int a2, .retAddr 0]) (S' := []) (σ' := (97, I, J, R)) rfl (fun hc_14 => ?_) (fun hc_14 => ?_)
        · rw [if_pos hc_14] at h
          refine az_E.sn 2 (pc' := 53) (L' := [.ref 73, .int a1, .int a2, .retAddr 0]) (S' := [.int (80 : Int32), .ref 73]) (σ' := (97, I, J, R)) rfl ?_
          cases hx_16 : rs_M_runs I (80 : Int32) with
          | none => rw [hx_16] at h; cases h
          | some I_15 =>
            rw [hx_16] at h
            dsimp only at h
            refine az_E.call (d := (d + 0)) (k' := 238) (vs := [.ref 73, .int (80 : Int32)]) (pc' := 56) (S' := []) (Q1 := fun v s => v = none ∧ s = (97, I_15, J, R)) rfl (az_E.deep (by omega) (re_M_runs (J := J) (R := R)  hx_16 ⟨rfl, rfl⟩)) (fun v s hq => ?_)
            obtain ⟨rfl, rfl⟩ := hq
            show az_E az_F ex (d + 1) 240 56 [.ref 73, .int a1, .int a2, .retAddr 0] [] (97, I_15, J, R) _
            refine az_E.sn 3 (pc' := 59) (L' := [.ref 73, .int a1, .int a2, .retAddr 0]) (S' := [.int a2, .int (4 : Int32), .ref 73]) (σ' := (97, I_15, J, R)) rfl ?_
            cases hx_19 : rec 240 (4 : Int32) a2 0 0 I_15 with
            | none => rw [hx_19] at h; cases h
            | some o =>
              rw [hx_19] at h
              obtain ⟨x_17, I_18⟩ := o
              dsimp only at h
              refine az_E.call (d := (d + 0)) (k' := 240) (vs := [.ref 73, .int (4 : Int32), .int a2]) (pc' := 62) (S' := []) (Q1 := fun v s => v = some (.int x_17) ∧ s = (97, I_18, J, R)) rfl (az_E.deep (by omega) (hg_240 _ _ _ _ _ _ hx_19 (J := J) (R := R)  ⟨rfl, rfl⟩)) (fun v s hq => ?_)
              obtain ⟨rfl, rfl⟩ := hq
              show az_E az_F ex (d + 1) 240 62 [.ref 73, .int a1, .int a2, .retAddr 0] [.int x_17] (97, I_18, J, R) _
              refine az_E.sn 6 (pc' := 70) (L' := [.ref 73, .int a1, .int a2, .int x_17]) (S' := [.int (2 : Int32), .int (I_18 73 37), .ref 73, .int x_17]) (σ' := (97, I_18, J, R)) rfl ?_
              cases hx_22 : rec 241 (I_18 73 37) (2 : Int32) 0 0 I_18 with
              | none => rw [hx_22] at h; cases h
              | some o =>
                rw [hx_22] at h
                obtain ⟨x_20, I_21⟩ := o
                dsimp only at h
                refine az_E.call (d := (d + 0)) (k' := 241) (vs := [.ref 73, .int (I_18 73 37), .int (2 : Int32)]) (pc' := 73) (S' := [.int x_17]) (Q1 := fun v s => v = some (.int x_20) ∧ s = (97, I_21, J, R)) rfl (az_E.deep (by omega) (hg_241 _ _ _ _ _ _ hx_22 (J := J) (R := R)  ⟨rfl, rfl⟩)) (fun v s hq => ?_)
                obtain ⟨rfl, rfl⟩ := hq
                show az_E az_F ex (d + 1) 240 73 [.ref 73, .int a1, .int a2, .int x_17] [.int x_20, .int x_17] (97, I_21, J, R) _
                refine az_E.sn 1 (pc' := 74) (L' := [.ref 73, .int a1, .int a2, .int x_17]) (S' := [.int (x_17 + x_20)]) (σ' := (97, I_21, J, R)) rfl ?_
                have h := Option.some.inj h
                subst h
                exact az_E.ret (v := some (.int (x_17 + x_20))) (σ' := (97, I_21, J, R)) rfl hQ
        · rw [if_neg hc_14] at h
          refine az_E.sn 2 (pc' := 78) (L' := [.ref 73, .int a1, .int a2, .retAddr 0]) (S' := [.int (10 : Int32), .ref 73]) (σ' := (97, I, J, R)) rfl ?_
          cases hx_24 : rs_M_runs I (10 : Int32) with
          | none => rw [hx_24] at h; cases h
          | some I_23 =>
            rw [hx_24] at h
            dsimp only at h
            refine az_E.call (d := (d + 0)) (k' := 238) (vs := [.ref 73, .int (10 : Int32)]) (pc' := 81) (S' := []) (Q1 := fun v s => v = none ∧ s = (97, I_23, J, R)) rfl (az_E.deep (by omega) (re_M_runs (J := J) (R := R)  hx_24 ⟨rfl, rfl⟩)) (fun v s hq => ?_)
            obtain ⟨rfl, rfl⟩ := hq
            show az_E az_F ex (d + 1) 240 81 [.ref 73, .int a1, .int a2, .retAddr 0] [] (97, I_23, J, R) _
            refine az_E.sn 4 (pc' := 87) (L' := [.ref 73, .int a1, .int a2, .retAddr 0]) (S' := [.int a2, .int (I_23 73 37), .ref 73]) (σ' := (97, I_23, J, R)) rfl ?_
            cases hx_27 : rec 239 (I_23 73 37) a2 0 0 I_23 with
            | none => rw [hx_27] at h; cases h
            | some o =>
              rw [hx_27] at h
              obtain ⟨x_25, I_26⟩ := o
              dsimp only at h
              refine az_E.call (d := (d + 0)) (k' := 239) (vs := [.ref 73, .int (I_23 73 37), .int a2]) (pc' := 90) (S' := []) (Q1 := fun v s => v = some (.int x_25) ∧ s = (97, I_26, J, R)) rfl (az_E.deep (by omega) (hg_239 _ _ _ _ _ _ hx_27 (J := J) (R := R)  ⟨rfl, rfl⟩)) (fun v s hq => ?_)
              obtain ⟨rfl, rfl⟩ := hq
              show az_E az_F ex (d + 1) 240 90 [.ref 73, .int a1, .int a2, .retAddr 0] [.int x_25] (97, I_26, J, R) _
              refine az_E.sn 2 (pc' := 92) (L' := [.ref 73, .int a1, .int a2, .retAddr 0]) (S' := [.int (x_25 * (2 : Int32))]) (σ' := (97, I_26, J, R)) rfl ?_
              have h := Option.some.inj h
              subst h
              exact az_E.ret (v := some (.int (x_25 * (2 : Int32)))) (σ' := (97, I_26, J, R)) rfl hQ
set_option maxRecDepth 100000 in
set_option maxHeartbeats 4000000 in
theorem re_M_turnsAs_10 {rec : az_GT} {d : Nat} {ex : az_X} {I : Nat → Nat → Int32} {J : Nat → Nat → Int64} {R : Nat → Nat → Option Nat} {v2 : Int32} (hg_239 : ∀ (b1 b2 b3 b4 : Int32) (I : Nat → Nat → Int32) (o : Int32 × (Nat → Nat → Int32)), rec 239 b1 b2 b3 b4 I = some o → ∀ {J : Nat → Nat → Int64} {R : Nat → Nat → Option Nat} {Q : Option Value → az_S → Prop}, Q (some (.int o.1)) (97, o.2, J, R) → az_E az_F ex d 239 0 [.ref 73, .int b1, .int b2] [] (97, I, J, R) Q) (hg_240 : ∀ (b1 b2 b3 b4 : Int32) (I : Nat → Nat → Int32) (o : Int32 × (Nat → Nat → Int32)), rec 240 b1 b2 b3 b4 I = some o → ∀ {J : Nat → Nat → Int64} {R : Nat → Nat → Option Nat} {Q : Option Value → az_S → Prop}, Q (some (.int o.1)) (97, o.2, J, R) → az_E az_F ex d 240 0 [.ref 73, .int b1, .int b2, .retAddr 0] [] (97, I, J, R) Q) (hg_241 : ∀ (b1 b2 b3 b4 : Int32) (I : Nat → Nat → Int32) (o : Int32 × (Nat → Nat → Int32)), rec 241 b1 b2 b3 b4 I = some o → ∀ {J : Nat → Nat → Int64} {R : Nat → Nat → Option Nat} {Q : Option Value → az_S → Prop}, Q (some (.int o.1)) (97, o.2, J, R) → az_E az_F ex d 241 0 [.ref 73, .int b1, .int b2, .retAddr 0] [] (97, I, J, R) Q) (hg_242 : ∀ (b1 b2 b3 b4 : Int32) (I : Nat → Nat → Int32) (o : Int32 × (Nat → Nat → Int32)), rec 242 b1 b2 b3 b4 I = some o → ∀ {J : Nat → Nat → Int64} {R : Nat → Nat → Option Nat} {Q : Option Value → az_S → Prop}, Q (some (.int o.1)) (97, o.2, J, R) → az_E az_F ex d 242 0 [.ref 73, .int b1, .int b2, .retAddr 0] [] (97, I, J, R) Q) {x : Int32 × (Nat → Nat → Int32)} (h : rs_M_turnsAs_10 rec I v2 = some x) {Q : Option Value → az_S → Prop} (hQ : Q (some (.int x.1)) (97, x.2, J, R)) : az_E az_F ex (d + 1) 241 10 [.ref 73, .retAddr 0, .int v2, .retAddr 0] [] (97, I, J, R) Q := by
  unfold rs_M_turnsAs_10 at h
  refine az_E.sn 2 (pc' := 13) (L' := [.ref 73, .retAddr 0, .int v2, .retAddr 0]) (S' := [.int (40 : Int32), .ref 73]) (σ' := (97, I, J, R)) rfl ?_
  cases hx_3 : rs_M_runs I (40 : Int32) with
  | none => rw [hx_3] at h; cases h
  | some I_2 =>
    rw [hx_3] at h
    dsimp only at h
    refine az_E.call (d := (d + 0)) (k' := 238) (vs := [.ref 73, .int (40 : Int32)]) (pc' := 16) (S' := []) (Q1 := fun v s => v = none ∧ s = (97, I_2, J, R)) rfl (az_E.deep (by omega) (re_M_runs (J := J) (R := R)  hx_3 ⟨rfl, rfl⟩)) (fun v s hq => ?_)
    obtain ⟨rfl, rfl⟩ := hq
    show az_E az_F ex (d + 1) 241 16 [.ref 73, .retAddr 0, .int v2, .retAddr 0] [] (97, I_2, J, R) _
    refine az_E.sn 3 (pc' := 19) (L' := [.ref 73, .retAddr 0, .int v2, .retAddr 0]) (S' := [.int v2, .int (2 : Int32), .ref 73]) (σ' := (97, I_2, J, R)) rfl ?_
    cases hx_6 : rec 241 (2 : Int32) v2 0 0 I_2 with
    | none => rw [hx_6] at h; cases h
    | some o =>
      rw [hx_6] at h
      obtain ⟨x_4, I_5⟩ := o
      dsimp only at h
      refine az_E.call (d := (d + 0)) (k' := 241) (vs := [.ref 73, .int (2 : Int32), .int v2]) (pc' := 22) (S' := []) (Q1 := fun v s => v = some (.int x_4) ∧ s = (97, I_5, J, R)) rfl (az_E.deep (by omega) (hg_241 _ _ _ _ _ _ hx_6 (J := J) (R := R)  ⟨rfl, rfl⟩)) (fun v s hq => ?_)
      obtain ⟨rfl, rfl⟩ := hq
      show az_E az_F ex (d + 1) 241 22 [.ref 73, .retAddr 0, .int v2, .retAddr 0] [.int x_4] (97, I_5, J, R) _
      refine az_E.sn 2 (pc' := 24) (L' := [.ref 73, .retAddr 0, .int v2, .retAddr 0]) (S' := [.int (x_4 * (3 : Int32))]) (σ' := (97, I_5, J, R)) rfl ?_
      have h := Option.some.inj h
      subst h
      exact az_E.ret (v := some (.int (x_4 * (3 : Int32)))) (σ' := (97, I_5, J, R)) rfl hQ
set_option maxRecDepth 100000 in
set_option maxHeartbeats 4000000 in
theorem re_M_turnsAs_36 {rec : az_GT} {d : Nat} {ex : az_X} {I : Nat → Nat → Int32} {J : Nat → Nat → Int64} {R : Nat → Nat → Option Nat} {v2 : Int32} (hg_239 : ∀ (b1 b2 b3 b4 : Int32) (I : Nat → Nat → Int32) (o : Int32 × (Nat → Nat → Int32)), rec 239 b1 b2 b3 b4 I = some o → ∀ {J : Nat → Nat → Int64} {R : Nat → Nat → Option Nat} {Q : Option Value → az_S → Prop}, Q (some (.int o.1)) (97, o.2, J, R) → az_E az_F ex d 239 0 [.ref 73, .int b1, .int b2] [] (97, I, J, R) Q) (hg_240 : ∀ (b1 b2 b3 b4 : Int32) (I : Nat → Nat → Int32) (o : Int32 × (Nat → Nat → Int32)), rec 240 b1 b2 b3 b4 I = some o → ∀ {J : Nat → Nat → Int64} {R : Nat → Nat → Option Nat} {Q : Option Value → az_S → Prop}, Q (some (.int o.1)) (97, o.2, J, R) → az_E az_F ex d 240 0 [.ref 73, .int b1, .int b2, .retAddr 0] [] (97, I, J, R) Q) (hg_241 : ∀ (b1 b2 b3 b4 : Int32) (I : Nat → Nat → Int32) (o : Int32 × (Nat → Nat → Int32)), rec 241 b1 b2 b3 b4 I = some o → ∀ {J : Nat → Nat → Int64} {R : Nat → Nat → Option Nat} {Q : Option Value → az_S → Prop}, Q (some (.int o.1)) (97, o.2, J, R) → az_E az_F ex d 241 0 [.ref 73, .int b1, .int b2, .retAddr 0] [] (97, I, J, R) Q) (hg_242 : ∀ (b1 b2 b3 b4 : Int32) (I : Nat → Nat → Int32) (o : Int32 × (Nat → Nat → Int32)), rec 242 b1 b2 b3 b4 I = some o → ∀ {J : Nat → Nat → Int64} {R : Nat → Nat → Option Nat} {Q : Option Value → az_S → Prop}, Q (some (.int o.1)) (97, o.2, J, R) → az_E az_F ex d 242 0 [.ref 73, .int b1, .int b2, .retAddr 0] [] (97, I, J, R) Q) {x : Int32 × (Nat → Nat → Int32)} (h : rs_M_turnsAs_36 rec I v2 = some x) {Q : Option Value → az_S → Prop} (hQ : Q (some (.int x.1)) (97, x.2, J, R)) : az_E az_F ex (d + 1) 241 36 [.ref 73, .retAddr 0, .int v2, .retAddr 0] [] (97, I, J, R) Q := by
  unfold rs_M_turnsAs_36 at h
  refine az_E.sn 2 (pc' := 39) (L' := [.ref 73, .retAddr 0, .int v2, .retAddr 0]) (S' := [.int (50 : Int32), .ref 73]) (σ' := (97, I, J, R)) rfl ?_
  cases hx_10 : rs_M_runs I (50 : Int32) with
  | none => rw [hx_10] at h; cases h
  | some I_9 =>
    rw [hx_10] at h
    dsimp only at h
    refine az_E.call (d := (d + 0)) (k' := 238) (vs := [.ref 73, .int (50 : Int32)]) (pc' := 42) (S' := []) (Q1 := fun v s => v = none ∧ s = (97, I_9, J, R)) rfl (az_E.deep (by omega) (re_M_runs (J := J) (R := R)  hx_10 ⟨rfl, rfl⟩)) (fun v s hq => ?_)
    obtain ⟨rfl, rfl⟩ := hq
    show az_E az_F ex (d + 1) 241 42 [.ref 73, .retAddr 0, .int v2, .retAddr 0] [] (97, I_9, J, R) _
    refine az_E.sn 3 (pc' := 45) (L' := [.ref 73, .retAddr 0, .int v2, .retAddr 0]) (S' := [.int v2, .int (1 : Int32), .ref 73]) (σ' := (97, I_9, J, R)) rfl ?_
    cases hx_13 : rec 241 (1 : Int32) v2 0 0 I_9 with
    | none => rw [hx_13] at h; cases h
    | some o =>
      rw [hx_13] at h
      obtain ⟨x_11, I_12⟩ := o
      dsimp only at h
      refine az_E.call (d := (d + 0)) (k' := 241) (vs := [.ref 73, .int (1 : Int32), .int v2]) (pc' := 48) (S' := []) (Q1 := fun v s => v = some (.int x_11) ∧ s = (97, I_12, J, R)) rfl (az_E.deep (by omega) (hg_241 _ _ _ _ _ _ hx_13 (J := J) (R := R)  ⟨rfl, rfl⟩)) (fun v s hq => ?_)
      obtain ⟨rfl, rfl⟩ := hq
      show az_E az_F ex (d + 1) 241 48 [.ref 73, .retAddr 0, .int v2, .retAddr 0] [.int x_11] (97, I_12, J, R) _
      refine az_E.sn 6 (pc' := 56) (L' := [.ref 73, .retAddr 0, .int v2, .int x_11]) (S' := [.int (2 : Int32), .int (I_12 73 37), .ref 73, .int x_11]) (σ' := (97, I_12, J, R)) rfl ?_
      cases hx_16 : rec 239 (I_12 73 37) (2 : Int32) 0 0 I_12 with
      | none => rw [hx_16] at h; cases h
      | some o =>
        rw [hx_16] at h
        obtain ⟨x_14, I_15⟩ := o
        dsimp only at h
        refine az_E.call (d := (d + 0)) (k' := 239) (vs := [.ref 73, .int (I_12 73 37), .int (2 : Int32)]) (pc' := 59) (S' := [.int x_11]) (Q1 := fun v s => v = some (.int x_14) ∧ s = (97, I_15, J, R)) rfl (az_E.deep (by omega) (hg_239 _ _ _ _ _ _ hx_16 (J := J) (R := R)  ⟨rfl, rfl⟩)) (fun v s hq => ?_)
        obtain ⟨rfl, rfl⟩ := hq
        show az_E az_F ex (d + 1) 241 59 [.ref 73, .retAddr 0, .int v2, .int x_11] [.int x_14, .int x_11] (97, I_15, J, R) _
        refine az_E.sn 1 (pc' := 60) (L' := [.ref 73, .retAddr 0, .int v2, .int x_11]) (S' := [.int (x_11 - x_14)]) (σ' := (97, I_15, J, R)) rfl ?_
        have h := Option.some.inj h
        subst h
        exact az_E.ret (v := some (.int (x_11 - x_14))) (σ' := (97, I_15, J, R)) rfl hQ
set_option maxRecDepth 100000 in
set_option maxHeartbeats 4000000 in
theorem re_M_turnsAs {rec : az_GT} {d : Nat} {ex : az_X} {I : Nat → Nat → Int32} {J : Nat → Nat → Int64} {R : Nat → Nat → Option Nat} {a1 : Int32} {a2 : Int32} (hg_239 : ∀ (b1 b2 b3 b4 : Int32) (I : Nat → Nat → Int32) (o : Int32 × (Nat → Nat → Int32)), rec 239 b1 b2 b3 b4 I = some o → ∀ {J : Nat → Nat → Int64} {R : Nat → Nat → Option Nat} {Q : Option Value → az_S → Prop}, Q (some (.int o.1)) (97, o.2, J, R) → az_E az_F ex d 239 0 [.ref 73, .int b1, .int b2] [] (97, I, J, R) Q) (hg_240 : ∀ (b1 b2 b3 b4 : Int32) (I : Nat → Nat → Int32) (o : Int32 × (Nat → Nat → Int32)), rec 240 b1 b2 b3 b4 I = some o → ∀ {J : Nat → Nat → Int64} {R : Nat → Nat → Option Nat} {Q : Option Value → az_S → Prop}, Q (some (.int o.1)) (97, o.2, J, R) → az_E az_F ex d 240 0 [.ref 73, .int b1, .int b2, .retAddr 0] [] (97, I, J, R) Q) (hg_241 : ∀ (b1 b2 b3 b4 : Int32) (I : Nat → Nat → Int32) (o : Int32 × (Nat → Nat → Int32)), rec 241 b1 b2 b3 b4 I = some o → ∀ {J : Nat → Nat → Int64} {R : Nat → Nat → Option Nat} {Q : Option Value → az_S → Prop}, Q (some (.int o.1)) (97, o.2, J, R) → az_E az_F ex d 241 0 [.ref 73, .int b1, .int b2, .retAddr 0] [] (97, I, J, R) Q) (hg_242 : ∀ (b1 b2 b3 b4 : Int32) (I : Nat → Nat → Int32) (o : Int32 × (Nat → Nat → Int32)), rec 242 b1 b2 b3 b4 I = some o → ∀ {J : Nat → Nat → Int64} {R : Nat → Nat → Option Nat} {Q : Option Value → az_S → Prop}, Q (some (.int o.1)) (97, o.2, J, R) → az_E az_F ex d 242 0 [.ref 73, .int b1, .int b2, .retAddr 0] [] (97, I, J, R) Q) {o : Int32 × (Nat → Nat → Int32)} (h : rs_M_turnsAs rec I a1 a2 = some o) {Q : Option Value → az_S → Prop} (hQ : Q (some (.int o.1)) (97, o.2, J, R)) : az_E az_F ex (d + 1) 241 0 [.ref 73, .int a1, .int a2, .retAddr 0] [] (97, I, J, R) Q := by
  unfold rs_M_turnsAs at h
  refine az_E.sn 2 (pc' := 2) (L' := [.ref 73, .int a1, .int a2, .retAddr 0]) (S' := [.int (3 : Int32), .int a1]) (σ' := (97, I, J, R)) rfl ?_
  refine az_E.br (c := a1 = (3 : Int32)) (tt := 10) (ff := 5) (L' := [.ref 73, .int a1, .int a2, .retAddr 0]) (S' := []) (σ' := (97, I, J, R)) rfl (fun hc_1 => ?_) (fun hc_1 => ?_)
  · rw [if_pos hc_1] at h
    exact az_E.forget (L := [.ref 73, .retAddr 0, .int a2, .retAddr 0]) ⟨rfl, trivial, rfl, trivial, trivial⟩ (re_M_turnsAs_10 (I := I) (J := J) (R := R) hg_239 hg_240 hg_241 hg_242 h hQ)
  · rw [if_neg hc_1] at h
    refine az_E.sn 2 (pc' := 7) (L' := [.ref 73, .int a1, .int a2, .retAddr 0]) (S' := [.int (5 : Int32), .int a1]) (σ' := (97, I, J, R)) rfl ?_
    refine az_E.br (c := a1 = (5 : Int32)) (tt := 10) (ff := 25) (L' := [.ref 73, .int a1, .int a2, .retAddr 0]) (S' := []) (σ' := (97, I, J, R)) rfl (fun hc_7 => ?_) (fun hc_7 => ?_)
    · rw [if_pos hc_7] at h
      exact az_E.forget (L := [.ref 73, .retAddr 0, .int a2, .retAddr 0]) ⟨rfl, trivial, rfl, trivial, trivial⟩ (re_M_turnsAs_10 (I := I) (J := J) (R := R) hg_239 hg_240 hg_241 hg_242 h hQ)
    · rw [if_neg hc_7] at h
      refine az_E.sn 2 (pc' := 27) (L' := [.ref 73, .int a1, .int a2, .retAddr 0]) (S' := [.int (4 : Int32), .int a1]) (σ' := (97, I, J, R)) rfl ?_
      refine az_E.br (c := a1 = (4 : Int32)) (tt := 36) (ff := 30) (L' := [.ref 73, .int a1, .int a2, .retAddr 0]) (S' := []) (σ' := (97, I, J, R)) rfl (fun hc_8 => ?_) (fun hc_8 => ?_)
      · rw [if_pos hc_8] at h
        exact az_E.forget (L := [.ref 73, .retAddr 0, .int a2, .retAddr 0]) ⟨rfl, trivial, rfl, trivial, trivial⟩ (re_M_turnsAs_36 (I := I) (J := J) (R := R) hg_239 hg_240 hg_241 hg_242 h hQ)
      · rw [if_neg hc_8] at h
        refine az_E.sn 2 (pc' := 33) (L' := [.ref 73, .int a1, .int a2, .retAddr 0]) (S' := [.int (7 : Int32), .int a1]) (σ' := (97, I, J, R)) rfl ?_
        refine az_E.br (c := a1 = (7 : Int32)) (tt := 36) (ff := 61) (L' := [.ref 73, .int a1, .int a2, .retAddr 0]) (S' := []) (σ' := (97, I, J, R)) rfl (fun hc_17 => ?_) (fun hc_17 => ?_)
        · rw [if_pos hc_17] at h
          exact az_E.forget (L := [.ref 73, .retAddr 0, .int a2, .retAddr 0]) ⟨rfl, trivial, rfl, trivial, trivial⟩ (re_M_turnsAs_36 (I := I) (J := J) (R := R) hg_239 hg_240 hg_241 hg_242 h hQ)
        · rw [if_neg hc_17] at h
          refine az_E.sn 2 (pc' := 64) (L' := [.ref 73, .int a1, .int a2, .retAddr 0]) (S' := [.int (11 : Int32), .ref 73]) (σ' := (97, I, J, R)) rfl ?_
          cases hx_19 : rs_M_runs I (11 : Int32) with
          | none => rw [hx_19] at h; cases h
          | some I_18 =>
            rw [hx_19] at h
            dsimp only at h
            refine az_E.call (d := (d + 0)) (k' := 238) (vs := [.ref 73, .int (11 : Int32)]) (pc' := 67) (S' := []) (Q1 := fun v s => v = none ∧ s = (97, I_18, J, R)) rfl (az_E.deep (by omega) (re_M_runs (J := J) (R := R)  hx_19 ⟨rfl, rfl⟩)) (fun v s hq => ?_)
            obtain ⟨rfl, rfl⟩ := hq
            show az_E az_F ex (d + 1) 241 67 [.ref 73, .int a1, .int a2, .retAddr 0] [] (97, I_18, J, R) _
            refine az_E.sn 4 (pc' := 73) (L' := [.ref 73, .int a1, .int a2, .retAddr 0]) (S' := [.int (a2 ^^^ (I_18 73 38))]) (σ' := (97, I_18, J, R)) rfl ?_
            have h := Option.some.inj h
            subst h
            exact az_E.ret (v := some (.int (a2 ^^^ (I_18 73 38)))) (σ' := (97, I_18, J, R)) rfl hQ
set_option maxRecDepth 100000 in
set_option maxHeartbeats 4000000 in
theorem re_M_readsAs {rec : az_GT} {d : Nat} {ex : az_X} {I : Nat → Nat → Int32} {J : Nat → Nat → Int64} {R : Nat → Nat → Option Nat} {a1 : Int32} {a2 : Int32} (hg_239 : ∀ (b1 b2 b3 b4 : Int32) (I : Nat → Nat → Int32) (o : Int32 × (Nat → Nat → Int32)), rec 239 b1 b2 b3 b4 I = some o → ∀ {J : Nat → Nat → Int64} {R : Nat → Nat → Option Nat} {Q : Option Value → az_S → Prop}, Q (some (.int o.1)) (97, o.2, J, R) → az_E az_F ex d 239 0 [.ref 73, .int b1, .int b2] [] (97, I, J, R) Q) (hg_240 : ∀ (b1 b2 b3 b4 : Int32) (I : Nat → Nat → Int32) (o : Int32 × (Nat → Nat → Int32)), rec 240 b1 b2 b3 b4 I = some o → ∀ {J : Nat → Nat → Int64} {R : Nat → Nat → Option Nat} {Q : Option Value → az_S → Prop}, Q (some (.int o.1)) (97, o.2, J, R) → az_E az_F ex d 240 0 [.ref 73, .int b1, .int b2, .retAddr 0] [] (97, I, J, R) Q) (hg_241 : ∀ (b1 b2 b3 b4 : Int32) (I : Nat → Nat → Int32) (o : Int32 × (Nat → Nat → Int32)), rec 241 b1 b2 b3 b4 I = some o → ∀ {J : Nat → Nat → Int64} {R : Nat → Nat → Option Nat} {Q : Option Value → az_S → Prop}, Q (some (.int o.1)) (97, o.2, J, R) → az_E az_F ex d 241 0 [.ref 73, .int b1, .int b2, .retAddr 0] [] (97, I, J, R) Q) (hg_242 : ∀ (b1 b2 b3 b4 : Int32) (I : Nat → Nat → Int32) (o : Int32 × (Nat → Nat → Int32)), rec 242 b1 b2 b3 b4 I = some o → ∀ {J : Nat → Nat → Int64} {R : Nat → Nat → Option Nat} {Q : Option Value → az_S → Prop}, Q (some (.int o.1)) (97, o.2, J, R) → az_E az_F ex d 242 0 [.ref 73, .int b1, .int b2, .retAddr 0] [] (97, I, J, R) Q) {o : Int32 × (Nat → Nat → Int32)} (h : rs_M_readsAs rec I a1 a2 = some o) {Q : Option Value → az_S → Prop} (hQ : Q (some (.int o.1)) (97, o.2, J, R)) : az_E az_F ex (d + 1) 242 0 [.ref 73, .int a1, .int a2, .retAddr 0] [] (97, I, J, R) Q := by
  unfold rs_M_readsAs at h
  refine az_E.sn 2 (pc' := 2) (L' := [.ref 73, .int a1, .int a2, .retAddr 0]) (S' := [.int (5 : Int32), .int a1]) (σ' := (97, I, J, R)) rfl ?_
  refine az_E.br (c := a1 = (5 : Int32)) (tt := 5) (ff := 20) (L' := [.ref 73, .int a1, .int a2, .retAddr 0]) (S' := []) (σ' := (97, I, J, R)) rfl (fun hc_1 => ?_) (fun hc_1 => ?_)
  · rw [if_pos hc_1] at h
    refine az_E.sn 2 (pc' := 8) (L' := [.ref 73, .int a1, .int a2, .retAddr 0]) (S' := [.int (60 : Int32), .ref 73]) (σ' := (97, I, J, R)) rfl ?_
    cases hx_3 : rs_M_runs I (60 : Int32) with
    | none => rw [hx_3] at h; cases h
    | some I_2 =>
      rw [hx_3] at h
      dsimp only at h
      refine az_E.call (d := (d + 0)) (k' := 238) (vs := [.ref 73, .int (60 : Int32)]) (pc' := 11) (S' := []) (Q1 := fun v s => v = none ∧ s = (97, I_2, J, R)) rfl (az_E.deep (by omega) (re_M_runs (J := J) (R := R)  hx_3 ⟨rfl, rfl⟩)) (fun v s hq => ?_)
      obtain ⟨rfl, rfl⟩ := hq
      show az_E az_F ex (d + 1) 242 11 [.ref 73, .int a1, .int a2, .retAddr 0] [] (97, I_2, J, R) _
      refine az_E.sn 3 (pc' := 14) (L' := [.ref 73, .int a1, .int a2, .retAddr 0]) (S' := [.int a2, .int (3 : Int32), .ref 73]) (σ' := (97, I_2, J, R)) rfl ?_
      cases hx_6 : rec 242 (3 : Int32) a2 0 0 I_2 with
      | none => rw [hx_6] at h; cases h
      | some o =>
        rw [hx_6] at h
        obtain ⟨x_4, I_5⟩ := o
        dsimp only at h
        refine az_E.call (d := (d + 0)) (k' := 242) (vs := [.ref 73, .int (3 : Int32), .int a2]) (pc' := 17) (S' := []) (Q1 := fun v s => v = some (.int x_4) ∧ s = (97, I_5, J, R)) rfl (az_E.deep (by omega) (hg_242 _ _ _ _ _ _ hx_6 (J := J) (R := R)  ⟨rfl, rfl⟩)) (fun v s hq => ?_)
        obtain ⟨rfl, rfl⟩ := hq
        show az_E az_F ex (d + 1) 242 17 [.ref 73, .int a1, .int a2, .retAddr 0] [.int x_4] (97, I_5, J, R) _
        refine az_E.sn 2 (pc' := 19) (L' := [.ref 73, .int a1, .int a2, .retAddr 0]) (S' := [.int (x_4 ^^^ (5 : Int32))]) (σ' := (97, I_5, J, R)) rfl ?_
        have h := Option.some.inj h
        subst h
        exact az_E.ret (v := some (.int (x_4 ^^^ (5 : Int32)))) (σ' := (97, I_5, J, R)) rfl hQ
  · rw [if_neg hc_1] at h
    refine az_E.sn 2 (pc' := 23) (L' := [.ref 73, .int a1, .int a2, .retAddr 0]) (S' := [.int (7 : Int32), .int a1]) (σ' := (97, I, J, R)) rfl ?_
    refine az_E.br (c := a1 = (7 : Int32)) (tt := 26) (ff := 41) (L' := [.ref 73, .int a1, .int a2, .retAddr 0]) (S' := []) (σ' := (97, I, J, R)) rfl (fun hc_7 => ?_) (fun hc_7 => ?_)
    · rw [if_pos hc_7] at h
      refine az_E.sn 2 (pc' := 29) (L' := [.ref 73, .int a1, .int a2, .retAddr 0]) (S' := [.int (81 : Int32), .ref 73]) (σ' := (97, I, J, R)) rfl ?_
      cases hx_9 : rs_M_runs I (81 : Int32) with
      | none => rw [hx_9] at h; cases h
      | some I_8 =>
        rw [hx_9] at h
        dsimp only at h
        refine az_E.call (d := (d + 0)) (k' := 238) (vs := [.ref 73, .int (81 : Int32)]) (pc' := 32) (S' := []) (Q1 := fun v s => v = none ∧ s = (97, I_8, J, R)) rfl (az_E.deep (by omega) (re_M_runs (J := J) (R := R)  hx_9 ⟨rfl, rfl⟩)) (fun v s hq => ?_)
        obtain ⟨rfl, rfl⟩ := hq
        show az_E az_F ex (d + 1) 242 32 [.ref 73, .int a1, .int a2, .retAddr 0] [] (97, I_8, J, R) _
        refine az_E.sn 3 (pc' := 35) (L' := [.ref 73, .int a1, .int a2, .retAddr 0]) (S' := [.int a2, .int (4 : Int32), .ref 73]) (σ' := (97, I_8, J, R)) rfl ?_
        cases hx_12 : rec 242 (4 : Int32) a2 0 0 I_8 with
        | none => rw [hx_12] at h; cases h
        | some o =>
          rw [hx_12] at h
          obtain ⟨x_10, I_11⟩ := o
          dsimp only at h
          refine az_E.call (d := (d + 0)) (k' := 242) (vs := [.ref 73, .int (4 : Int32), .int a2]) (pc' := 38) (S' := []) (Q1 := fun v s => v = some (.int x_10) ∧ s = (97, I_11, J, R)) rfl (az_E.deep (by omega) (hg_242 _ _ _ _ _ _ hx_12 (J := J) (R := R)  ⟨rfl, rfl⟩)) (fun v s hq => ?_)
          obtain ⟨rfl, rfl⟩ := hq
          show az_E az_F ex (d + 1) 242 38 [.ref 73, .int a1, .int a2, .retAddr 0] [.int x_10] (97, I_11, J, R) _
          refine az_E.sn 2 (pc' := 40) (L' := [.ref 73, .int a1, .int a2, .retAddr 0]) (S' := [.int (x_10 - (1 : Int32))]) (σ' := (97, I_11, J, R)) rfl ?_
          have h := Option.some.inj h
          subst h
          exact az_E.ret (v := some (.int (x_10 - (1 : Int32)))) (σ' := (97, I_11, J, R)) rfl hQ
    · rw [if_neg hc_7] at h
      refine az_E.sn 2 (pc' := 43) (L' := [.ref 73, .int a1, .int a2, .retAddr 0]) (S' := [.int (2 : Int32), .ref 73]) (σ' := (97, I, J, R)) rfl ?_
      cases hx_14 : rs_M_runs I (2 : Int32) with
      | none => rw [hx_14] at h; cases h
      | some I_13 =>
        rw [hx_14] at h
        dsimp only at h
        refine az_E.call (d := (d + 0)) (k' := 238) (vs := [.ref 73, .int (2 : Int32)]) (pc' := 46) (S' := []) (Q1 := fun v s => v = none ∧ s = (97, I_13, J, R)) rfl (az_E.deep (by omega) (re_M_runs (J := J) (R := R)  hx_14 ⟨rfl, rfl⟩)) (fun v s hq => ?_)
        obtain ⟨rfl, rfl⟩ := hq
        show az_E az_F ex (d + 1) 242 46 [.ref 73, .int a1, .int a2, .retAddr 0] [] (97, I_13, J, R) _
        refine az_E.sn 4 (pc' := 52) (L' := [.ref 73, .int a1, .int a2, .retAddr 0]) (S' := [.int a2, .int (I_13 73 37), .ref 73]) (σ' := (97, I_13, J, R)) rfl ?_
        cases hx_17 : rec 240 (I_13 73 37) a2 0 0 I_13 with
        | none => rw [hx_17] at h; cases h
        | some o =>
          rw [hx_17] at h
          obtain ⟨x_15, I_16⟩ := o
          dsimp only at h
          refine az_E.call (d := (d + 0)) (k' := 240) (vs := [.ref 73, .int (I_13 73 37), .int a2]) (pc' := 55) (S' := []) (Q1 := fun v s => v = some (.int x_15) ∧ s = (97, I_16, J, R)) rfl (az_E.deep (by omega) (hg_240 _ _ _ _ _ _ hx_17 (J := J) (R := R)  ⟨rfl, rfl⟩)) (fun v s hq => ?_)
          obtain ⟨rfl, rfl⟩ := hq
          show az_E az_F ex (d + 1) 242 55 [.ref 73, .int a1, .int a2, .retAddr 0] [.int x_15] (97, I_16, J, R) _
          refine az_E.sn 6 (pc' := 63) (L' := [.ref 73, .int a1, .int a2, .int x_15]) (S' := [.int (1 : Int32), .int (I_16 73 37), .ref 73, .int x_15]) (σ' := (97, I_16, J, R)) rfl ?_
          cases hx_20 : rec 241 (I_16 73 37) (1 : Int32) 0 0 I_16 with
          | none => rw [hx_20] at h; cases h
          | some o =>
            rw [hx_20] at h
            obtain ⟨x_18, I_19⟩ := o
            dsimp only at h
            refine az_E.call (d := (d + 0)) (k' := 241) (vs := [.ref 73, .int (I_16 73 37), .int (1 : Int32)]) (pc' := 66) (S' := [.int x_15]) (Q1 := fun v s => v = some (.int x_18) ∧ s = (97, I_19, J, R)) rfl (az_E.deep (by omega) (hg_241 _ _ _ _ _ _ hx_20 (J := J) (R := R)  ⟨rfl, rfl⟩)) (fun v s hq => ?_)
            obtain ⟨rfl, rfl⟩ := hq
            show az_E az_F ex (d + 1) 242 66 [.ref 73, .int a1, .int a2, .int x_15] [.int x_18, .int x_15] (97, I_19, J, R) _
            refine az_E.sn 1 (pc' := 67) (L' := [.ref 73, .int a1, .int a2, .int x_15]) (S' := [.int (x_15 - x_18)]) (σ' := (97, I_19, J, R)) rfl ?_
            have h := Option.some.inj h
            subst h
            exact az_E.ret (v := some (.int (x_15 - x_18))) (σ' := (97, I_19, J, R)) rfl hQ
set_option maxRecDepth 100000 in
set_option maxHeartbeats 4000000 in
theorem re_G4 {ex : az_X} : ∀ n : Nat, (∀ (b1 b2 b3 b4 : Int32) (I : Nat → Nat → Int32) (o : Int32 × (Nat → Nat → Int32)), rs_G4 n 239 b1 b2 b3 b4 I = some o → ∀ {J : Nat → Nat → Int64} {R : Nat → Nat → Option Nat} {Q : Option Value → az_S → Prop}, Q (some (.int o.1)) (97, o.2, J, R) → az_E az_F ex (n * 1) 239 0 [.ref 73, .int b1, .int b2] [] (97, I, J, R) Q) ∧ (∀ (b1 b2 b3 b4 : Int32) (I : Nat → Nat → Int32) (o : Int32 × (Nat → Nat → Int32)), rs_G4 n 240 b1 b2 b3 b4 I = some o → ∀ {J : Nat → Nat → Int64} {R : Nat → Nat → Option Nat} {Q : Option Value → az_S → Prop}, Q (some (.int o.1)) (97, o.2, J, R) → az_E az_F ex (n * 1) 240 0 [.ref 73, .int b1, .int b2, .retAddr 0] [] (97, I, J, R) Q) ∧ (∀ (b1 b2 b3 b4 : Int32) (I : Nat → Nat → Int32) (o : Int32 × (Nat → Nat → Int32)), rs_G4 n 241 b1 b2 b3 b4 I = some o → ∀ {J : Nat → Nat → Int64} {R : Nat → Nat → Option Nat} {Q : Option Value → az_S → Prop}, Q (some (.int o.1)) (97, o.2, J, R) → az_E az_F ex (n * 1) 241 0 [.ref 73, .int b1, .int b2, .retAddr 0] [] (97, I, J, R) Q) ∧ (∀ (b1 b2 b3 b4 : Int32) (I : Nat → Nat → Int32) (o : Int32 × (Nat → Nat → Int32)), rs_G4 n 242 b1 b2 b3 b4 I = some o → ∀ {J : Nat → Nat → Int64} {R : Nat → Nat → Option Nat} {Q : Option Value → az_S → Prop}, Q (some (.int o.1)) (97, o.2, J, R) → az_E az_F ex (n * 1) 242 0 [.ref 73, .int b1, .int b2, .retAddr 0] [] (97, I, J, R) Q) := by
  intro n
  induction n with
  | zero =>
    refine ⟨?_, ?_, ?_, ?_⟩
    all_goals (intro b1 b2 b3 b4 I o h; cases h)
  | succ n ih =>
    obtain ⟨hg_239, hg_240, hg_241, hg_242⟩ := ih
    have e : (n + 1) * 1 = n * 1 + 1 := by omega
    rw [e]
    refine ⟨?_, ?_, ?_, ?_⟩
    · intro b1 b2 b3 b4 I o h J R Q  hQ
      replace h : rs_M_pointsAs (rs_G4 n)  I b1 b2 = some o := h
      exact re_M_pointsAs hg_239 hg_240 hg_241 hg_242  h hQ
    · intro b1 b2 b3 b4 I o h J R Q  hQ
      replace h : rs_M_growsAs (rs_G4 n)  I b1 b2 = some o := h
      exact re_M_growsAs hg_239 hg_240 hg_241 hg_242  h hQ
    · intro b1 b2 b3 b4 I o h J R Q  hQ
      replace h : rs_M_turnsAs (rs_G4 n)  I b1 b2 = some o := h
      exact re_M_turnsAs hg_239 hg_240 hg_241 hg_242  h hQ
    · intro b1 b2 b3 b4 I o h J R Q  hQ
      replace h : rs_M_readsAs (rs_G4 n)  I b1 b2 = some o := h
      exact re_M_readsAs hg_239 hg_240 hg_241 hg_242  h hQ
set_option maxRecDepth 100000 in
set_option maxHeartbeats 4000000 in
theorem re_G4_239 {ex : az_X} {n : Nat} : ∀ (b1 b2 b3 b4 : Int32) (I : Nat → Nat → Int32) (o : Int32 × (Nat → Nat → Int32)), rs_G4 n 239 b1 b2 b3 b4 I = some o → ∀ {J : Nat → Nat → Int64} {R : Nat → Nat → Option Nat} {Q : Option Value → az_S → Prop}, Q (some (.int o.1)) (97, o.2, J, R) → az_E az_F ex (n * 1) 239 0 [.ref 73, .int b1, .int b2] [] (97, I, J, R) Q := (re_G4 n).1
set_option maxRecDepth 100000 in
set_option maxHeartbeats 4000000 in
theorem re_G4_240 {ex : az_X} {n : Nat} : ∀ (b1 b2 b3 b4 : Int32) (I : Nat → Nat → Int32) (o : Int32 × (Nat → Nat → Int32)), rs_G4 n 240 b1 b2 b3 b4 I = some o → ∀ {J : Nat → Nat → Int64} {R : Nat → Nat → Option Nat} {Q : Option Value → az_S → Prop}, Q (some (.int o.1)) (97, o.2, J, R) → az_E az_F ex (n * 1) 240 0 [.ref 73, .int b1, .int b2, .retAddr 0] [] (97, I, J, R) Q := (re_G4 n).2.1
set_option maxRecDepth 100000 in
set_option maxHeartbeats 4000000 in
theorem re_G4_241 {ex : az_X} {n : Nat} : ∀ (b1 b2 b3 b4 : Int32) (I : Nat → Nat → Int32) (o : Int32 × (Nat → Nat → Int32)), rs_G4 n 241 b1 b2 b3 b4 I = some o → ∀ {J : Nat → Nat → Int64} {R : Nat → Nat → Option Nat} {Q : Option Value → az_S → Prop}, Q (some (.int o.1)) (97, o.2, J, R) → az_E az_F ex (n * 1) 241 0 [.ref 73, .int b1, .int b2, .retAddr 0] [] (97, I, J, R) Q := (re_G4 n).2.2.1
set_option maxRecDepth 100000 in
set_option maxHeartbeats 4000000 in
theorem re_G4_242 {ex : az_X} {n : Nat} : ∀ (b1 b2 b3 b4 : Int32) (I : Nat → Nat → Int32) (o : Int32 × (Nat → Nat → Int32)), rs_G4 n 242 b1 b2 b3 b4 I = some o → ∀ {J : Nat → Nat → Int64} {R : Nat → Nat → Option Nat} {Q : Option Value → az_S → Prop}, Q (some (.int o.1)) (97, o.2, J, R) → az_E az_F ex (n * 1) 242 0 [.ref 73, .int b1, .int b2, .retAddr 0] [] (97, I, J, R) Q := (re_G4 n).2.2.2
set_option maxRecDepth 100000 in
set_option maxHeartbeats 4000000 in
theorem re_M_act {ex : az_X} {I : Nat → Nat → Int32} {J : Nat → Nat → Int64} {R : Nat → Nat → Option Nat} {a1 : Int32} {a2 : Int32} {a3 : Int32} {o : Int32 × (Nat → Nat → Int32)} (h : rs_M_act I a1 a2 a3 = some o) {Q : Option Value → az_S → Prop} (hQ : Q (some (.int o.1)) (97, o.2, J, R)) : az_E az_F ex 61 243 0 [.ref 73, .int a1, .int a2, .int a3] [] (97, I, J, R) Q := by
  unfold rs_M_act at h
  refine az_E.sn 5 (pc' := 7) (L' := [.ref 73, .int a1, .int a2, .int a3]) (S' := [.int a1, .ref 73]) (σ' := (97, (az_u I 73 36 (0 : Int32)), J, R)) rfl ?_
  refine az_E.call (d := 60) (k' := 234) (vs := [.ref 73, .int a1]) (pc' := 10) (S' := []) rfl ?_ (fun _ _ hq => hq)
  show az_E az_F ex 60 234 0 [.ref 73, .int a1] [] (97, (az_u I 73 36 (0 : Int32)), J, R) _
  refine az_E.sn 8 (pc' := 10) (L' := [.ref 73, .int a1]) (S' := [.long ((I 73 33) - (1 : Int32)).toInt64, .long (0 : Int64), .long a1.toInt64]) (σ' := (97, (az_u I 73 36 (0 : Int32)), J, R)) rfl ?_
  refine az_E.call (d := 59) (k' := 154) (vs := [.long a1.toInt64, .long (0 : Int64), .long ((I 73 33) - (1 : Int32)).toInt64]) (pc' := 13) (S' := []) rfl ?_ (fun _ _ hq => hq)
  show az_E az_F ex 59 154 0 [.long a1.toInt64, .retAddr 0, .long (0 : Int64), .retAddr 0, .long ((I 73 33) - (1 : Int32)).toInt64, .retAddr 0] [] (97, (az_u I 73 36 (0 : Int32)), J, R) _
  refine az_E.sn 3 (pc' := 3) (L' := [.long a1.toInt64, .retAddr 0, .long (0 : Int64), .retAddr 0, .long ((I 73 33) - (1 : Int32)).toInt64, .retAddr 0]) (S' := [.int (lg_cmp a1.toInt64 (0 : Int64))]) (σ' := (97, (az_u I 73 36 (0 : Int32)), J, R)) rfl ?_
  refine az_E.br (c := (lg_cmp a1.toInt64 (0 : Int64)) < 0) (tt := 17) (ff := 6) (L' := [.long a1.toInt64, .retAddr 0, .long (0 : Int64), .retAddr 0, .long ((I 73 33) - (1 : Int32)).toInt64, .retAddr 0]) (S' := []) (σ' := (97, (az_u I 73 36 (0 : Int32)), J, R)) rfl (fun hc_1 => ?_) (fun hc_1 => ?_)
  · rw [if_pos hc_1] at h
    refine az_E.sn 1 (pc' := 18) (L' := [.long a1.toInt64, .retAddr 0, .long (0 : Int64), .retAddr 0, .long ((I 73 33) - (1 : Int32)).toInt64, .retAddr 0]) (S' := [.int (0 : Int32)]) (σ' := (97, (az_u I 73 36 (0 : Int32)), J, R)) rfl ?_
    refine az_E.ret (v := some (.int (0 : Int32))) (σ' := (97, (az_u I 73 36 (0 : Int32)), J, R)) rfl ?_
    show az_E az_F ex 60 234 13 [.ref 73, .int a1] [.int (0 : Int32)] (97, (az_u I 73 36 (0 : Int32)), J, R) _
    refine az_E.ret (v := some (.int (0 : Int32))) (σ' := (97, (az_u I 73 36 (0 : Int32)), J, R)) rfl ?_
    show az_E az_F ex 61 243 10 [.ref 73, .int a1, .int a2, .int a3] [.int (0 : Int32)] (97, (az_u I 73 36 (0 : Int32)), J, R) _
    refine az_E.br (c := (0 : Int32) = 0) (tt := 13) (ff := 15) (L' := [.ref 73, .int a1, .int a2, .int a3]) (S' := []) (σ' := (97, (az_u I 73 36 (0 : Int32)), J, R)) rfl (fun _ => ?_) (fun hn => absurd (by decide) hn)
    refine az_E.sn 1 (pc' := 14) (L' := [.ref 73, .int a1, .int a2, .int a3]) (S' := [.int (0 : Int32)]) (σ' := (97, (az_u I 73 36 (0 : Int32)), J, R)) rfl ?_
    have h := Option.some.inj h
    subst h
    exact az_E.ret (v := some (.int (0 : Int32))) (σ' := (97, (az_u I 73 36 (0 : Int32)), J, R)) rfl hQ
  · rw [if_neg hc_1] at h
    refine az_E.sn 3 (pc' := 10) (L' := [.long a1.toInt64, .retAddr 0, .long (0 : Int64), .retAddr 0, .long ((I 73 33) - (1 : Int32)).toInt64, .retAddr 0]) (S' := [.int (lg_cmp a1.toInt64 ((I 73 33) - (1 : Int32)).toInt64)]) (σ' := (97, (az_u I 73 36 (0 : Int32)), J, R)) rfl ?_
    refine az_E.br (c := 0 < (lg_cmp a1.toInt64 ((I 73 33) - (1 : Int32)).toInt64)) (tt := 17) (ff := 13) (L' := [.long a1.toInt64, .retAddr 0, .long (0 : Int64), .retAddr 0, .long ((I 73 33) - (1 : Int32)).toInt64, .retAddr 0]) (S' := []) (σ' := (97, (az_u I 73 36 (0 : Int32)), J, R)) rfl (fun hc_2 => ?_) (fun hc_2 => ?_)
    · rw [if_pos hc_2] at h
      refine az_E.sn 1 (pc' := 18) (L' := [.long a1.toInt64, .retAddr 0, .long (0 : Int64), .retAddr 0, .long ((I 73 33) - (1 : Int32)).toInt64, .retAddr 0]) (S' := [.int (0 : Int32)]) (σ' := (97, (az_u I 73 36 (0 : Int32)), J, R)) rfl ?_
      refine az_E.ret (v := some (.int (0 : Int32))) (σ' := (97, (az_u I 73 36 (0 : Int32)), J, R)) rfl ?_
      show az_E az_F ex 60 234 13 [.ref 73, .int a1] [.int (0 : Int32)] (97, (az_u I 73 36 (0 : Int32)), J, R) _
      refine az_E.ret (v := some (.int (0 : Int32))) (σ' := (97, (az_u I 73 36 (0 : Int32)), J, R)) rfl ?_
      show az_E az_F ex 61 243 10 [.ref 73, .int a1, .int a2, .int a3] [.int (0 : Int32)] (97, (az_u I 73 36 (0 : Int32)), J, R) _
      refine az_E.br (c := (0 : Int32) = 0) (tt := 13) (ff := 15) (L' := [.ref 73, .int a1, .int a2, .int a3]) (S' := []) (σ' := (97, (az_u I 73 36 (0 : Int32)), J, R)) rfl (fun _ => ?_) (fun hn => absurd (by decide) hn)
      refine az_E.sn 1 (pc' := 14) (L' := [.ref 73, .int a1, .int a2, .int a3]) (S' := [.int (0 : Int32)]) (σ' := (97, (az_u I 73 36 (0 : Int32)), J, R)) rfl ?_
      have h := Option.some.inj h
      subst h
      exact az_E.ret (v := some (.int (0 : Int32))) (σ' := (97, (az_u I 73 36 (0 : Int32)), J, R)) rfl hQ
    · rw [if_neg hc_2] at h
      refine az_E.sn 2 (pc' := 18) (L' := [.long a1.toInt64, .retAddr 0, .long (0 : Int64), .retAddr 0, .long ((I 73 33) - (1 : Int32)).toInt64, .retAddr 0]) (S' := [.int (1 : Int32)]) (σ' := (97, (az_u I 73 36 (0 : Int32)), J, R)) rfl ?_
      refine az_E.ret (v := some (.int (1 : Int32))) (σ' := (97, (az_u I 73 36 (0 : Int32)), J, R)) rfl ?_
      show az_E az_F ex 60 234 13 [.ref 73, .int a1] [.int (1 : Int32)] (97, (az_u I 73 36 (0 : Int32)), J, R) _
      refine az_E.ret (v := some (.int (1 : Int32))) (σ' := (97, (az_u I 73 36 (0 : Int32)), J, R)) rfl ?_
      show az_E az_F ex 61 243 10 [.ref 73, .int a1, .int a2, .int a3] [.int (1 : Int32)] (97, (az_u I 73 36 (0 : Int32)), J, R) _
      refine az_E.br (c := (1 : Int32) = 0) (tt := 13) (ff := 15) (L' := [.ref 73, .int a1, .int a2, .int a3]) (S' := []) (σ' := (97, (az_u I 73 36 (0 : Int32)), J, R)) rfl (fun hn => absurd hn (by decide)) (fun _ => ?_)
      refine az_E.sn 4 (pc' := 21) (L' := [.ref 73, .int a1, .int a2, .int a3]) (S' := [.int a1, .ref 94, .ref 73]) (σ' := (97, (az_u I 73 36 (0 : Int32)), J, R)) rfl ?_
      by_cases hc_3 : a1 < 0 ∨ 50 ≤ a1.toNatClampNeg
      · rw [if_pos hc_3] at h; cases h
      · rw [if_neg hc_3] at h
        refine az_E.oi (o := az_ai az_F ex (97, (az_u I 73 36 (0 : Int32)), J, R) 94 a1) (pc' := 22) (L' := [.ref 73, .int a1, .int a2, .int a3]) (S' := [.ref 73]) (σ' := (97, (az_u I 73 36 (0 : Int32)), J, R)) (x := (I 94 a1.toNatClampNeg)) rfl (if_neg hc_3) ?_
        refine az_E.sn 5 (pc' := 31) (L' := [.ref 73, .int a1, .int a2, .int a3]) (S' := [.int a2]) (σ' := (97, (az_u (az_u (az_u I 73 36 (0 : Int32)) 73 37 (I 94 a1.toNatClampNeg)) 73 38 a1), J, R)) rfl ?_
        by_cases hc_4 : a2 = (0 : Int32)
        · rw [if_pos hc_4] at h
          refine az_E.sw hc_4 (pc' := 60) (L' := [.ref 73, .int a1, .int a2, .int a3]) (S' := []) (σ' := (97, (az_u (az_u (az_u I 73 36 (0 : Int32)) 73 37 (I 94 a1.toNatClampNeg)) 73 38 a1), J, R)) rfl ?_
          refine az_E.sn 4 (pc' := 66) (L' := [.ref 73, .int a1, .int a2, .int a3]) (S' := [.int a3, .int (I 94 a1.toNatClampNeg), .ref 73]) (σ' := (97, (az_u (az_u (az_u I 73 36 (0 : Int32)) 73 37 (I 94 a1.toNatClampNeg)) 73 38 a1), J, R)) rfl ?_
          cases hx_7 : rs_G4 60 239 (I 94 a1.toNatClampNeg) a3 0 0 (az_u (az_u (az_u I 73 36 (0 : Int32)) 73 37 (I 94 a1.toNatClampNeg)) 73 38 a1) with
          | none => rw [hx_7] at h; cases h
          | some o =>
            rw [hx_7] at h
            obtain ⟨x_5, I_6⟩ := o
            dsimp only at h
            refine az_E.call (d := 60) (k' := 239) (vs := [.ref 73, .int (I 94 a1.toNatClampNeg), .int a3]) (pc' := 69) (S' := []) (Q1 := fun v s => v = some (.int x_5) ∧ s = (97, I_6, J, R)) rfl (az_E.deep (by omega) (re_G4_239 (n := 60) _ _ _ _ _ _ hx_7 (J := J) (R := R)  ⟨rfl, rfl⟩)) (fun v s hq => ?_)
            obtain ⟨rfl, rfl⟩ := hq
            show az_E az_F ex 61 243 69 [.ref 73, .int a1, .int a2, .int a3] [.int x_5] (97, I_6, J, R) _
            have h := Option.some.inj h
            subst h
            exact az_E.ret (v := some (.int x_5)) (σ' := (97, I_6, J, R)) rfl hQ
        · rw [if_neg hc_4] at h
          by_cases hc_8 : a2 = (1 : Int32)
          · rw [if_pos hc_8] at h
            refine az_E.sw hc_8 (pc' := 70) (L' := [.ref 73, .int a1, .int a2, .int a3]) (S' := []) (σ' := (97, (az_u (az_u (az_u I 73 36 (0 : Int32)) 73 37 (I 94 a1.toNatClampNeg)) 73 38 a1), J, R)) rfl ?_
            refine az_E.sn 4 (pc' := 76) (L' := [.ref 73, .int a1, .int a2, .int a3]) (S' := [.int a3, .int (I 94 a1.toNatClampNeg), .ref 73]) (σ' := (97, (az_u (az_u (az_u I 73 36 (0 : Int32)) 73 37 (I 94 a1.toNatClampNeg)) 73 38 a1), J, R)) rfl ?_
            cases hx_11 : rs_G4 60 240 (I 94 a1.toNatClampNeg) a3 0 0 (az_u (az_u (az_u I 73 36 (0 : Int32)) 73 37 (I 94 a1.toNatClampNeg)) 73 38 a1) with
            | none => rw [hx_11] at h; cases h
            | some o =>
              rw [hx_11] at h
              obtain ⟨x_9, I_10⟩ := o
              dsimp only at h
              refine az_E.call (d := 60) (k' := 240) (vs := [.ref 73, .int (I 94 a1.toNatClampNeg), .int a3]) (pc' := 79) (S' := []) (Q1 := fun v s => v = some (.int x_9) ∧ s = (97, I_10, J, R)) rfl (az_E.deep (by omega) (re_G4_240 (n := 60) _ _ _ _ _ _ hx_11 (J := J) (R := R)  ⟨rfl, rfl⟩)) (fun v s hq => ?_)
              obtain ⟨rfl, rfl⟩ := hq
              show az_E az_F ex 61 243 79 [.ref 73, .int a1, .int a2, .int a3] [.int x_9] (97, I_10, J, R) _
              have h := Option.some.inj h
              subst h
              exact az_E.ret (v := some (.int x_9)) (σ' := (97, I_10, J, R)) rfl hQ
          · rw [if_neg hc_8] at h
            by_cases hc_12 : a2 = (2 : Int32)
            · rw [if_pos hc_12] at h
              refine az_E.sw hc_12 (pc' := 80) (L' := [.ref 73, .int a1, .int a2, .int a3]) (S' := []) (σ' := (97, (az_u (az_u (az_u I 73 36 (0 : Int32)) 73 37 (I 94 a1.toNatClampNeg)) 73 38 a1), J, R)) rfl ?_
              refine az_E.sn 4 (pc' := 86) (L' := [.ref 73, .int a1, .int a2, .int a3]) (S' := [.int a3, .int (I 94 a1.toNatClampNeg), .ref 73]) (σ' := (97, (az_u (az_u (az_u I 73 36 (0 : Int32)) 73 37 (I 94 a1.toNatClampNeg)) 73 38 a1), J, R)) rfl ?_
              cases hx_15 : rs_G4 60 241 (I 94 a1.toNatClampNeg) a3 0 0 (az_u (az_u (az_u I 73 36 (0 : Int32)) 73 37 (I 94 a1.toNatClampNeg)) 73 38 a1) with
              | none => rw [hx_15] at h; cases h
              | some o =>
                rw [hx_15] at h
                obtain ⟨x_13, I_14⟩ := o
                dsimp only at h
                refine az_E.call (d := 60) (k' := 241) (vs := [.ref 73, .int (I 94 a1.toNatClampNeg), .int a3]) (pc' := 89) (S' := []) (Q1 := fun v s => v = some (.int x_13) ∧ s = (97, I_14, J, R)) rfl (az_E.deep (by omega) (re_G4_241 (n := 60) _ _ _ _ _ _ hx_15 (J := J) (R := R)  ⟨rfl, rfl⟩)) (fun v s hq => ?_)
                obtain ⟨rfl, rfl⟩ := hq
                show az_E az_F ex 61 243 89 [.ref 73, .int a1, .int a2, .int a3] [.int x_13] (97, I_14, J, R) _
                have h := Option.some.inj h
                subst h
                exact az_E.ret (v := some (.int x_13)) (σ' := (97, I_14, J, R)) rfl hQ
            · rw [if_neg hc_12] at h
              by_cases hc_16 : a2 = (3 : Int32)
              · rw [if_pos hc_16] at h
                refine az_E.sw hc_16 (pc' := 90) (L' := [.ref 73, .int a1, .int a2, .int a3]) (S' := []) (σ' := (97, (az_u (az_u (az_u I 73 36 (0 : Int32)) 73 37 (I 94 a1.toNatClampNeg)) 73 38 a1), J, R)) rfl ?_
                refine az_E.sn 4 (pc' := 96) (L' := [.ref 73, .int a1, .int a2, .int a3]) (S' := [.int a3, .int (I 94 a1.toNatClampNeg), .ref 73]) (σ' := (97, (az_u (az_u (az_u I 73 36 (0 : Int32)) 73 37 (I 94 a1.toNatClampNeg)) 73 38 a1), J, R)) rfl ?_
                cases hx_19 : rs_G4 60 242 (I 94 a1.toNatClampNeg) a3 0 0 (az_u (az_u (az_u I 73 36 (0 : Int32)) 73 37 (I 94 a1.toNatClampNeg)) 73 38 a1) with
                | none => rw [hx_19] at h; cases h
                | some o =>
                  rw [hx_19] at h
                  obtain ⟨x_17, I_18⟩ := o
                  dsimp only at h
                  refine az_E.call (d := 60) (k' := 242) (vs := [.ref 73, .int (I 94 a1.toNatClampNeg), .int a3]) (pc' := 99) (S' := []) (Q1 := fun v s => v = some (.int x_17) ∧ s = (97, I_18, J, R)) rfl (az_E.deep (by omega) (re_G4_242 (n := 60) _ _ _ _ _ _ hx_19 (J := J) (R := R)  ⟨rfl, rfl⟩)) (fun v s hq => ?_)
                  obtain ⟨rfl, rfl⟩ := hq
                  show az_E az_F ex 61 243 99 [.ref 73, .int a1, .int a2, .int a3] [.int x_17] (97, I_18, J, R) _
                  have h := Option.some.inj h
                  subst h
                  exact az_E.ret (v := some (.int x_17)) (σ' := (97, I_18, J, R)) rfl hQ
              · rw [if_neg hc_16] at h
                have ehc_4 := az_nei hc_4 (z := 0) (by decide)
                have ehc_8 := az_nei hc_8 (z := 1) (by decide)
                have ehc_12 := az_nei hc_12 (z := 2) (by decide)
                have ehc_16 := az_nei hc_16 (z := 3) (by decide)
                refine az_E.swd (a := 100) (lo := 0) (hi := 3) (offs := #[29, 39, 49, 59]) rfl (by omega) ?_
                refine az_E.sn 1 (pc' := 101) (L' := [.ref 73, .int a1, .int a2, .int a3]) (S' := [.int (0 : Int32)]) (σ' := (97, (az_u (az_u (az_u I 73 36 (0 : Int32)) 73 37 (I 94 a1.toNatClampNeg)) 73 38 a1), J, R)) rfl ?_
                have h := Option.some.inj h
                subst h
                exact az_E.ret (v := some (.int (0 : Int32))) (σ' := (97, (az_u (az_u (az_u I 73 36 (0 : Int32)) 73 37 (I 94 a1.toNatClampNeg)) 73 38 a1), J, R)) rfl hQ
set_option maxRecDepth 100000 in
set_option maxHeartbeats 4000000 in
theorem re_X_trace {ex : az_X} {I : Nat → Nat → Int32} {J : Nat → Nat → Int64} {R : Nat → Nat → Option Nat} {a1 : Int32} {o : Int32} (h : rs_X_trace I a1 = some o) {Q : Option Value → az_S → Prop} (hQ : Q (some (.int o)) (97, I, J, R)) : az_E az_F ex 1 123 0 [.ref 3, .int a1] [] (97, I, J, R) Q := by
  unfold rs_X_trace at h
  refine az_E.sn 9 (pc' := 16) (L' := [.ref 3, .int a1]) (S' := [.int ((if (24 : Int32) < (I 55 3) then (24 : Int32) else (I 55 3)) - (1 : Int32)), .int (0 : Int32), .int a1]) (σ' := (97, I, J, R)) rfl ?_
  refine az_E.call (d := 0) (k' := 131) (vs := [.int a1, .int (0 : Int32), .int ((if (24 : Int32) < (I 55 3) then (24 : Int32) else (I 55 3)) - (1 : Int32))]) (pc' := 19) (S' := []) rfl ?_ (fun _ _ hq => hq)
  show az_E az_F ex 0 131 0 [.int a1, .int (0 : Int32), .int ((if (24 : Int32) < (I 55 3) then (24 : Int32) else (I 55 3)) - (1 : Int32))] [] (97, I, J, R) _
  refine az_E.sn 2 (pc' := 2) (L' := [.int a1, .int (0 : Int32), .int ((if (24 : Int32) < (I 55 3) then (24 : Int32) else (I 55 3)) - (1 : Int32))]) (S' := [.int (0 : Int32), .int a1]) (σ' := (97, I, J, R)) rfl ?_
  refine az_E.br (c := a1 < (0 : Int32)) (tt := 14) (ff := 5) (L' := [.int a1, .int (0 : Int32), .int ((if (24 : Int32) < (I 55 3) then (24 : Int32) else (I 55 3)) - (1 : Int32))]) (S' := []) (σ' := (97, I, J, R)) rfl (fun hc_1 => ?_) (fun hc_1 => ?_)
  · rw [if_pos hc_1] at h
    refine az_E.sn 1 (pc' := 15) (L' := [.int a1, .int (0 : Int32), .int ((if (24 : Int32) < (I 55 3) then (24 : Int32) else (I 55 3)) - (1 : Int32))]) (S' := [.int (0 : Int32)]) (σ' := (97, I, J, R)) rfl ?_
    refine az_E.ret (v := some (.int (0 : Int32))) (σ' := (97, I, J, R)) rfl ?_
    show az_E az_F ex 1 123 19 [.ref 3, .int a1] [.int (0 : Int32)] (97, I, J, R) _
    refine az_E.br (c := (0 : Int32) = 0) (tt := 34) (ff := 22) (L' := [.ref 3, .int a1]) (S' := []) (σ' := (97, I, J, R)) rfl (fun _ => ?_) (fun hn => absurd (by decide) hn)
    refine az_E.sn 1 (pc' := 35) (L' := [.ref 3, .int a1]) (S' := [.int (-1 : Int32)]) (σ' := (97, I, J, R)) rfl ?_
    have h := Option.some.inj h
    subst h
    exact az_E.ret (v := some (.int (-1 : Int32))) (σ' := (97, I, J, R)) rfl hQ
  · rw [if_neg hc_1] at h
    refine az_E.sn 2 (pc' := 7) (L' := [.int a1, .int (0 : Int32), .int ((if (24 : Int32) < (I 55 3) then (24 : Int32) else (I 55 3)) - (1 : Int32))]) (S' := [.int ((if (24 : Int32) < (I 55 3) then (24 : Int32) else (I 55 3)) - (1 : Int32)), .int a1]) (σ' := (97, I, J, R)) rfl ?_
    refine az_E.br (c := ((if (24 : Int32) < (I 55 3) then (24 : Int32) else (I 55 3)) - (1 : Int32)) < a1) (tt := 14) (ff := 10) (L' := [.int a1, .int (0 : Int32), .int ((if (24 : Int32) < (I 55 3) then (24 : Int32) else (I 55 3)) - (1 : Int32))]) (S' := []) (σ' := (97, I, J, R)) rfl (fun hc_2 => ?_) (fun hc_2 => ?_)
    · rw [if_pos hc_2] at h
      refine az_E.sn 1 (pc' := 15) (L' := [.int a1, .int (0 : Int32), .int ((if (24 : Int32) < (I 55 3) then (24 : Int32) else (I 55 3)) - (1 : Int32))]) (S' := [.int (0 : Int32)]) (σ' := (97, I, J, R)) rfl ?_
      refine az_E.ret (v := some (.int (0 : Int32))) (σ' := (97, I, J, R)) rfl ?_
      show az_E az_F ex 1 123 19 [.ref 3, .int a1] [.int (0 : Int32)] (97, I, J, R) _
      refine az_E.br (c := (0 : Int32) = 0) (tt := 34) (ff := 22) (L' := [.ref 3, .int a1]) (S' := []) (σ' := (97, I, J, R)) rfl (fun _ => ?_) (fun hn => absurd (by decide) hn)
      refine az_E.sn 1 (pc' := 35) (L' := [.ref 3, .int a1]) (S' := [.int (-1 : Int32)]) (σ' := (97, I, J, R)) rfl ?_
      have h := Option.some.inj h
      subst h
      exact az_E.ret (v := some (.int (-1 : Int32))) (σ' := (97, I, J, R)) rfl hQ
    · rw [if_neg hc_2] at h
      refine az_E.sn 2 (pc' := 15) (L' := [.int a1, .int (0 : Int32), .int ((if (24 : Int32) < (I 55 3) then (24 : Int32) else (I 55 3)) - (1 : Int32))]) (S' := [.int (1 : Int32)]) (σ' := (97, I, J, R)) rfl ?_
      refine az_E.ret (v := some (.int (1 : Int32))) (σ' := (97, I, J, R)) rfl ?_
      show az_E az_F ex 1 123 19 [.ref 3, .int a1] [.int (1 : Int32)] (97, I, J, R) _
      refine az_E.br (c := (1 : Int32) = 0) (tt := 34) (ff := 22) (L' := [.ref 3, .int a1]) (S' := []) (σ' := (97, I, J, R)) rfl (fun hn => absurd hn (by decide)) (fun _ => ?_)
      refine az_E.sn 4 (pc' := 30) (L' := [.ref 3, .int a1]) (S' := [.int a1, .ref 57]) (σ' := (97, I, J, R)) rfl ?_
      by_cases hc_3 : a1 < 0 ∨ 24 ≤ a1.toNatClampNeg
      · rw [if_pos hc_3] at h; cases h
      · rw [if_neg hc_3] at h
        refine az_E.oi (o := az_ai az_F ex (97, I, J, R) 57 a1) (pc' := 31) (L' := [.ref 3, .int a1]) (S' := []) (σ' := (97, I, J, R)) (x := (I 57 a1.toNatClampNeg)) rfl (if_neg hc_3) ?_
        refine az_E.sn 1 (pc' := 35) (L' := [.ref 3, .int a1]) (S' := [.int (I 57 a1.toNatClampNeg)]) (σ' := (97, I, J, R)) rfl ?_
        have h := Option.some.inj h
        subst h
        exact az_E.ret (v := some (.int (I 57 a1.toNatClampNeg))) (σ' := (97, I, J, R)) rfl hQ
set_option maxRecDepth 100000 in
set_option maxHeartbeats 4000000 in
theorem re_M_trace {ex : az_X} {I : Nat → Nat → Int32} {J : Nat → Nat → Int64} {R : Nat → Nat → Option Nat} {a1 : Int32} {o : Int32} (h : rs_M_trace I a1 = some o) {Q : Option Value → az_S → Prop} (hQ : Q (some (.int o)) (97, I, J, R)) : az_E az_F ex 0 244 0 [.ref 73, .int a1] [] (97, I, J, R) Q := by
  unfold rs_M_trace at h
  refine az_E.sn 1 (pc' := 1) (L' := [.ref 73, .int a1]) (S' := [.int a1]) (σ' := (97, I, J, R)) rfl ?_
  refine az_E.br (c := a1 < 0) (tt := 27) (ff := 4) (L' := [.ref 73, .int a1]) (S' := []) (σ' := (97, I, J, R)) rfl (fun hc_1 => ?_) (fun hc_1 => ?_)
  · rw [if_pos hc_1] at h
    refine az_E.sn 1 (pc' := 28) (L' := [.ref 73, .int a1]) (S' := [.int (-1 : Int32)]) (σ' := (97, I, J, R)) rfl ?_
    have h := Option.some.inj h
    subst h
    exact az_E.ret (v := some (.int (-1 : Int32))) (σ' := (97, I, J, R)) rfl hQ
  · rw [if_neg hc_1] at h
    refine az_E.sn 3 (pc' := 9) (L' := [.ref 73, .int a1]) (S' := [.int (I 73 36), .int a1]) (σ' := (97, I, J, R)) rfl ?_
    refine az_E.br (c := (I 73 36) ≤ a1) (tt := 27) (ff := 12) (L' := [.ref 73, .int a1]) (S' := []) (σ' := (97, I, J, R)) rfl (fun hc_2 => ?_) (fun hc_2 => ?_)
    · rw [if_pos hc_2] at h
      refine az_E.sn 1 (pc' := 28) (L' := [.ref 73, .int a1]) (S' := [.int (-1 : Int32)]) (σ' := (97, I, J, R)) rfl ?_
      have h := Option.some.inj h
      subst h
      exact az_E.ret (v := some (.int (-1 : Int32))) (σ' := (97, I, J, R)) rfl hQ
    · rw [if_neg hc_2] at h
      refine az_E.sn 2 (pc' := 15) (L' := [.ref 73, .int a1]) (S' := [.int (24 : Int32), .int a1]) (σ' := (97, I, J, R)) rfl ?_
      refine az_E.br (c := (24 : Int32) ≤ a1) (tt := 27) (ff := 18) (L' := [.ref 73, .int a1]) (S' := []) (σ' := (97, I, J, R)) rfl (fun hc_3 => ?_) (fun hc_3 => ?_)
      · rw [if_pos hc_3] at h
        refine az_E.sn 1 (pc' := 28) (L' := [.ref 73, .int a1]) (S' := [.int (-1 : Int32)]) (σ' := (97, I, J, R)) rfl ?_
        have h := Option.some.inj h
        subst h
        exact az_E.ret (v := some (.int (-1 : Int32))) (σ' := (97, I, J, R)) rfl hQ
      · rw [if_neg hc_3] at h
        refine az_E.sn 3 (pc' := 23) (L' := [.ref 73, .int a1]) (S' := [.int a1, .ref 95]) (σ' := (97, I, J, R)) rfl ?_
        by_cases hc_4 : a1 < 0 ∨ 24 ≤ a1.toNatClampNeg
        · rw [if_pos hc_4] at h; cases h
        · rw [if_neg hc_4] at h
          refine az_E.oi (o := az_ai az_F ex (97, I, J, R) 95 a1) (pc' := 24) (L' := [.ref 73, .int a1]) (S' := []) (σ' := (97, I, J, R)) (x := (I 95 a1.toNatClampNeg)) rfl (if_neg hc_4) ?_
          refine az_E.sn 1 (pc' := 28) (L' := [.ref 73, .int a1]) (S' := [.int (I 95 a1.toNatClampNeg)]) (σ' := (97, I, J, R)) rfl ?_
          have h := Option.some.inj h
          subst h
          exact az_E.ret (v := some (.int (I 95 a1.toNatClampNeg))) (σ' := (97, I, J, R)) rfl hQ
set_option maxRecDepth 100000 in
set_option maxHeartbeats 4000000 in
theorem re_Sh_becomeEmpty_61 {ex : az_X} {I : Nat → Nat → Int32} {J : Nat → Nat → Int64} {R : Nat → Nat → Option Nat} {o : (Nat → Nat → Int32)} (h : rs_Sh_becomeEmpty 61 I = some o) {Q : Option Value → az_S → Prop} (hQ : Q none (97, o, J, R)) : az_E az_F ex 0 57 0 [.ref 61] [] (97, I, J, R) Q := by
  unfold rs_Sh_becomeEmpty at h
  refine az_E.sn 9 (pc' := 15) (L' := [.ref 61]) (S' := []) (σ' := (97, (az_u (az_u (az_u I 61 0 (-1 : Int32)) 61 1 (-1 : Int32)) 61 2 (0 : Int32)), J, R)) rfl ?_
  have h := Option.some.inj h
  subst h
  exact az_E.ret (v := none) (σ' := (97, (az_u (az_u (az_u I 61 0 (-1 : Int32)) 61 1 (-1 : Int32)) 61 2 (0 : Int32)), J, R)) rfl hQ
set_option maxRecDepth 100000 in
set_option maxHeartbeats 4000000 in
theorem re_Sh_becomeEmpty_63 {ex : az_X} {I : Nat → Nat → Int32} {J : Nat → Nat → Int64} {R : Nat → Nat → Option Nat} {o : (Nat → Nat → Int32)} (h : rs_Sh_becomeEmpty 63 I = some o) {Q : Option Value → az_S → Prop} (hQ : Q none (97, o, J, R)) : az_E az_F ex 0 57 0 [.ref 63] [] (97, I, J, R) Q := by
  unfold rs_Sh_becomeEmpty at h
  refine az_E.sn 9 (pc' := 15) (L' := [.ref 63]) (S' := []) (σ' := (97, (az_u (az_u (az_u I 63 0 (-1 : Int32)) 63 1 (-1 : Int32)) 63 2 (0 : Int32)), J, R)) rfl ?_
  have h := Option.some.inj h
  subst h
  exact az_E.ret (v := none) (σ' := (97, (az_u (az_u (az_u I 63 0 (-1 : Int32)) 63 1 (-1 : Int32)) 63 2 (0 : Int32)), J, R)) rfl hQ
set_option maxRecDepth 100000 in
set_option maxHeartbeats 4000000 in
theorem re_Sh_becomeEmpty_65 {ex : az_X} {I : Nat → Nat → Int32} {J : Nat → Nat → Int64} {R : Nat → Nat → Option Nat} {o : (Nat → Nat → Int32)} (h : rs_Sh_becomeEmpty 65 I = some o) {Q : Option Value → az_S → Prop} (hQ : Q none (97, o, J, R)) : az_E az_F ex 0 57 0 [.ref 65] [] (97, I, J, R) Q := by
  unfold rs_Sh_becomeEmpty at h
  refine az_E.sn 9 (pc' := 15) (L' := [.ref 65]) (S' := []) (σ' := (97, (az_u (az_u (az_u I 65 0 (-1 : Int32)) 65 1 (-1 : Int32)) 65 2 (0 : Int32)), J, R)) rfl ?_
  have h := Option.some.inj h
  subst h
  exact az_E.ret (v := none) (σ' := (97, (az_u (az_u (az_u I 65 0 (-1 : Int32)) 65 1 (-1 : Int32)) 65 2 (0 : Int32)), J, R)) rfl hQ
set_option maxRecDepth 100000 in
set_option maxHeartbeats 4000000 in
theorem re_Sh_becomeEmpty_67 {ex : az_X} {I : Nat → Nat → Int32} {J : Nat → Nat → Int64} {R : Nat → Nat → Option Nat} {o : (Nat → Nat → Int32)} (h : rs_Sh_becomeEmpty 67 I = some o) {Q : Option Value → az_S → Prop} (hQ : Q none (97, o, J, R)) : az_E az_F ex 0 57 0 [.ref 67] [] (97, I, J, R) Q := by
  unfold rs_Sh_becomeEmpty at h
  refine az_E.sn 9 (pc' := 15) (L' := [.ref 67]) (S' := []) (σ' := (97, (az_u (az_u (az_u I 67 0 (-1 : Int32)) 67 1 (-1 : Int32)) 67 2 (0 : Int32)), J, R)) rfl ?_
  have h := Option.some.inj h
  subst h
  exact az_E.ret (v := none) (σ' := (97, (az_u (az_u (az_u I 67 0 (-1 : Int32)) 67 1 (-1 : Int32)) 67 2 (0 : Int32)), J, R)) rfl hQ
set_option maxRecDepth 100000 in
set_option maxHeartbeats 4000000 in
theorem re_Sh_becomeEmpty_69 {ex : az_X} {I : Nat → Nat → Int32} {J : Nat → Nat → Int64} {R : Nat → Nat → Option Nat} {o : (Nat → Nat → Int32)} (h : rs_Sh_becomeEmpty 69 I = some o) {Q : Option Value → az_S → Prop} (hQ : Q none (97, o, J, R)) : az_E az_F ex 0 57 0 [.ref 69] [] (97, I, J, R) Q := by
  unfold rs_Sh_becomeEmpty at h
  refine az_E.sn 9 (pc' := 15) (L' := [.ref 69]) (S' := []) (σ' := (97, (az_u (az_u (az_u I 69 0 (-1 : Int32)) 69 1 (-1 : Int32)) 69 2 (0 : Int32)), J, R)) rfl ?_
  have h := Option.some.inj h
  subst h
  exact az_E.ret (v := none) (σ' := (97, (az_u (az_u (az_u I 69 0 (-1 : Int32)) 69 1 (-1 : Int32)) 69 2 (0 : Int32)), J, R)) rfl hQ
set_option maxRecDepth 100000 in
set_option maxHeartbeats 4000000 in
theorem re_Sh_becomeEmpty_71 {ex : az_X} {I : Nat → Nat → Int32} {J : Nat → Nat → Int64} {R : Nat → Nat → Option Nat} {o : (Nat → Nat → Int32)} (h : rs_Sh_becomeEmpty 71 I = some o) {Q : Option Value → az_S → Prop} (hQ : Q none (97, o, J, R)) : az_E az_F ex 0 57 0 [.ref 71] [] (97, I, J, R) Q := by
  unfold rs_Sh_becomeEmpty at h
  refine az_E.sn 9 (pc' := 15) (L' := [.ref 71]) (S' := []) (σ' := (97, (az_u (az_u (az_u I 71 0 (-1 : Int32)) 71 1 (-1 : Int32)) 71 2 (0 : Int32)), J, R)) rfl ?_
  have h := Option.some.inj h
  subst h
  exact az_E.ret (v := none) (σ' := (97, (az_u (az_u (az_u I 71 0 (-1 : Int32)) 71 1 (-1 : Int32)) 71 2 (0 : Int32)), J, R)) rfl hQ
set_option maxRecDepth 100000 in
set_option maxHeartbeats 4000000 in
theorem re_Sh_becomeHeart_61 {ex : az_X} {I : Nat → Nat → Int32} {J : Nat → Nat → Int64} {R : Nat → Nat → Option Nat} {a1 : Int32} {o : (Nat → Nat → Int32)} (h : rs_Sh_becomeHeart 61 I a1 = some o) {Q : Option Value → az_S → Prop} (hQ : Q none (97, o, J, R)) : az_E az_F ex 1 58 0 [.ref 61, .int a1] [] (97, I, J, R) Q := by
  unfold rs_Sh_becomeHeart at h
  refine az_E.sn 1 (pc' := 1) (L' := [.ref 61, .int a1]) (S' := [.ref 61]) (σ' := (97, I, J, R)) rfl ?_
  cases hx_2 : rs_Sh_becomeEmpty 61 I with
  | none => rw [hx_2] at h; cases h
  | some I_1 =>
    rw [hx_2] at h
    dsimp only at h
    refine az_E.call (d := 0) (k' := 57) (vs := [.ref 61]) (pc' := 4) (S' := []) (Q1 := fun v s => v = none ∧ s = (97, I_1, J, R)) rfl (az_E.deep (by omega) (re_Sh_becomeEmpty_61 (J := J) (R := R)  hx_2 ⟨rfl, rfl⟩)) (fun v s hq => ?_)
    obtain ⟨rfl, rfl⟩ := hq
    show az_E az_F ex 1 58 4 [.ref 61, .int a1] [] (97, I_1, J, R) _
    refine az_E.sn 3 (pc' := 9) (L' := [.ref 61, .int a1]) (S' := []) (σ' := (97, (az_u I_1 61 0 a1), J, R)) rfl ?_
    have h := Option.some.inj h
    subst h
    exact az_E.ret (v := none) (σ' := (97, (az_u I_1 61 0 a1), J, R)) rfl hQ
set_option maxRecDepth 100000 in
set_option maxHeartbeats 4000000 in
theorem re_Sh_becomeHeart_63 {ex : az_X} {I : Nat → Nat → Int32} {J : Nat → Nat → Int64} {R : Nat → Nat → Option Nat} {a1 : Int32} {o : (Nat → Nat → Int32)} (h : rs_Sh_becomeHeart 63 I a1 = some o) {Q : Option Value → az_S → Prop} (hQ : Q none (97, o, J, R)) : az_E az_F ex 1 58 0 [.ref 63, .int a1] [] (97, I, J, R) Q := by
  unfold rs_Sh_becomeHeart at h
  refine az_E.sn 1 (pc' := 1) (L' := [.ref 63, .int a1]) (S' := [.ref 63]) (σ' := (97, I, J, R)) rfl ?_
  cases hx_2 : rs_Sh_becomeEmpty 63 I with
  | none => rw [hx_2] at h; cases h
  | some I_1 =>
    rw [hx_2] at h
    dsimp only at h
    refine az_E.call (d := 0) (k' := 57) (vs := [.ref 63]) (pc' := 4) (S' := []) (Q1 := fun v s => v = none ∧ s = (97, I_1, J, R)) rfl (az_E.deep (by omega) (re_Sh_becomeEmpty_63 (J := J) (R := R)  hx_2 ⟨rfl, rfl⟩)) (fun v s hq => ?_)
    obtain ⟨rfl, rfl⟩ := hq
    show az_E az_F ex 1 58 4 [.ref 63, .int a1] [] (97, I_1, J, R) _
    refine az_E.sn 3 (pc' := 9) (L' := [.ref 63, .int a1]) (S' := []) (σ' := (97, (az_u I_1 63 0 a1), J, R)) rfl ?_
    have h := Option.some.inj h
    subst h
    exact az_E.ret (v := none) (σ' := (97, (az_u I_1 63 0 a1), J, R)) rfl hQ
set_option maxRecDepth 100000 in
set_option maxHeartbeats 4000000 in
theorem re_Sh_becomeHeart_65 {ex : az_X} {I : Nat → Nat → Int32} {J : Nat → Nat → Int64} {R : Nat → Nat → Option Nat} {a1 : Int32} {o : (Nat → Nat → Int32)} (h : rs_Sh_becomeHeart 65 I a1 = some o) {Q : Option Value → az_S → Prop} (hQ : Q none (97, o, J, R)) : az_E az_F ex 1 58 0 [.ref 65, .int a1] [] (97, I, J, R) Q := by
  unfold rs_Sh_becomeHeart at h
  refine az_E.sn 1 (pc' := 1) (L' := [.ref 65, .int a1]) (S' := [.ref 65]) (σ' := (97, I, J, R)) rfl ?_
  cases hx_2 : rs_Sh_becomeEmpty 65 I with
  | none => rw [hx_2] at h; cases h
  | some I_1 =>
    rw [hx_2] at h
    dsimp only at h
    refine az_E.call (d := 0) (k' := 57) (vs := [.ref 65]) (pc' := 4) (S' := []) (Q1 := fun v s => v = none ∧ s = (97, I_1, J, R)) rfl (az_E.deep (by omega) (re_Sh_becomeEmpty_65 (J := J) (R := R)  hx_2 ⟨rfl, rfl⟩)) (fun v s hq => ?_)
    obtain ⟨rfl, rfl⟩ := hq
    show az_E az_F ex 1 58 4 [.ref 65, .int a1] [] (97, I_1, J, R) _
    refine az_E.sn 3 (pc' := 9) (L' := [.ref 65, .int a1]) (S' := []) (σ' := (97, (az_u I_1 65 0 a1), J, R)) rfl ?_
    have h := Option.some.inj h
    subst h
    exact az_E.ret (v := none) (σ' := (97, (az_u I_1 65 0 a1), J, R)) rfl hQ
set_option maxRecDepth 100000 in
set_option maxHeartbeats 4000000 in
theorem re_Sh_becomeHeart_67 {ex : az_X} {I : Nat → Nat → Int32} {J : Nat → Nat → Int64} {R : Nat → Nat → Option Nat} {a1 : Int32} {o : (Nat → Nat → Int32)} (h : rs_Sh_becomeHeart 67 I a1 = some o) {Q : Option Value → az_S → Prop} (hQ : Q none (97, o, J, R)) : az_E az_F ex 1 58 0 [.ref 67, .int a1] [] (97, I, J, R) Q := by
  unfold rs_Sh_becomeHeart at h
  refine az_E.sn 1 (pc' := 1) (L' := [.ref 67, .int a1]) (S' := [.ref 67]) (σ' := (97, I, J, R)) rfl ?_
  cases hx_2 : rs_Sh_becomeEmpty 67 I with
  | none => rw [hx_2] at h; cases h
  | some I_1 =>
    rw [hx_2] at h
    dsimp only at h
    refine az_E.call (d := 0) (k' := 57) (vs := [.ref 67]) (pc' := 4) (S' := []) (Q1 := fun v s => v = none ∧ s = (97, I_1, J, R)) rfl (az_E.deep (by omega) (re_Sh_becomeEmpty_67 (J := J) (R := R)  hx_2 ⟨rfl, rfl⟩)) (fun v s hq => ?_)
    obtain ⟨rfl, rfl⟩ := hq
    show az_E az_F ex 1 58 4 [.ref 67, .int a1] [] (97, I_1, J, R) _
    refine az_E.sn 3 (pc' := 9) (L' := [.ref 67, .int a1]) (S' := []) (σ' := (97, (az_u I_1 67 0 a1), J, R)) rfl ?_
    have h := Option.some.inj h
    subst h
    exact az_E.ret (v := none) (σ' := (97, (az_u I_1 67 0 a1), J, R)) rfl hQ
set_option maxRecDepth 100000 in
set_option maxHeartbeats 4000000 in
theorem re_Sh_becomeHeart_69 {ex : az_X} {I : Nat → Nat → Int32} {J : Nat → Nat → Int64} {R : Nat → Nat → Option Nat} {a1 : Int32} {o : (Nat → Nat → Int32)} (h : rs_Sh_becomeHeart 69 I a1 = some o) {Q : Option Value → az_S → Prop} (hQ : Q none (97, o, J, R)) : az_E az_F ex 1 58 0 [.ref 69, .int a1] [] (97, I, J, R) Q := by
  unfold rs_Sh_becomeHeart at h
  refine az_E.sn 1 (pc' := 1) (L' := [.ref 69, .int a1]) (S' := [.ref 69]) (σ' := (97, I, J, R)) rfl ?_
  cases hx_2 : rs_Sh_becomeEmpty 69 I with
  | none => rw [hx_2] at h; cases h
  | some I_1 =>
    rw [hx_2] at h
    dsimp only at h
    refine az_E.call (d := 0) (k' := 57) (vs := [.ref 69]) (pc' := 4) (S' := []) (Q1 := fun v s => v = none ∧ s = (97, I_1, J, R)) rfl (az_E.deep (by omega) (re_Sh_becomeEmpty_69 (J := J) (R := R)  hx_2 ⟨rfl, rfl⟩)) (fun v s hq => ?_)
    obtain ⟨rfl, rfl⟩ := hq
    show az_E az_F ex 1 58 4 [.ref 69, .int a1] [] (97, I_1, J, R) _
    refine az_E.sn 3 (pc' := 9) (L' := [.ref 69, .int a1]) (S' := []) (σ' := (97, (az_u I_1 69 0 a1), J, R)) rfl ?_
    have h := Option.some.inj h
    subst h
    exact az_E.ret (v := none) (σ' := (97, (az_u I_1 69 0 a1), J, R)) rfl hQ
set_option maxRecDepth 100000 in
set_option maxHeartbeats 4000000 in
theorem re_Sh_becomeHeart_71 {ex : az_X} {I : Nat → Nat → Int32} {J : Nat → Nat → Int64} {R : Nat → Nat → Option Nat} {a1 : Int32} {o : (Nat → Nat → Int32)} (h : rs_Sh_becomeHeart 71 I a1 = some o) {Q : Option Value → az_S → Prop} (hQ : Q none (97, o, J, R)) : az_E az_F ex 1 58 0 [.ref 71, .int a1] [] (97, I, J, R) Q := by
  unfold rs_Sh_becomeHeart at h
  refine az_E.sn 1 (pc' := 1) (L' := [.ref 71, .int a1]) (S' := [.ref 71]) (σ' := (97, I, J, R)) rfl ?_
  cases hx_2 : rs_Sh_becomeEmpty 71 I with
  | none => rw [hx_2] at h; cases h
  | some I_1 =>
    rw [hx_2] at h
    dsimp only at h
    refine az_E.call (d := 0) (k' := 57) (vs := [.ref 71]) (pc' := 4) (S' := []) (Q1 := fun v s => v = none ∧ s = (97, I_1, J, R)) rfl (az_E.deep (by omega) (re_Sh_becomeEmpty_71 (J := J) (R := R)  hx_2 ⟨rfl, rfl⟩)) (fun v s hq => ?_)
    obtain ⟨rfl, rfl⟩ := hq
    show az_E az_F ex 1 58 4 [.ref 71, .int a1] [] (97, I_1, J, R) _
    refine az_E.sn 3 (pc' := 9) (L' := [.ref 71, .int a1]) (S' := []) (σ' := (97, (az_u I_1 71 0 a1), J, R)) rfl ?_
    have h := Option.some.inj h
    subst h
    exact az_E.ret (v := none) (σ' := (97, (az_u I_1 71 0 a1), J, R)) rfl hQ
set_option maxRecDepth 100000 in
set_option maxHeartbeats 4000000 in
theorem re_X_keep_36_61 {ex : az_X} {I : Nat → Nat → Int32} {J : Nat → Nat → Int64} {R : Nat → Nat → Option Nat} {x : Int32 × (Nat → Nat → Int32)} (h : rs_X_keep_36 61 I = some x) {Q : Option Value → az_S → Prop} (hQ : Q (some (.int x.1)) (97, x.2, J, R)) : az_E az_F ex 2 124 36 [.retAddr 0, .retAddr 0, .retAddr 0] [.ref 61] (97, I, J, R) Q := by
  unfold rs_X_keep_36 at h
  cases hx_7 : rs_Sh_becomeEmpty 61 I with
  | none => rw [hx_7] at h; cases h
  | some I_6 =>
    rw [hx_7] at h
    dsimp only at h
    refine az_E.call (d := 1) (k' := 57) (vs := [.ref 61]) (pc' := 39) (S' := []) (Q1 := fun v s => v = none ∧ s = (97, I_6, J, R)) rfl (az_E.deep (by omega) (re_Sh_becomeEmpty_61 (J := J) (R := R)  hx_7 ⟨rfl, rfl⟩)) (fun v s hq => ?_)
    obtain ⟨rfl, rfl⟩ := hq
    show az_E az_F ex 2 124 39 [.retAddr 0, .retAddr 0, .retAddr 0] [] (97, I_6, J, R) _
    refine az_E.sn 2 (pc' := 53) (L' := [.retAddr 0, .retAddr 0, .retAddr 0]) (S' := [.int (1 : Int32)]) (σ' := (97, I_6, J, R)) rfl ?_
    have h := Option.some.inj h
    subst h
    exact az_E.ret (v := some (.int (1 : Int32))) (σ' := (97, I_6, J, R)) rfl hQ
set_option maxRecDepth 100000 in
set_option maxHeartbeats 4000000 in
theorem re_X_keep_36_63 {ex : az_X} {I : Nat → Nat → Int32} {J : Nat → Nat → Int64} {R : Nat → Nat → Option Nat} {x : Int32 × (Nat → Nat → Int32)} (h : rs_X_keep_36 63 I = some x) {Q : Option Value → az_S → Prop} (hQ : Q (some (.int x.1)) (97, x.2, J, R)) : az_E az_F ex 2 124 36 [.retAddr 0, .retAddr 0, .retAddr 0] [.ref 63] (97, I, J, R) Q := by
  unfold rs_X_keep_36 at h
  cases hx_9 : rs_Sh_becomeEmpty 63 I with
  | none => rw [hx_9] at h; cases h
  | some I_8 =>
    rw [hx_9] at h
    dsimp only at h
    refine az_E.call (d := 1) (k' := 57) (vs := [.ref 63]) (pc' := 39) (S' := []) (Q1 := fun v s => v = none ∧ s = (97, I_8, J, R)) rfl (az_E.deep (by omega) (re_Sh_becomeEmpty_63 (J := J) (R := R)  hx_9 ⟨rfl, rfl⟩)) (fun v s hq => ?_)
    obtain ⟨rfl, rfl⟩ := hq
    show az_E az_F ex 2 124 39 [.retAddr 0, .retAddr 0, .retAddr 0] [] (97, I_8, J, R) _
    refine az_E.sn 2 (pc' := 53) (L' := [.retAddr 0, .retAddr 0, .retAddr 0]) (S' := [.int (1 : Int32)]) (σ' := (97, I_8, J, R)) rfl ?_
    have h := Option.some.inj h
    subst h
    exact az_E.ret (v := some (.int (1 : Int32))) (σ' := (97, I_8, J, R)) rfl hQ
set_option maxRecDepth 100000 in
set_option maxHeartbeats 4000000 in
theorem re_X_keep_36_65 {ex : az_X} {I : Nat → Nat → Int32} {J : Nat → Nat → Int64} {R : Nat → Nat → Option Nat} {x : Int32 × (Nat → Nat → Int32)} (h : rs_X_keep_36 65 I = some x) {Q : Option Value → az_S → Prop} (hQ : Q (some (.int x.1)) (97, x.2, J, R)) : az_E az_F ex 2 124 36 [.retAddr 0, .retAddr 0, .retAddr 0] [.ref 65] (97, I, J, R) Q := by
  unfold rs_X_keep_36 at h
  cases hx_11 : rs_Sh_becomeEmpty 65 I with
  | none => rw [hx_11] at h; cases h
  | some I_10 =>
    rw [hx_11] at h
    dsimp only at h
    refine az_E.call (d := 1) (k' := 57) (vs := [.ref 65]) (pc' := 39) (S' := []) (Q1 := fun v s => v = none ∧ s = (97, I_10, J, R)) rfl (az_E.deep (by omega) (re_Sh_becomeEmpty_65 (J := J) (R := R)  hx_11 ⟨rfl, rfl⟩)) (fun v s hq => ?_)
    obtain ⟨rfl, rfl⟩ := hq
    show az_E az_F ex 2 124 39 [.retAddr 0, .retAddr 0, .retAddr 0] [] (97, I_10, J, R) _
    refine az_E.sn 2 (pc' := 53) (L' := [.retAddr 0, .retAddr 0, .retAddr 0]) (S' := [.int (1 : Int32)]) (σ' := (97, I_10, J, R)) rfl ?_
    have h := Option.some.inj h
    subst h
    exact az_E.ret (v := some (.int (1 : Int32))) (σ' := (97, I_10, J, R)) rfl hQ
set_option maxRecDepth 100000 in
set_option maxHeartbeats 4000000 in
theorem re_X_keep_36_67 {ex : az_X} {I : Nat → Nat → Int32} {J : Nat → Nat → Int64} {R : Nat → Nat → Option Nat} {x : Int32 × (Nat → Nat → Int32)} (h : rs_X_keep_36 67 I = some x) {Q : Option Value → az_S → Prop} (hQ : Q (some (.int x.1)) (97, x.2, J, R)) : az_E az_F ex 2 124 36 [.retAddr 0, .retAddr 0, .retAddr 0] [.ref 67] (97, I, J, R) Q := by
  unfold rs_X_keep_36 at h
  cases hx_13 : rs_Sh_becomeEmpty 67 I with
  | none => rw [hx_13] at h; cases h
  | some I_12 =>
    rw [hx_13] at h
    dsimp only at h
    refine az_E.call (d := 1) (k' := 57) (vs := [.ref 67]) (pc' := 39) (S' := []) (Q1 := fun v s => v = none ∧ s = (97, I_12, J, R)) rfl (az_E.deep (by omega) (re_Sh_becomeEmpty_67 (J := J) (R := R)  hx_13 ⟨rfl, rfl⟩)) (fun v s hq => ?_)
    obtain ⟨rfl, rfl⟩ := hq
    show az_E az_F ex 2 124 39 [.retAddr 0, .retAddr 0, .retAddr 0] [] (97, I_12, J, R) _
    refine az_E.sn 2 (pc' := 53) (L' := [.retAddr 0, .retAddr 0, .retAddr 0]) (S' := [.int (1 : Int32)]) (σ' := (97, I_12, J, R)) rfl ?_
    have h := Option.some.inj h
    subst h
    exact az_E.ret (v := some (.int (1 : Int32))) (σ' := (97, I_12, J, R)) rfl hQ
set_option maxRecDepth 100000 in
set_option maxHeartbeats 4000000 in
theorem re_X_keep_36_69 {ex : az_X} {I : Nat → Nat → Int32} {J : Nat → Nat → Int64} {R : Nat → Nat → Option Nat} {x : Int32 × (Nat → Nat → Int32)} (h : rs_X_keep_36 69 I = some x) {Q : Option Value → az_S → Prop} (hQ : Q (some (.int x.1)) (97, x.2, J, R)) : az_E az_F ex 2 124 36 [.retAddr 0, .retAddr 0, .retAddr 0] [.ref 69] (97, I, J, R) Q := by
  unfold rs_X_keep_36 at h
  cases hx_15 : rs_Sh_becomeEmpty 69 I with
  | none => rw [hx_15] at h; cases h
  | some I_14 =>
    rw [hx_15] at h
    dsimp only at h
    refine az_E.call (d := 1) (k' := 57) (vs := [.ref 69]) (pc' := 39) (S' := []) (Q1 := fun v s => v = none ∧ s = (97, I_14, J, R)) rfl (az_E.deep (by omega) (re_Sh_becomeEmpty_69 (J := J) (R := R)  hx_15 ⟨rfl, rfl⟩)) (fun v s hq => ?_)
    obtain ⟨rfl, rfl⟩ := hq
    show az_E az_F ex 2 124 39 [.retAddr 0, .retAddr 0, .retAddr 0] [] (97, I_14, J, R) _
    refine az_E.sn 2 (pc' := 53) (L' := [.retAddr 0, .retAddr 0, .retAddr 0]) (S' := [.int (1 : Int32)]) (σ' := (97, I_14, J, R)) rfl ?_
    have h := Option.some.inj h
    subst h
    exact az_E.ret (v := some (.int (1 : Int32))) (σ' := (97, I_14, J, R)) rfl hQ
set_option maxRecDepth 100000 in
set_option maxHeartbeats 4000000 in
theorem re_X_keep_36_71 {ex : az_X} {I : Nat → Nat → Int32} {J : Nat → Nat → Int64} {R : Nat → Nat → Option Nat} {x : Int32 × (Nat → Nat → Int32)} (h : rs_X_keep_36 71 I = some x) {Q : Option Value → az_S → Prop} (hQ : Q (some (.int x.1)) (97, x.2, J, R)) : az_E az_F ex 2 124 36 [.retAddr 0, .retAddr 0, .retAddr 0] [.ref 71] (97, I, J, R) Q := by
  unfold rs_X_keep_36 at h
  cases hx_17 : rs_Sh_becomeEmpty 71 I with
  | none => rw [hx_17] at h; cases h
  | some I_16 =>
    rw [hx_17] at h
    dsimp only at h
    refine az_E.call (d := 1) (k' := 57) (vs := [.ref 71]) (pc' := 39) (S' := []) (Q1 := fun v s => v = none ∧ s = (97, I_16, J, R)) rfl (az_E.deep (by omega) (re_Sh_becomeEmpty_71 (J := J) (R := R)  hx_17 ⟨rfl, rfl⟩)) (fun v s hq => ?_)
    obtain ⟨rfl, rfl⟩ := hq
    show az_E az_F ex 2 124 39 [.retAddr 0, .retAddr 0, .retAddr 0] [] (97, I_16, J, R) _
    refine az_E.sn 2 (pc' := 53) (L' := [.retAddr 0, .retAddr 0, .retAddr 0]) (S' := [.int (1 : Int32)]) (σ' := (97, I_16, J, R)) rfl ?_
    have h := Option.some.inj h
    subst h
    exact az_E.ret (v := some (.int (1 : Int32))) (σ' := (97, I_16, J, R)) rfl hQ
set_option maxRecDepth 100000 in
set_option maxHeartbeats 4000000 in
theorem re_X_keep_48_61 {ex : az_X} {I : Nat → Nat → Int32} {J : Nat → Nat → Int64} {R : Nat → Nat → Option Nat} {v2 : Int32} {x : Int32 × (Nat → Nat → Int32)} (h : rs_X_keep_48 61 I v2 = some x) {Q : Option Value → az_S → Prop} (hQ : Q (some (.int x.1)) (97, x.2, J, R)) : az_E az_F ex 2 124 48 [.retAddr 0, .retAddr 0, .int v2] [.ref 61] (97, I, J, R) Q := by
  unfold rs_X_keep_48 at h
  refine az_E.sn 1 (pc' := 49) (L' := [.retAddr 0, .retAddr 0, .int v2]) (S' := [.int v2, .ref 61]) (σ' := (97, I, J, R)) rfl ?_
  cases hx_20 : rs_Sh_becomeHeart 61 I v2 with
  | none => rw [hx_20] at h; cases h
  | some I_19 =>
    rw [hx_20] at h
    dsimp only at h
    refine az_E.call (d := 1) (k' := 58) (vs := [.ref 61, .int v2]) (pc' := 52) (S' := []) (Q1 := fun v s => v = none ∧ s = (97, I_19, J, R)) rfl (az_E.deep (by omega) (re_Sh_becomeHeart_61 (J := J) (R := R)  hx_20 ⟨rfl, rfl⟩)) (fun v s hq => ?_)
    obtain ⟨rfl, rfl⟩ := hq
    show az_E az_F ex 2 124 52 [.retAddr 0, .retAddr 0, .int v2] [] (97, I_19, J, R) _
    refine az_E.sn 1 (pc' := 53) (L' := [.retAddr 0, .retAddr 0, .int v2]) (S' := [.int (1 : Int32)]) (σ' := (97, I_19, J, R)) rfl ?_
    have h := Option.some.inj h
    subst h
    exact az_E.ret (v := some (.int (1 : Int32))) (σ' := (97, I_19, J, R)) rfl hQ
set_option maxRecDepth 100000 in
set_option maxHeartbeats 4000000 in
theorem re_X_keep_48_63 {ex : az_X} {I : Nat → Nat → Int32} {J : Nat → Nat → Int64} {R : Nat → Nat → Option Nat} {v2 : Int32} {x : Int32 × (Nat → Nat → Int32)} (h : rs_X_keep_48 63 I v2 = some x) {Q : Option Value → az_S → Prop} (hQ : Q (some (.int x.1)) (97, x.2, J, R)) : az_E az_F ex 2 124 48 [.retAddr 0, .retAddr 0, .int v2] [.ref 63] (97, I, J, R) Q := by
  unfold rs_X_keep_48 at h
  refine az_E.sn 1 (pc' := 49) (L' := [.retAddr 0, .retAddr 0, .int v2]) (S' := [.int v2, .ref 63]) (σ' := (97, I, J, R)) rfl ?_
  cases hx_22 : rs_Sh_becomeHeart 63 I v2 with
  | none => rw [hx_22] at h; cases h
  | some I_21 =>
    rw [hx_22] at h
    dsimp only at h
    refine az_E.call (d := 1) (k' := 58) (vs := [.ref 63, .int v2]) (pc' := 52) (S' := []) (Q1 := fun v s => v = none ∧ s = (97, I_21, J, R)) rfl (az_E.deep (by omega) (re_Sh_becomeHeart_63 (J := J) (R := R)  hx_22 ⟨rfl, rfl⟩)) (fun v s hq => ?_)
    obtain ⟨rfl, rfl⟩ := hq
    show az_E az_F ex 2 124 52 [.retAddr 0, .retAddr 0, .int v2] [] (97, I_21, J, R) _
    refine az_E.sn 1 (pc' := 53) (L' := [.retAddr 0, .retAddr 0, .int v2]) (S' := [.int (1 : Int32)]) (σ' := (97, I_21, J, R)) rfl ?_
    have h := Option.some.inj h
    subst h
    exact az_E.ret (v := some (.int (1 : Int32))) (σ' := (97, I_21, J, R)) rfl hQ
set_option maxRecDepth 100000 in
set_option maxHeartbeats 4000000 in
theorem re_X_keep_48_65 {ex : az_X} {I : Nat → Nat → Int32} {J : Nat → Nat → Int64} {R : Nat → Nat → Option Nat} {v2 : Int32} {x : Int32 × (Nat → Nat → Int32)} (h : rs_X_keep_48 65 I v2 = some x) {Q : Option Value → az_S → Prop} (hQ : Q (some (.int x.1)) (97, x.2, J, R)) : az_E az_F ex 2 124 48 [.retAddr 0, .retAddr 0, .int v2] [.ref 65] (97, I, J, R) Q := by
  unfold rs_X_keep_48 at h
  refine az_E.sn 1 (pc' := 49) (L' := [.retAddr 0, .retAddr 0, .int v2]) (S' := [.int v2, .ref 65]) (σ' := (97, I, J, R)) rfl ?_
  cases hx_24 : rs_Sh_becomeHeart 65 I v2 with
  | none => rw [hx_24] at h; cases h
  | some I_23 =>
    rw [hx_24] at h
    dsimp only at h
    refine az_E.call (d := 1) (k' := 58) (vs := [.ref 65, .int v2]) (pc' := 52) (S' := []) (Q1 := fun v s => v = none ∧ s = (97, I_23, J, R)) rfl (az_E.deep (by omega) (re_Sh_becomeHeart_65 (J := J) (R := R)  hx_24 ⟨rfl, rfl⟩)) (fun v s hq => ?_)
    obtain ⟨rfl, rfl⟩ := hq
    show az_E az_F ex 2 124 52 [.retAddr 0, .retAddr 0, .int v2] [] (97, I_23, J, R) _
    refine az_E.sn 1 (pc' := 53) (L' := [.retAddr 0, .retAddr 0, .int v2]) (S' := [.int (1 : Int32)]) (σ' := (97, I_23, J, R)) rfl ?_
    have h := Option.some.inj h
    subst h
    exact az_E.ret (v := some (.int (1 : Int32))) (σ' := (97, I_23, J, R)) rfl hQ
set_option maxRecDepth 100000 in
set_option maxHeartbeats 4000000 in
theorem re_X_keep_48_67 {ex : az_X} {I : Nat → Nat → Int32} {J : Nat → Nat → Int64} {R : Nat → Nat → Option Nat} {v2 : Int32} {x : Int32 × (Nat → Nat → Int32)} (h : rs_X_keep_48 67 I v2 = some x) {Q : Option Value → az_S → Prop} (hQ : Q (some (.int x.1)) (97, x.2, J, R)) : az_E az_F ex 2 124 48 [.retAddr 0, .retAddr 0, .int v2] [.ref 67] (97, I, J, R) Q := by
  unfold rs_X_keep_48 at h
  refine az_E.sn 1 (pc' := 49) (L' := [.retAddr 0, .retAddr 0, .int v2]) (S' := [.int v2, .ref 67]) (σ' := (97, I, J, R)) rfl ?_
  cases hx_26 : rs_Sh_becomeHeart 67 I v2 with
  | none => rw [hx_26] at h; cases h
  | some I_25 =>
    rw [hx_26] at h
    dsimp only at h
    refine az_E.call (d := 1) (k' := 58) (vs := [.ref 67, .int v2]) (pc' := 52) (S' := []) (Q1 := fun v s => v = none ∧ s = (97, I_25, J, R)) rfl (az_E.deep (by omega) (re_Sh_becomeHeart_67 (J := J) (R := R)  hx_26 ⟨rfl, rfl⟩)) (fun v s hq => ?_)
    obtain ⟨rfl, rfl⟩ := hq
    show az_E az_F ex 2 124 52 [.retAddr 0, .retAddr 0, .int v2] [] (97, I_25, J, R) _
    refine az_E.sn 1 (pc' := 53) (L' := [.retAddr 0, .retAddr 0, .int v2]) (S' := [.int (1 : Int32)]) (σ' := (97, I_25, J, R)) rfl ?_
    have h := Option.some.inj h
    subst h
    exact az_E.ret (v := some (.int (1 : Int32))) (σ' := (97, I_25, J, R)) rfl hQ
set_option maxRecDepth 100000 in
set_option maxHeartbeats 4000000 in
theorem re_X_keep_48_69 {ex : az_X} {I : Nat → Nat → Int32} {J : Nat → Nat → Int64} {R : Nat → Nat → Option Nat} {v2 : Int32} {x : Int32 × (Nat → Nat → Int32)} (h : rs_X_keep_48 69 I v2 = some x) {Q : Option Value → az_S → Prop} (hQ : Q (some (.int x.1)) (97, x.2, J, R)) : az_E az_F ex 2 124 48 [.retAddr 0, .retAddr 0, .int v2] [.ref 69] (97, I, J, R) Q := by
  unfold rs_X_keep_48 at h
  refine az_E.sn 1 (pc' := 49) (L' := [.retAddr 0, .retAddr 0, .int v2]) (S' := [.int v2, .ref 69]) (σ' := (97, I, J, R)) rfl ?_
  cases hx_28 : rs_Sh_becomeHeart 69 I v2 with
  | none => rw [hx_28] at h; cases h
  | some I_27 =>
    rw [hx_28] at h
    dsimp only at h
    refine az_E.call (d := 1) (k' := 58) (vs := [.ref 69, .int v2]) (pc' := 52) (S' := []) (Q1 := fun v s => v = none ∧ s = (97, I_27, J, R)) rfl (az_E.deep (by omega) (re_Sh_becomeHeart_69 (J := J) (R := R)  hx_28 ⟨rfl, rfl⟩)) (fun v s hq => ?_)
    obtain ⟨rfl, rfl⟩ := hq
    show az_E az_F ex 2 124 52 [.retAddr 0, .retAddr 0, .int v2] [] (97, I_27, J, R) _
    refine az_E.sn 1 (pc' := 53) (L' := [.retAddr 0, .retAddr 0, .int v2]) (S' := [.int (1 : Int32)]) (σ' := (97, I_27, J, R)) rfl ?_
    have h := Option.some.inj h
    subst h
    exact az_E.ret (v := some (.int (1 : Int32))) (σ' := (97, I_27, J, R)) rfl hQ
set_option maxRecDepth 100000 in
set_option maxHeartbeats 4000000 in
theorem re_X_keep_48_71 {ex : az_X} {I : Nat → Nat → Int32} {J : Nat → Nat → Int64} {R : Nat → Nat → Option Nat} {v2 : Int32} {x : Int32 × (Nat → Nat → Int32)} (h : rs_X_keep_48 71 I v2 = some x) {Q : Option Value → az_S → Prop} (hQ : Q (some (.int x.1)) (97, x.2, J, R)) : az_E az_F ex 2 124 48 [.retAddr 0, .retAddr 0, .int v2] [.ref 71] (97, I, J, R) Q := by
  unfold rs_X_keep_48 at h
  refine az_E.sn 1 (pc' := 49) (L' := [.retAddr 0, .retAddr 0, .int v2]) (S' := [.int v2, .ref 71]) (σ' := (97, I, J, R)) rfl ?_
  cases hx_30 : rs_Sh_becomeHeart 71 I v2 with
  | none => rw [hx_30] at h; cases h
  | some I_29 =>
    rw [hx_30] at h
    dsimp only at h
    refine az_E.call (d := 1) (k' := 58) (vs := [.ref 71, .int v2]) (pc' := 52) (S' := []) (Q1 := fun v s => v = none ∧ s = (97, I_29, J, R)) rfl (az_E.deep (by omega) (re_Sh_becomeHeart_71 (J := J) (R := R)  hx_30 ⟨rfl, rfl⟩)) (fun v s hq => ?_)
    obtain ⟨rfl, rfl⟩ := hq
    show az_E az_F ex 2 124 52 [.retAddr 0, .retAddr 0, .int v2] [] (97, I_29, J, R) _
    refine az_E.sn 1 (pc' := 53) (L' := [.retAddr 0, .retAddr 0, .int v2]) (S' := [.int (1 : Int32)]) (σ' := (97, I_29, J, R)) rfl ?_
    have h := Option.some.inj h
    subst h
    exact az_E.ret (v := some (.int (1 : Int32))) (σ' := (97, I_29, J, R)) rfl hQ
set_option maxRecDepth 100000 in
set_option maxHeartbeats 4000000 in
theorem re_X_keep_25 {ex : az_X} {I : Nat → Nat → Int32} {J : Nat → Nat → Int64} {R : Nat → Nat → Option Nat} {v1 : Int32} {v2 : Int32} {x : Int32 × (Nat → Nat → Int32)} (h : rs_X_keep_25 I v1 v2 = some x) {Q : Option Value → az_S → Prop} (hQ : Q (some (.int x.1)) (97, x.2, J, R)) : az_E az_F ex 2 124 25 [.ref 3, .int v1, .int v2] [] (97, I, J, R) Q := by
  unfold rs_X_keep_25 at h
  refine az_E.sn 2 (pc' := 27) (L' := [.ref 3, .int v1, .int v2]) (S' := [.int (-1 : Int32), .int v2]) (σ' := (97, I, J, R)) rfl ?_
  refine az_E.br (c := v2 = (-1 : Int32)) (tt := 30) (ff := 42) (L' := [.ref 3, .int v1, .int v2]) (S' := []) (σ' := (97, I, J, R)) rfl (fun hc_4 => ?_) (fun hc_4 => ?_)
  · rw [if_pos hc_4] at h
    refine az_E.sn 3 (pc' := 35) (L' := [.ref 3, .int v1, .int v2]) (S' := [.int v1, .ref 58]) (σ' := (97, I, J, R)) rfl ?_
    by_cases hc_5 : v1 < 0 ∨ 6 ≤ v1.toNatClampNeg
    · rw [if_pos hc_5] at h; cases h
    · rw [if_neg hc_5] at h
      rcases az_six hc_5 with ehc_5 | ehc_5 | ehc_5 | ehc_5 | ehc_5 | ehc_5
      · rw [ehc_5] at h ⊢; (try rw [ehc_5] at hQ)
        refine az_E.ov (pc' := 36) (L' := [.ref 3, .int (0 : Int32), .int v2]) (S' := []) (σ' := (97, I, J, R)) (x := .ref 61) (o := az_aa az_F (97, I, J, R) 58 (0 : Int32)) rfl rfl ?_
        exact az_E.forget (L := [.retAddr 0, .retAddr 0, .retAddr 0]) ⟨trivial, trivial, trivial, trivial⟩ (re_X_keep_36_61 (I := I) (J := J) (R := R)  h hQ)
      · rw [ehc_5] at h ⊢; (try rw [ehc_5] at hQ)
        refine az_E.ov (pc' := 36) (L' := [.ref 3, .int (1 : Int32), .int v2]) (S' := []) (σ' := (97, I, J, R)) (x := .ref 63) (o := az_aa az_F (97, I, J, R) 58 (1 : Int32)) rfl rfl ?_
        exact az_E.forget (L := [.retAddr 0, .retAddr 0, .retAddr 0]) ⟨trivial, trivial, trivial, trivial⟩ (re_X_keep_36_63 (I := I) (J := J) (R := R)  h hQ)
      · rw [ehc_5] at h ⊢; (try rw [ehc_5] at hQ)
        refine az_E.ov (pc' := 36) (L' := [.ref 3, .int (2 : Int32), .int v2]) (S' := []) (σ' := (97, I, J, R)) (x := .ref 65) (o := az_aa az_F (97, I, J, R) 58 (2 : Int32)) rfl rfl ?_
        exact az_E.forget (L := [.retAddr 0, .retAddr 0, .retAddr 0]) ⟨trivial, trivial, trivial, trivial⟩ (re_X_keep_36_65 (I := I) (J := J) (R := R)  h hQ)
      · rw [ehc_5] at h ⊢; (try rw [ehc_5] at hQ)
        refine az_E.ov (pc' := 36) (L' := [.ref 3, .int (3 : Int32), .int v2]) (S' := []) (σ' := (97, I, J, R)) (x := .ref 67) (o := az_aa az_F (97, I, J, R) 58 (3 : Int32)) rfl rfl ?_
        exact az_E.forget (L := [.retAddr 0, .retAddr 0, .retAddr 0]) ⟨trivial, trivial, trivial, trivial⟩ (re_X_keep_36_67 (I := I) (J := J) (R := R)  h hQ)
      · rw [ehc_5] at h ⊢; (try rw [ehc_5] at hQ)
        refine az_E.ov (pc' := 36) (L' := [.ref 3, .int (4 : Int32), .int v2]) (S' := []) (σ' := (97, I, J, R)) (x := .ref 69) (o := az_aa az_F (97, I, J, R) 58 (4 : Int32)) rfl rfl ?_
        exact az_E.forget (L := [.retAddr 0, .retAddr 0, .retAddr 0]) ⟨trivial, trivial, trivial, trivial⟩ (re_X_keep_36_69 (I := I) (J := J) (R := R)  h hQ)
      · rw [ehc_5] at h ⊢; (try rw [ehc_5] at hQ)
        refine az_E.ov (pc' := 36) (L' := [.ref 3, .int (5 : Int32), .int v2]) (S' := []) (σ' := (97, I, J, R)) (x := .ref 71) (o := az_aa az_F (97, I, J, R) 58 (5 : Int32)) rfl rfl ?_
        exact az_E.forget (L := [.retAddr 0, .retAddr 0, .retAddr 0]) ⟨trivial, trivial, trivial, trivial⟩ (re_X_keep_36_71 (I := I) (J := J) (R := R)  h hQ)
  · rw [if_neg hc_4] at h
    refine az_E.sn 3 (pc' := 47) (L' := [.ref 3, .int v1, .int v2]) (S' := [.int v1, .ref 58]) (σ' := (97, I, J, R)) rfl ?_
    by_cases hc_18 : v1 < 0 ∨ 6 ≤ v1.toNatClampNeg
    · rw [if_pos hc_18] at h; cases h
    · rw [if_neg hc_18] at h
      rcases az_six hc_18 with ehc_18 | ehc_18 | ehc_18 | ehc_18 | ehc_18 | ehc_18
      · rw [ehc_18] at h ⊢; (try rw [ehc_18] at hQ)
        refine az_E.ov (pc' := 48) (L' := [.ref 3, .int (0 : Int32), .int v2]) (S' := []) (σ' := (97, I, J, R)) (x := .ref 61) (o := az_aa az_F (97, I, J, R) 58 (0 : Int32)) rfl rfl ?_
        exact az_E.forget (L := [.retAddr 0, .retAddr 0, .int v2]) ⟨trivial, trivial, rfl, trivial⟩ (re_X_keep_48_61 (I := I) (J := J) (R := R)  h hQ)
      · rw [ehc_18] at h ⊢; (try rw [ehc_18] at hQ)
        refine az_E.ov (pc' := 48) (L' := [.ref 3, .int (1 : Int32), .int v2]) (S' := []) (σ' := (97, I, J, R)) (x := .ref 63) (o := az_aa az_F (97, I, J, R) 58 (1 : Int32)) rfl rfl ?_
        exact az_E.forget (L := [.retAddr 0, .retAddr 0, .int v2]) ⟨trivial, trivial, rfl, trivial⟩ (re_X_keep_48_63 (I := I) (J := J) (R := R)  h hQ)
      · rw [ehc_18] at h ⊢; (try rw [ehc_18] at hQ)
        refine az_E.ov (pc' := 48) (L' := [.ref 3, .int (2 : Int32), .int v2]) (S' := []) (σ' := (97, I, J, R)) (x := .ref 65) (o := az_aa az_F (97, I, J, R) 58 (2 : Int32)) rfl rfl ?_
        exact az_E.forget (L := [.retAddr 0, .retAddr 0, .int v2]) ⟨trivial, trivial, rfl, trivial⟩ (re_X_keep_48_65 (I := I) (J := J) (R := R)  h hQ)
      · rw [ehc_18] at h ⊢; (try rw [ehc_18] at hQ)
        refine az_E.ov (pc' := 48) (L' := [.ref 3, .int (3 : Int32), .int v2]) (S' := []) (σ' := (97, I, J, R)) (x := .ref 67) (o := az_aa az_F (97, I, J, R) 58 (3 : Int32)) rfl rfl ?_
        exact az_E.forget (L := [.retAddr 0, .retAddr 0, .int v2]) ⟨trivial, trivial, rfl, trivial⟩ (re_X_keep_48_67 (I := I) (J := J) (R := R)  h hQ)
      · rw [ehc_18] at h ⊢; (try rw [ehc_18] at hQ)
        refine az_E.ov (pc' := 48) (L' := [.ref 3, .int (4 : Int32), .int v2]) (S' := []) (σ' := (97, I, J, R)) (x := .ref 69) (o := az_aa az_F (97, I, J, R) 58 (4 : Int32)) rfl rfl ?_
        exact az_E.forget (L := [.retAddr 0, .retAddr 0, .int v2]) ⟨trivial, trivial, rfl, trivial⟩ (re_X_keep_48_69 (I := I) (J := J) (R := R)  h hQ)
      · rw [ehc_18] at h ⊢; (try rw [ehc_18] at hQ)
        refine az_E.ov (pc' := 48) (L' := [.ref 3, .int (5 : Int32), .int v2]) (S' := []) (σ' := (97, I, J, R)) (x := .ref 71) (o := az_aa az_F (97, I, J, R) 58 (5 : Int32)) rfl rfl ?_
        exact az_E.forget (L := [.retAddr 0, .retAddr 0, .int v2]) ⟨trivial, trivial, rfl, trivial⟩ (re_X_keep_48_71 (I := I) (J := J) (R := R)  h hQ)
set_option maxRecDepth 100000 in
set_option maxHeartbeats 4000000 in
theorem re_X_keep {ex : az_X} {I : Nat → Nat → Int32} {J : Nat → Nat → Int64} {R : Nat → Nat → Option Nat} {a1 : Int32} {a2 : Int32} {o : Int32 × (Nat → Nat → Int32)} (h : rs_X_keep I a1 a2 = some o) {Q : Option Value → az_S → Prop} (hQ : Q (some (.int o.1)) (97, o.2, J, R)) : az_E az_F ex 2 124 0 [.ref 3, .int a1, .int a2] [] (97, I, J, R) Q := by
  unfold rs_X_keep at h
  refine az_E.sn 1 (pc' := 1) (L' := [.ref 3, .int a1, .int a2]) (S' := [.int a1]) (σ' := (97, I, J, R)) rfl ?_
  refine az_E.call (d := 1) (k' := 137) (vs := [.int a1]) (pc' := 4) (S' := []) rfl ?_ (fun _ _ hq => hq)
  show az_E az_F ex 1 137 0 [.int a1] [] (97, I, J, R) _
  refine az_E.sn 3 (pc' := 3) (L' := [.int a1]) (S' := [.int (5 : Int32), .int (0 : Int32), .int a1]) (σ' := (97, I, J, R)) rfl ?_
  refine az_E.call (d := 0) (k' := 131) (vs := [.int a1, .int (0 : Int32), .int (5 : Int32)]) (pc' := 6) (S' := []) rfl ?_ (fun _ _ hq => hq)
  show az_E az_F ex 0 131 0 [.int a1, .int (0 : Int32), .int (5 : Int32)] [] (97, I, J, R) _
  refine az_E.sn 2 (pc' := 2) (L' := [.int a1, .int (0 : Int32), .int (5 : Int32)]) (S' := [.int (0 : Int32), .int a1]) (σ' := (97, I, J, R)) rfl ?_
  refine az_E.br (c := a1 < (0 : Int32)) (tt := 14) (ff := 5) (L' := [.int a1, .int (0 : Int32), .int (5 : Int32)]) (S' := []) (σ' := (97, I, J, R)) rfl (fun hc_1 => ?_) (fun hc_1 => ?_)
  · rw [if_pos hc_1] at h
    refine az_E.sn 1 (pc' := 15) (L' := [.int a1, .int (0 : Int32), .int (5 : Int32)]) (S' := [.int (0 : Int32)]) (σ' := (97, I, J, R)) rfl ?_
    refine az_E.ret (v := some (.int (0 : Int32))) (σ' := (97, I, J, R)) rfl ?_
    show az_E az_F ex 1 137 6 [.int a1] [.int (0 : Int32)] (97, I, J, R) _
    refine az_E.ret (v := some (.int (0 : Int32))) (σ' := (97, I, J, R)) rfl ?_
    show az_E az_F ex 2 124 4 [.ref 3, .int a1, .int a2] [.int (0 : Int32)] (97, I, J, R) _
    refine az_E.br (c := (0 : Int32) = 0) (tt := 23) (ff := 7) (L' := [.ref 3, .int a1, .int a2]) (S' := []) (σ' := (97, I, J, R)) rfl (fun _ => ?_) (fun hn => absurd (by decide) hn)
    refine az_E.sn 1 (pc' := 24) (L' := [.ref 3, .int a1, .int a2]) (S' := [.int (-1 : Int32)]) (σ' := (97, I, J, R)) rfl ?_
    have h := Option.some.inj h
    subst h
    exact az_E.ret (v := some (.int (-1 : Int32))) (σ' := (97, I, J, R)) rfl hQ
  · rw [if_neg hc_1] at h
    refine az_E.sn 2 (pc' := 7) (L' := [.int a1, .int (0 : Int32), .int (5 : Int32)]) (S' := [.int (5 : Int32), .int a1]) (σ' := (97, I, J, R)) rfl ?_
    refine az_E.br (c := (5 : Int32) < a1) (tt := 14) (ff := 10) (L' := [.int a1, .int (0 : Int32), .int (5 : Int32)]) (S' := []) (σ' := (97, I, J, R)) rfl (fun hc_2 => ?_) (fun hc_2 => ?_)
    · rw [if_pos hc_2] at h
      refine az_E.sn 1 (pc' := 15) (L' := [.int a1, .int (0 : Int32), .int (5 : Int32)]) (S' := [.int (0 : Int32)]) (σ' := (97, I, J, R)) rfl ?_
      refine az_E.ret (v := some (.int (0 : Int32))) (σ' := (97, I, J, R)) rfl ?_
      show az_E az_F ex 1 137 6 [.int a1] [.int (0 : Int32)] (97, I, J, R) _
      refine az_E.ret (v := some (.int (0 : Int32))) (σ' := (97, I, J, R)) rfl ?_
      show az_E az_F ex 2 124 4 [.ref 3, .int a1, .int a2] [.int (0 : Int32)] (97, I, J, R) _
      refine az_E.br (c := (0 : Int32) = 0) (tt := 23) (ff := 7) (L' := [.ref 3, .int a1, .int a2]) (S' := []) (σ' := (97, I, J, R)) rfl (fun _ => ?_) (fun hn => absurd (by decide) hn)
      refine az_E.sn 1 (pc' := 24) (L' := [.ref 3, .int a1, .int a2]) (S' := [.int (-1 : Int32)]) (σ' := (97, I, J, R)) rfl ?_
      have h := Option.some.inj h
      subst h
      exact az_E.ret (v := some (.int (-1 : Int32))) (σ' := (97, I, J, R)) rfl hQ
    · rw [if_neg hc_2] at h
      refine az_E.sn 2 (pc' := 15) (L' := [.int a1, .int (0 : Int32), .int (5 : Int32)]) (S' := [.int (1 : Int32)]) (σ' := (97, I, J, R)) rfl ?_
      refine az_E.ret (v := some (.int (1 : Int32))) (σ' := (97, I, J, R)) rfl ?_
      show az_E az_F ex 1 137 6 [.int a1] [.int (1 : Int32)] (97, I, J, R) _
      refine az_E.ret (v := some (.int (1 : Int32))) (σ' := (97, I, J, R)) rfl ?_
      show az_E az_F ex 2 124 4 [.ref 3, .int a1, .int a2] [.int (1 : Int32)] (97, I, J, R) _
      refine az_E.br (c := (1 : Int32) = 0) (tt := 23) (ff := 7) (L' := [.ref 3, .int a1, .int a2]) (S' := []) (σ' := (97, I, J, R)) rfl (fun hn => absurd hn (by decide)) (fun _ => ?_)
      refine az_E.sn 2 (pc' := 9) (L' := [.ref 3, .int a1, .int a2]) (S' := [.int (-1 : Int32), .int a2]) (σ' := (97, I, J, R)) rfl ?_
      refine az_E.br (c := a2 = (-1 : Int32)) (tt := 25) (ff := 12) (L' := [.ref 3, .int a1, .int a2]) (S' := []) (σ' := (97, I, J, R)) rfl (fun hc_3 => ?_) (fun hc_3 => ?_)
      · rw [if_pos hc_3] at h
        exact az_E.forget (L := [.ref 3, .int a1, .int a2]) ⟨rfl, rfl, rfl, trivial⟩ (re_X_keep_25 (I := I) (J := J) (R := R)  h hQ)
      · rw [if_neg hc_3] at h
        refine az_E.sn 3 (pc' := 17) (L' := [.ref 3, .int a1, .int a2]) (S' := [.int a2, .ref 55]) (σ' := (97, I, J, R)) rfl ?_
        refine az_E.call (d := 1) (k' := 2) (vs := [.ref 55, .int a2]) (pc' := 20) (S' := []) rfl ?_ (fun _ _ hq => hq)
        show az_E az_F ex 1 2 0 [.ref 55, .int a2] [] (97, I, J, R) _
        refine az_E.sn 6 (pc' := 8) (L' := [.ref 55, .int a2]) (S' := [.int ((I 55 1) - (1 : Int32)), .int (0 : Int32), .int a2]) (σ' := (97, I, J, R)) rfl ?_
        refine az_E.call (d := 0) (k' := 131) (vs := [.int a2, .int (0 : Int32), .int ((I 55 1) - (1 : Int32))]) (pc' := 11) (S' := []) rfl ?_ (fun _ _ hq => hq)
        show az_E az_F ex 0 131 0 [.int a2, .int (0 : Int32), .int ((I 55 1) - (1 : Int32))] [] (97, I, J, R) _
        refine az_E.sn 2 (pc' := 2) (L' := [.int a2, .int (0 : Int32), .int ((I 55 1) - (1 : Int32))]) (S' := [.int (0 : Int32), .int a2]) (σ' := (97, I, J, R)) rfl ?_
        refine az_E.br (c := a2 < (0 : Int32)) (tt := 14) (ff := 5) (L' := [.int a2, .int (0 : Int32), .int ((I 55 1) - (1 : Int32))]) (S' := []) (σ' := (97, I, J, R)) rfl (fun hc_31 => ?_) (fun hc_31 => ?_)
        · rw [if_pos hc_31] at h
          refine az_E.sn 1 (pc' := 15) (L' := [.int a2, .int (0 : Int32), .int ((I 55 1) - (1 : Int32))]) (S' := [.int (0 : Int32)]) (σ' := (97, I, J, R)) rfl ?_
          refine az_E.ret (v := some (.int (0 : Int32))) (σ' := (97, I, J, R)) rfl ?_
          show az_E az_F ex 1 2 11 [.ref 55, .int a2] [.int (0 : Int32)] (97, I, J, R) _
          refine az_E.ret (v := some (.int (0 : Int32))) (σ' := (97, I, J, R)) rfl ?_
          show az_E az_F ex 2 124 20 [.ref 3, .int a1, .int a2] [.int (0 : Int32)] (97, I, J, R) _
          refine az_E.br (c := (0 : Int32) = 0) (tt := 23) (ff := 25) (L' := [.ref 3, .int a1, .int a2]) (S' := []) (σ' := (97, I, J, R)) rfl (fun _ => ?_) (fun hn => absurd (by decide) hn)
          refine az_E.sn 1 (pc' := 24) (L' := [.ref 3, .int a1, .int a2]) (S' := [.int (-1 : Int32)]) (σ' := (97, I, J, R)) rfl ?_
          have h := Option.some.inj h
          subst h
          exact az_E.ret (v := some (.int (-1 : Int32))) (σ' := (97, I, J, R)) rfl hQ
        · rw [if_neg hc_31] at h
          refine az_E.sn 2 (pc' := 7) (L' := [.int a2, .int (0 : Int32), .int ((I 55 1) - (1 : Int32))]) (S' := [.int ((I 55 1) - (1 : Int32)), .int a2]) (σ' := (97, I, J, R)) rfl ?_
          refine az_E.br (c := ((I 55 1) - (1 : Int32)) < a2) (tt := 14) (ff := 10) (L' := [.int a2, .int (0 : Int32), .int ((I 55 1) - (1 : Int32))]) (S' := []) (σ' := (97, I, J, R)) rfl (fun hc_32 => ?_) (fun hc_32 => ?_)
          · rw [if_pos hc_32] at h
            refine az_E.sn 1 (pc' := 15) (L' := [.int a2, .int (0 : Int32), .int ((I 55 1) - (1 : Int32))]) (S' := [.int (0 : Int32)]) (σ' := (97, I, J, R)) rfl ?_
            refine az_E.ret (v := some (.int (0 : Int32))) (σ' := (97, I, J, R)) rfl ?_
            show az_E az_F ex 1 2 11 [.ref 55, .int a2] [.int (0 : Int32)] (97, I, J, R) _
            refine az_E.ret (v := some (.int (0 : Int32))) (σ' := (97, I, J, R)) rfl ?_
            show az_E az_F ex 2 124 20 [.ref 3, .int a1, .int a2] [.int (0 : Int32)] (97, I, J, R) _
            refine az_E.br (c := (0 : Int32) = 0) (tt := 23) (ff := 25) (L' := [.ref 3, .int a1, .int a2]) (S' := []) (σ' := (97, I, J, R)) rfl (fun _ => ?_) (fun hn => absurd (by decide) hn)
            refine az_E.sn 1 (pc' := 24) (L' := [.ref 3, .int a1, .int a2]) (S' := [.int (-1 : Int32)]) (σ' := (97, I, J, R)) rfl ?_
            have h := Option.some.inj h
            subst h
            exact az_E.ret (v := some (.int (-1 : Int32))) (σ' := (97, I, J, R)) rfl hQ
          · rw [if_neg hc_32] at h
            refine az_E.sn 2 (pc' := 15) (L' := [.int a2, .int (0 : Int32), .int ((I 55 1) - (1 : Int32))]) (S' := [.int (1 : Int32)]) (σ' := (97, I, J, R)) rfl ?_
            refine az_E.ret (v := some (.int (1 : Int32))) (σ' := (97, I, J, R)) rfl ?_
            show az_E az_F ex 1 2 11 [.ref 55, .int a2] [.int (1 : Int32)] (97, I, J, R) _
            refine az_E.ret (v := some (.int (1 : Int32))) (σ' := (97, I, J, R)) rfl ?_
            show az_E az_F ex 2 124 20 [.ref 3, .int a1, .int a2] [.int (1 : Int32)] (97, I, J, R) _
            refine az_E.br (c := (1 : Int32) = 0) (tt := 23) (ff := 25) (L' := [.ref 3, .int a1, .int a2]) (S' := []) (σ' := (97, I, J, R)) rfl (fun hn => absurd hn (by decide)) (fun _ => ?_)
            exact az_E.forget (L := [.ref 3, .int a1, .int a2]) ⟨rfl, rfl, rfl, trivial⟩ (re_X_keep_25 (I := I) (J := J) (R := R)  h hQ)
set_option maxRecDepth 100000 in
set_option maxHeartbeats 4000000 in
theorem re_M_keep_22 {ex : az_X} {I : Nat → Nat → Int32} {J : Nat → Nat → Int64} {R : Nat → Nat → Option Nat} {v1 : Int32} {v2 : Int32} {x : Int32 × (Nat → Nat → Int32)} (h : rs_M_keep_22 I v1 v2 = some x) {Q : Option Value → az_S → Prop} (hQ : Q (some (.int x.1)) (97, x.2, J, R)) : az_E az_F ex 2 246 22 [.ref 73, .int v1, .int v2] [] (97, I, J, R) Q := by
  unfold rs_M_keep_22 at h
  refine az_E.sn 4 (pc' := 28) (L' := [.ref 73, .int v1, .int v2]) (S' := [.int v2, .int v1, .ref 96]) (σ' := (97, I, J, R)) rfl ?_
  by_cases hc_4 : v1 < 0 ∨ 6 ≤ v1.toNatClampNeg
  · rw [if_pos hc_4] at h; cases h
  · rw [if_neg hc_4] at h
    refine az_E.o (o := az_si az_F (97, I, J, R) 96 v1 v2) (pc' := 29) (L' := [.ref 73, .int v1, .int v2]) (S' := []) (x := (97, (az_u I 96 v1.toNatClampNeg v2), J, R)) rfl (if_neg hc_4) ?_
    refine az_E.sn 4 (pc' := 35) (L' := [.ref 73, .int v1, .int v2]) (S' := [.int (0 : Int32), .int v1, .ref 97]) (σ' := (97, (az_u I 96 v1.toNatClampNeg v2), J, R)) rfl ?_
    by_cases hc_5 : v1 < 0 ∨ 6 ≤ v1.toNatClampNeg
    · rw [if_pos hc_5] at h; cases h
    · rw [if_neg hc_5] at h
      refine az_E.o (o := az_si az_F (97, (az_u I 96 v1.toNatClampNeg v2), J, R) 97 v1 (0 : Int32)) (pc' := 36) (L' := [.ref 73, .int v1, .int v2]) (S' := []) (x := (97, (az_u (az_u I 96 v1.toNatClampNeg v2) 97 v1.toNatClampNeg (0 : Int32)), J, R)) rfl (if_neg hc_5) ?_
      refine az_E.sn 1 (pc' := 37) (L' := [.ref 73, .int v1, .int v2]) (S' := [.int (1 : Int32)]) (σ' := (97, (az_u (az_u I 96 v1.toNatClampNeg v2) 97 v1.toNatClampNeg (0 : Int32)), J, R)) rfl ?_
      have h := Option.some.inj h
      subst h
      exact az_E.ret (v := some (.int (1 : Int32))) (σ' := (97, (az_u (az_u I 96 v1.toNatClampNeg v2) 97 v1.toNatClampNeg (0 : Int32)), J, R)) rfl hQ
set_option maxRecDepth 100000 in
set_option maxHeartbeats 4000000 in
theorem re_M_keep {ex : az_X} {I : Nat → Nat → Int32} {J : Nat → Nat → Int64} {R : Nat → Nat → Option Nat} {a1 : Int32} {a2 : Int32} {o : Int32 × (Nat → Nat → Int32)} (h : rs_M_keep I a1 a2 = some o) {Q : Option Value → az_S → Prop} (hQ : Q (some (.int o.1)) (97, o.2, J, R)) : az_E az_F ex 2 246 0 [.ref 73, .int a1, .int a2] [] (97, I, J, R) Q := by
  unfold rs_M_keep at h
  refine az_E.sn 1 (pc' := 1) (L' := [.ref 73, .int a1, .int a2]) (S' := [.int a1]) (σ' := (97, I, J, R)) rfl ?_
  refine az_E.call (d := 1) (k' := 245) (vs := [.int a1]) (pc' := 4) (S' := []) rfl ?_ (fun _ _ hq => hq)
  show az_E az_F ex 1 245 0 [.int a1] [] (97, I, J, R) _
  refine az_E.sn 4 (pc' := 6) (L' := [.int a1]) (S' := [.long (5 : Int64), .long (0 : Int64), .long a1.toInt64]) (σ' := (97, I, J, R)) rfl ?_
  refine az_E.call (d := 0) (k' := 154) (vs := [.long a1.toInt64, .long (0 : Int64), .long (5 : Int64)]) (pc' := 9) (S' := []) rfl ?_ (fun _ _ hq => hq)
  show az_E az_F ex 0 154 0 [.long a1.toInt64, .retAddr 0, .long (0 : Int64), .retAddr 0, .long (5 : Int64), .retAddr 0] [] (97, I, J, R) _
  refine az_E.sn 3 (pc' := 3) (L' := [.long a1.toInt64, .retAddr 0, .long (0 : Int64), .retAddr 0, .long (5 : Int64), .retAddr 0]) (S' := [.int (lg_cmp a1.toInt64 (0 : Int64))]) (σ' := (97, I, J, R)) rfl ?_
  refine az_E.br (c := (lg_cmp a1.toInt64 (0 : Int64)) < 0) (tt := 17) (ff := 6) (L' := [.long a1.toInt64, .retAddr 0, .long (0 : Int64), .retAddr 0, .long (5 : Int64), .retAddr 0]) (S' := []) (σ' := (97, I, J, R)) rfl (fun hc_1 => ?_) (fun hc_1 => ?_)
  · rw [if_pos hc_1] at h
    refine az_E.sn 1 (pc' := 18) (L' := [.long a1.toInt64, .retAddr 0, .long (0 : Int64), .retAddr 0, .long (5 : Int64), .retAddr 0]) (S' := [.int (0 : Int32)]) (σ' := (97, I, J, R)) rfl ?_
    refine az_E.ret (v := some (.int (0 : Int32))) (σ' := (97, I, J, R)) rfl ?_
    show az_E az_F ex 1 245 9 [.int a1] [.int (0 : Int32)] (97, I, J, R) _
    refine az_E.ret (v := some (.int (0 : Int32))) (σ' := (97, I, J, R)) rfl ?_
    show az_E az_F ex 2 246 4 [.ref 73, .int a1, .int a2] [.int (0 : Int32)] (97, I, J, R) _
    refine az_E.br (c := (0 : Int32) = 0) (tt := 20) (ff := 7) (L' := [.ref 73, .int a1, .int a2]) (S' := []) (σ' := (97, I, J, R)) rfl (fun _ => ?_) (fun hn => absurd (by decide) hn)
    refine az_E.sn 1 (pc' := 21) (L' := [.ref 73, .int a1, .int a2]) (S' := [.int (-1 : Int32)]) (σ' := (97, I, J, R)) rfl ?_
    have h := Option.some.inj h
    subst h
    exact az_E.ret (v := some (.int (-1 : Int32))) (σ' := (97, I, J, R)) rfl hQ
  · rw [if_neg hc_1] at h
    refine az_E.sn 3 (pc' := 10) (L' := [.long a1.toInt64, .retAddr 0, .long (0 : Int64), .retAddr 0, .long (5 : Int64), .retAddr 0]) (S' := [.int (lg_cmp a1.toInt64 (5 : Int64))]) (σ' := (97, I, J, R)) rfl ?_
    refine az_E.br (c := 0 < (lg_cmp a1.toInt64 (5 : Int64))) (tt := 17) (ff := 13) (L' := [.long a1.toInt64, .retAddr 0, .long (0 : Int64), .retAddr 0, .long (5 : Int64), .retAddr 0]) (S' := []) (σ' := (97, I, J, R)) rfl (fun hc_2 => ?_) (fun hc_2 => ?_)
    · rw [if_pos hc_2] at h
      refine az_E.sn 1 (pc' := 18) (L' := [.long a1.toInt64, .retAddr 0, .long (0 : Int64), .retAddr 0, .long (5 : Int64), .retAddr 0]) (S' := [.int (0 : Int32)]) (σ' := (97, I, J, R)) rfl ?_
      refine az_E.ret (v := some (.int (0 : Int32))) (σ' := (97, I, J, R)) rfl ?_
      show az_E az_F ex 1 245 9 [.int a1] [.int (0 : Int32)] (97, I, J, R) _
      refine az_E.ret (v := some (.int (0 : Int32))) (σ' := (97, I, J, R)) rfl ?_
      show az_E az_F ex 2 246 4 [.ref 73, .int a1, .int a2] [.int (0 : Int32)] (97, I, J, R) _
      refine az_E.br (c := (0 : Int32) = 0) (tt := 20) (ff := 7) (L' := [.ref 73, .int a1, .int a2]) (S' := []) (σ' := (97, I, J, R)) rfl (fun _ => ?_) (fun hn => absurd (by decide) hn)
      refine az_E.sn 1 (pc' := 21) (L' := [.ref 73, .int a1, .int a2]) (S' := [.int (-1 : Int32)]) (σ' := (97, I, J, R)) rfl ?_
      have h := Option.some.inj h
      subst h
      exact az_E.ret (v := some (.int (-1 : Int32))) (σ' := (97, I, J, R)) rfl hQ
    · rw [if_neg hc_2] at h
      refine az_E.sn 2 (pc' := 18) (L' := [.long a1.toInt64, .retAddr 0, .long (0 : Int64), .retAddr 0, .long (5 : Int64), .retAddr 0]) (S' := [.int (1 : Int32)]) (σ' := (97, I, J, R)) rfl ?_
      refine az_E.ret (v := some (.int (1 : Int32))) (σ' := (97, I, J, R)) rfl ?_
      show az_E az_F ex 1 245 9 [.int a1] [.int (1 : Int32)] (97, I, J, R) _
      refine az_E.ret (v := some (.int (1 : Int32))) (σ' := (97, I, J, R)) rfl ?_
      show az_E az_F ex 2 246 4 [.ref 73, .int a1, .int a2] [.int (1 : Int32)] (97, I, J, R) _
      refine az_E.br (c := (1 : Int32) = 0) (tt := 20) (ff := 7) (L' := [.ref 73, .int a1, .int a2]) (S' := []) (σ' := (97, I, J, R)) rfl (fun hn => absurd hn (by decide)) (fun _ => ?_)
      refine az_E.sn 2 (pc' := 9) (L' := [.ref 73, .int a1, .int a2]) (S' := [.int (-1 : Int32), .int a2]) (σ' := (97, I, J, R)) rfl ?_
      refine az_E.br (c := a2 = (-1 : Int32)) (tt := 22) (ff := 12) (L' := [.ref 73, .int a1, .int a2]) (S' := []) (σ' := (97, I, J, R)) rfl (fun hc_3 => ?_) (fun hc_3 => ?_)
      · rw [if_pos hc_3] at h
        exact az_E.forget (L := [.ref 73, .int a1, .int a2]) ⟨rfl, rfl, rfl, trivial⟩ (re_M_keep_22 (I := I) (J := J) (R := R)  h hQ)
      · rw [if_neg hc_3] at h
        refine az_E.sn 2 (pc' := 14) (L' := [.ref 73, .int a1, .int a2]) (S' := [.int a2, .ref 73]) (σ' := (97, I, J, R)) rfl ?_
        refine az_E.call (d := 1) (k' := 234) (vs := [.ref 73, .int a2]) (pc' := 17) (S' := []) rfl ?_ (fun _ _ hq => hq)
        show az_E az_F ex 1 234 0 [.ref 73, .int a2] [] (97, I, J, R) _
        refine az_E.sn 8 (pc' := 10) (L' := [.ref 73, .int a2]) (S' := [.long ((I 73 33) - (1 : Int32)).toInt64, .long (0 : Int64), .long a2.toInt64]) (σ' := (97, I, J, R)) rfl ?_
        refine az_E.call (d := 0) (k' := 154) (vs := [.long a2.toInt64, .long (0 : Int64), .long ((I 73 33) - (1 : Int32)).toInt64]) (pc' := 13) (S' := []) rfl ?_ (fun _ _ hq => hq)
        show az_E az_F ex 0 154 0 [.long a2.toInt64, .retAddr 0, .long (0 : Int64), .retAddr 0, .long ((I 73 33) - (1 : Int32)).toInt64, .retAddr 0] [] (97, I, J, R) _
        refine az_E.sn 3 (pc' := 3) (L' := [.long a2.toInt64, .retAddr 0, .long (0 : Int64), .retAddr 0, .long ((I 73 33) - (1 : Int32)).toInt64, .retAddr 0]) (S' := [.int (lg_cmp a2.toInt64 (0 : Int64))]) (σ' := (97, I, J, R)) rfl ?_
        refine az_E.br (c := (lg_cmp a2.toInt64 (0 : Int64)) < 0) (tt := 17) (ff := 6) (L' := [.long a2.toInt64, .retAddr 0, .long (0 : Int64), .retAddr 0, .long ((I 73 33) - (1 : Int32)).toInt64, .retAddr 0]) (S' := []) (σ' := (97, I, J, R)) rfl (fun hc_6 => ?_) (fun hc_6 => ?_)
        · rw [if_pos hc_6] at h
          refine az_E.sn 1 (pc' := 18) (L' := [.long a2.toInt64, .retAddr 0, .long (0 : Int64), .retAddr 0, .long ((I 73 33) - (1 : Int32)).toInt64, .retAddr 0]) (S' := [.int (0 : Int32)]) (σ' := (97, I, J, R)) rfl ?_
          refine az_E.ret (v := some (.int (0 : Int32))) (σ' := (97, I, J, R)) rfl ?_
          show az_E az_F ex 1 234 13 [.ref 73, .int a2] [.int (0 : Int32)] (97, I, J, R) _
          refine az_E.ret (v := some (.int (0 : Int32))) (σ' := (97, I, J, R)) rfl ?_
          show az_E az_F ex 2 246 17 [.ref 73, .int a1, .int a2] [.int (0 : Int32)] (97, I, J, R) _
          refine az_E.br (c := (0 : Int32) = 0) (tt := 20) (ff := 22) (L' := [.ref 73, .int a1, .int a2]) (S' := []) (σ' := (97, I, J, R)) rfl (fun _ => ?_) (fun hn => absurd (by decide) hn)
          refine az_E.sn 1 (pc' := 21) (L' := [.ref 73, .int a1, .int a2]) (S' := [.int (-1 : Int32)]) (σ' := (97, I, J, R)) rfl ?_
          have h := Option.some.inj h
          subst h
          exact az_E.ret (v := some (.int (-1 : Int32))) (σ' := (97, I, J, R)) rfl hQ
        · rw [if_neg hc_6] at h
          refine az_E.sn 3 (pc' := 10) (L' := [.long a2.toInt64, .retAddr 0, .long (0 : Int64), .retAddr 0, .long ((I 73 33) - (1 : Int32)).toInt64, .retAddr 0]) (S' := [.int (lg_cmp a2.toInt64 ((I 73 33) - (1 : Int32)).toInt64)]) (σ' := (97, I, J, R)) rfl ?_
          refine az_E.br (c := 0 < (lg_cmp a2.toInt64 ((I 73 33) - (1 : Int32)).toInt64)) (tt := 17) (ff := 13) (L' := [.long a2.toInt64, .retAddr 0, .long (0 : Int64), .retAddr 0, .long ((I 73 33) - (1 : Int32)).toInt64, .retAddr 0]) (S' := []) (σ' := (97, I, J, R)) rfl (fun hc_7 => ?_) (fun hc_7 => ?_)
          · rw [if_pos hc_7] at h
            refine az_E.sn 1 (pc' := 18) (L' := [.long a2.toInt64, .retAddr 0, .long (0 : Int64), .retAddr 0, .long ((I 73 33) - (1 : Int32)).toInt64, .retAddr 0]) (S' := [.int (0 : Int32)]) (σ' := (97, I, J, R)) rfl ?_
            refine az_E.ret (v := some (.int (0 : Int32))) (σ' := (97, I, J, R)) rfl ?_
            show az_E az_F ex 1 234 13 [.ref 73, .int a2] [.int (0 : Int32)] (97, I, J, R) _
            refine az_E.ret (v := some (.int (0 : Int32))) (σ' := (97, I, J, R)) rfl ?_
            show az_E az_F ex 2 246 17 [.ref 73, .int a1, .int a2] [.int (0 : Int32)] (97, I, J, R) _
            refine az_E.br (c := (0 : Int32) = 0) (tt := 20) (ff := 22) (L' := [.ref 73, .int a1, .int a2]) (S' := []) (σ' := (97, I, J, R)) rfl (fun _ => ?_) (fun hn => absurd (by decide) hn)
            refine az_E.sn 1 (pc' := 21) (L' := [.ref 73, .int a1, .int a2]) (S' := [.int (-1 : Int32)]) (σ' := (97, I, J, R)) rfl ?_
            have h := Option.some.inj h
            subst h
            exact az_E.ret (v := some (.int (-1 : Int32))) (σ' := (97, I, J, R)) rfl hQ
          · rw [if_neg hc_7] at h
            refine az_E.sn 2 (pc' := 18) (L' := [.long a2.toInt64, .retAddr 0, .long (0 : Int64), .retAddr 0, .long ((I 73 33) - (1 : Int32)).toInt64, .retAddr 0]) (S' := [.int (1 : Int32)]) (σ' := (97, I, J, R)) rfl ?_
            refine az_E.ret (v := some (.int (1 : Int32))) (σ' := (97, I, J, R)) rfl ?_
            show az_E az_F ex 1 234 13 [.ref 73, .int a2] [.int (1 : Int32)] (97, I, J, R) _
            refine az_E.ret (v := some (.int (1 : Int32))) (σ' := (97, I, J, R)) rfl ?_
            show az_E az_F ex 2 246 17 [.ref 73, .int a1, .int a2] [.int (1 : Int32)] (97, I, J, R) _
            refine az_E.br (c := (1 : Int32) = 0) (tt := 20) (ff := 22) (L' := [.ref 73, .int a1, .int a2]) (S' := []) (σ' := (97, I, J, R)) rfl (fun hn => absurd hn (by decide)) (fun _ => ?_)
            exact az_E.forget (L := [.ref 73, .int a1, .int a2]) ⟨rfl, rfl, rfl, trivial⟩ (re_M_keep_22 (I := I) (J := J) (R := R)  h hQ)
set_option maxRecDepth 100000 in
set_option maxHeartbeats 4000000 in
theorem re_Sh_becomeRow_61 {ex : az_X} {I : Nat → Nat → Int32} {J : Nat → Nat → Int64} {R : Nat → Nat → Option Nat} {a1 : Int32} {a2 : Int32} {o : (Nat → Nat → Int32) × (Nat → Nat → Int64)} (h : rs_Sh_becomeRow 61 I J a1 a2 = some o) {Q : Option Value → az_S → Prop} (hQ : Q none (97, o.1, o.2, R)) : az_E az_F ex 1 59 0 [.ref 61, .int a1, .int a2] [] (97, I, J, R) Q := by
  unfold rs_Sh_becomeRow at h
  refine az_E.sn 1 (pc' := 1) (L' := [.ref 61, .int a1, .int a2]) (S' := [.ref 61]) (σ' := (97, I, J, R)) rfl ?_
  cases hx_2 : rs_Sh_becomeEmpty 61 I with
  | none => rw [hx_2] at h; cases h
  | some I_1 =>
    rw [hx_2] at h
    dsimp only at h
    refine az_E.call (d := 0) (k' := 57) (vs := [.ref 61]) (pc' := 4) (S' := []) (Q1 := fun v s => v = none ∧ s = (97, I_1, J, R)) rfl (az_E.deep (by omega) (re_Sh_becomeEmpty_61 (J := J) (R := R)  hx_2 ⟨rfl, rfl⟩)) (fun v s hq => ?_)
    obtain ⟨rfl, rfl⟩ := hq
    show az_E az_F ex 1 59 4 [.ref 61, .int a1, .int a2] [] (97, I_1, J, R) _
    refine az_E.sn 13 (pc' := 28) (L' := [.ref 61, .int a1, .int a2]) (S' := [.long (0 : Int64), .ref (61 + 1)]) (σ' := (97, (az_u (az_u I_1 61 1 a1) 61 2 (if (0 : Int32) < (if (60 : Int32) < a2 then (60 : Int32) else a2) then (if (60 : Int32) < a2 then (60 : Int32) else a2) else (0 : Int32))), J, R)) rfl ?_
    refine az_E.call (d := 0) (k' := 256) (vs := [.ref (61 + 1), .long (0 : Int64)]) (pc' := 31) (S' := []) (Q1 := fun v s => v = none ∧ s = (97, (az_u (az_u I_1 61 1 a1) 61 2 (if (0 : Int32) < (if (60 : Int32) < a2 then (60 : Int32) else a2) then (if (60 : Int32) < a2 then (60 : Int32) else a2) else (0 : Int32))), (az_ur J (61 + 1) (az_fill 60 (0 : Int64) (J (61 + 1)))), R)) rfl (az_E.deep (by omega) (re_fillJ (r := (61 + 1)) rfl ⟨rfl, rfl⟩)) (fun v s hq => ?_)
    obtain ⟨rfl, rfl⟩ := hq
    show az_E az_F ex 1 59 31 [.ref 61, .int a1, .int a2] [] (97, (az_u (az_u I_1 61 1 a1) 61 2 (if (0 : Int32) < (if (60 : Int32) < a2 then (60 : Int32) else a2) then (if (60 : Int32) < a2 then (60 : Int32) else a2) else (0 : Int32))), (az_ur J (61 + 1) (az_fill 60 (0 : Int64) (J (61 + 1)))), R) _
    have h := Option.some.inj h
    subst h
    exact az_E.ret (v := none) (σ' := (97, (az_u (az_u I_1 61 1 a1) 61 2 (if (0 : Int32) < (if (60 : Int32) < a2 then (60 : Int32) else a2) then (if (60 : Int32) < a2 then (60 : Int32) else a2) else (0 : Int32))), (az_ur J (61 + 1) (az_fill 60 (0 : Int64) (J (61 + 1)))), R)) rfl hQ
set_option maxRecDepth 100000 in
set_option maxHeartbeats 4000000 in
theorem re_Sh_becomeRow_63 {ex : az_X} {I : Nat → Nat → Int32} {J : Nat → Nat → Int64} {R : Nat → Nat → Option Nat} {a1 : Int32} {a2 : Int32} {o : (Nat → Nat → Int32) × (Nat → Nat → Int64)} (h : rs_Sh_becomeRow 63 I J a1 a2 = some o) {Q : Option Value → az_S → Prop} (hQ : Q none (97, o.1, o.2, R)) : az_E az_F ex 1 59 0 [.ref 63, .int a1, .int a2] [] (97, I, J, R) Q := by
  unfold rs_Sh_becomeRow at h
  refine az_E.sn 1 (pc' := 1) (L' := [.ref 63, .int a1, .int a2]) (S' := [.ref 63]) (σ' := (97, I, J, R)) rfl ?_
  cases hx_2 : rs_Sh_becomeEmpty 63 I with
  | none => rw [hx_2] at h; cases h
  | some I_1 =>
    rw [hx_2] at h
    dsimp only at h
    refine az_E.call (d := 0) (k' := 57) (vs := [.ref 63]) (pc' := 4) (S' := []) (Q1 := fun v s => v = none ∧ s = (97, I_1, J, R)) rfl (az_E.deep (by omega) (re_Sh_becomeEmpty_63 (J := J) (R := R)  hx_2 ⟨rfl, rfl⟩)) (fun v s hq => ?_)
    obtain ⟨rfl, rfl⟩ := hq
    show az_E az_F ex 1 59 4 [.ref 63, .int a1, .int a2] [] (97, I_1, J, R) _
    refine az_E.sn 13 (pc' := 28) (L' := [.ref 63, .int a1, .int a2]) (S' := [.long (0 : Int64), .ref (63 + 1)]) (σ' := (97, (az_u (az_u I_1 63 1 a1) 63 2 (if (0 : Int32) < (if (60 : Int32) < a2 then (60 : Int32) else a2) then (if (60 : Int32) < a2 then (60 : Int32) else a2) else (0 : Int32))), J, R)) rfl ?_
    refine az_E.call (d := 0) (k' := 256) (vs := [.ref (63 + 1), .long (0 : Int64)]) (pc' := 31) (S' := []) (Q1 := fun v s => v = none ∧ s = (97, (az_u (az_u I_1 63 1 a1) 63 2 (if (0 : Int32) < (if (60 : Int32) < a2 then (60 : Int32) else a2) then (if (60 : Int32) < a2 then (60 : Int32) else a2) else (0 : Int32))), (az_ur J (63 + 1) (az_fill 60 (0 : Int64) (J (63 + 1)))), R)) rfl (az_E.deep (by omega) (re_fillJ (r := (63 + 1)) rfl ⟨rfl, rfl⟩)) (fun v s hq => ?_)
    obtain ⟨rfl, rfl⟩ := hq
    show az_E az_F ex 1 59 31 [.ref 63, .int a1, .int a2] [] (97, (az_u (az_u I_1 63 1 a1) 63 2 (if (0 : Int32) < (if (60 : Int32) < a2 then (60 : Int32) else a2) then (if (60 : Int32) < a2 then (60 : Int32) else a2) else (0 : Int32))), (az_ur J (63 + 1) (az_fill 60 (0 : Int64) (J (63 + 1)))), R) _
    have h := Option.some.inj h
    subst h
    exact az_E.ret (v := none) (σ' := (97, (az_u (az_u I_1 63 1 a1) 63 2 (if (0 : Int32) < (if (60 : Int32) < a2 then (60 : Int32) else a2) then (if (60 : Int32) < a2 then (60 : Int32) else a2) else (0 : Int32))), (az_ur J (63 + 1) (az_fill 60 (0 : Int64) (J (63 + 1)))), R)) rfl hQ
set_option maxRecDepth 100000 in
set_option maxHeartbeats 4000000 in
theorem re_Sh_becomeRow_65 {ex : az_X} {I : Nat → Nat → Int32} {J : Nat → Nat → Int64} {R : Nat → Nat → Option Nat} {a1 : Int32} {a2 : Int32} {o : (Nat → Nat → Int32) × (Nat → Nat → Int64)} (h : rs_Sh_becomeRow 65 I J a1 a2 = some o) {Q : Option Value → az_S → Prop} (hQ : Q none (97, o.1, o.2, R)) : az_E az_F ex 1 59 0 [.ref 65, .int a1, .int a2] [] (97, I, J, R) Q := by
  unfold rs_Sh_becomeRow at h
  refine az_E.sn 1 (pc' := 1) (L' := [.ref 65, .int a1, .int a2]) (S' := [.ref 65]) (σ' := (97, I, J, R)) rfl ?_
  cases hx_2 : rs_Sh_becomeEmpty 65 I with
  | none => rw [hx_2] at h; cases h
  | some I_1 =>
    rw [hx_2] at h
    dsimp only at h
    refine az_E.call (d := 0) (k' := 57) (vs := [.ref 65]) (pc' := 4) (S' := []) (Q1 := fun v s => v = none ∧ s = (97, I_1, J, R)) rfl (az_E.deep (by omega) (re_Sh_becomeEmpty_65 (J := J) (R := R)  hx_2 ⟨rfl, rfl⟩)) (fun v s hq => ?_)
    obtain ⟨rfl, rfl⟩ := hq
    show az_E az_F ex 1 59 4 [.ref 65, .int a1, .int a2] [] (97, I_1, J, R) _
    refine az_E.sn 13 (pc' := 28) (L' := [.ref 65, .int a1, .int a2]) (S' := [.long (0 : Int64), .ref (65 + 1)]) (σ' := (97, (az_u (az_u I_1 65 1 a1) 65 2 (if (0 : Int32) < (if (60 : Int32) < a2 then (60 : Int32) else a2) then (if (60 : Int32) < a2 then (60 : Int32) else a2) else (0 : Int32))), J, R)) rfl ?_
    refine az_E.call (d := 0) (k' := 256) (vs := [.ref (65 + 1), .long (0 : Int64)]) (pc' := 31) (S' := []) (Q1 := fun v s => v = none ∧ s = (97, (az_u (az_u I_1 65 1 a1) 65 2 (if (0 : Int32) < (if (60 : Int32) < a2 then (60 : Int32) else a2) then (if (60 : Int32) < a2 then (60 : Int32) else a2) else (0 : Int32))), (az_ur J (65 + 1) (az_fill 60 (0 : Int64) (J (65 + 1)))), R)) rfl (az_E.deep (by omega) (re_fillJ (r := (65 + 1)) rfl ⟨rfl, rfl⟩)) (fun v s hq => ?_)
    obtain ⟨rfl, rfl⟩ := hq
    show az_E az_F ex 1 59 31 [.ref 65, .int a1, .int a2] [] (97, (az_u (az_u I_1 65 1 a1) 65 2 (if (0 : Int32) < (if (60 : Int32) < a2 then (60 : Int32) else a2) then (if (60 : Int32) < a2 then (60 : Int32) else a2) else (0 : Int32))), (az_ur J (65 + 1) (az_fill 60 (0 : Int64) (J (65 + 1)))), R) _
    have h := Option.some.inj h
    subst h
    exact az_E.ret (v := none) (σ' := (97, (az_u (az_u I_1 65 1 a1) 65 2 (if (0 : Int32) < (if (60 : Int32) < a2 then (60 : Int32) else a2) then (if (60 : Int32) < a2 then (60 : Int32) else a2) else (0 : Int32))), (az_ur J (65 + 1) (az_fill 60 (0 : Int64) (J (65 + 1)))), R)) rfl hQ
set_option maxRecDepth 100000 in
set_option maxHeartbeats 4000000 in
theorem re_Sh_becomeRow_67 {ex : az_X} {I : Nat → Nat → Int32} {J : Nat → Nat → Int64} {R : Nat → Nat → Option Nat} {a1 : Int32} {a2 : Int32} {o : (Nat → Nat → Int32) × (Nat → Nat → Int64)} (h : rs_Sh_becomeRow 67 I J a1 a2 = some o) {Q : Option Value → az_S → Prop} (hQ : Q none (97, o.1, o.2, R)) : az_E az_F ex 1 59 0 [.ref 67, .int a1, .int a2] [] (97, I, J, R) Q := by
  unfold rs_Sh_becomeRow at h
  refine az_E.sn 1 (pc' := 1) (L' := [.ref 67, .int a1, .int a2]) (S' := [.ref 67]) (σ' := (97, I, J, R)) rfl ?_
  cases hx_2 : rs_Sh_becomeEmpty 67 I with
  | none => rw [hx_2] at h; cases h
  | some I_1 =>
    rw [hx_2] at h
    dsimp only at h
    refine az_E.call (d := 0) (k' := 57) (vs := [.ref 67]) (pc' := 4) (S' := []) (Q1 := fun v s => v = none ∧ s = (97, I_1, J, R)) rfl (az_E.deep (by omega) (re_Sh_becomeEmpty_67 (J := J) (R := R)  hx_2 ⟨rfl, rfl⟩)) (fun v s hq => ?_)
    obtain ⟨rfl, rfl⟩ := hq
    show az_E az_F ex 1 59 4 [.ref 67, .int a1, .int a2] [] (97, I_1, J, R) _
    refine az_E.sn 13 (pc' := 28) (L' := [.ref 67, .int a1, .int a2]) (S' := [.long (0 : Int64), .ref (67 + 1)]) (σ' := (97, (az_u (az_u I_1 67 1 a1) 67 2 (if (0 : Int32) < (if (60 : Int32) < a2 then (60 : Int32) else a2) then (if (60 : Int32) < a2 then (60 : Int32) else a2) else (0 : Int32))), J, R)) rfl ?_
    refine az_E.call (d := 0) (k' := 256) (vs := [.ref (67 + 1), .long (0 : Int64)]) (pc' := 31) (S' := []) (Q1 := fun v s => v = none ∧ s = (97, (az_u (az_u I_1 67 1 a1) 67 2 (if (0 : Int32) < (if (60 : Int32) < a2 then (60 : Int32) else a2) then (if (60 : Int32) < a2 then (60 : Int32) else a2) else (0 : Int32))), (az_ur J (67 + 1) (az_fill 60 (0 : Int64) (J (67 + 1)))), R)) rfl (az_E.deep (by omega) (re_fillJ (r := (67 + 1)) rfl ⟨rfl, rfl⟩)) (fun v s hq => ?_)
    obtain ⟨rfl, rfl⟩ := hq
    show az_E az_F ex 1 59 31 [.ref 67, .int a1, .int a2] [] (97, (az_u (az_u I_1 67 1 a1) 67 2 (if (0 : Int32) < (if (60 : Int32) < a2 then (60 : Int32) else a2) then (if (60 : Int32) < a2 then (60 : Int32) else a2) else (0 : Int32))), (az_ur J (67 + 1) (az_fill 60 (0 : Int64) (J (67 + 1)))), R) _
    have h := Option.some.inj h
    subst h
    exact az_E.ret (v := none) (σ' := (97, (az_u (az_u I_1 67 1 a1) 67 2 (if (0 : Int32) < (if (60 : Int32) < a2 then (60 : Int32) else a2) then (if (60 : Int32) < a2 then (60 : Int32) else a2) else (0 : Int32))), (az_ur J (67 + 1) (az_fill 60 (0 : Int64) (J (67 + 1)))), R)) rfl hQ
set_option maxRecDepth 100000 in
set_option maxHeartbeats 4000000 in
theorem re_Sh_becomeRow_69 {ex : az_X} {I : Nat → Nat → Int32} {J : Nat → Nat → Int64} {R : Nat → Nat → Option Nat} {a1 : Int32} {a2 : Int32} {o : (Nat → Nat → Int32) × (Nat → Nat → Int64)} (h : rs_Sh_becomeRow 69 I J a1 a2 = some o) {Q : Option Value → az_S → Prop} (hQ : Q none (97, o.1, o.2, R)) : az_E az_F ex 1 59 0 [.ref 69, .int a1, .int a2] [] (97, I, J, R) Q := by
  unfold rs_Sh_becomeRow at h
  refine az_E.sn 1 (pc' := 1) (L' := [.ref 69, .int a1, .int a2]) (S' := [.ref 69]) (σ' := (97, I, J, R)) rfl ?_
  cases hx_2 : rs_Sh_becomeEmpty 69 I with
  | none => rw [hx_2] at h; cases h
  | some I_1 =>
    rw [hx_2] at h
    dsimp only at h
    refine az_E.call (d := 0) (k' := 57) (vs := [.ref 69]) (pc' := 4) (S' := []) (Q1 := fun v s => v = none ∧ s = (97, I_1, J, R)) rfl (az_E.deep (by omega) (re_Sh_becomeEmpty_69 (J := J) (R := R)  hx_2 ⟨rfl, rfl⟩)) (fun v s hq => ?_)
    obtain ⟨rfl, rfl⟩ := hq
    show az_E az_F ex 1 59 4 [.ref 69, .int a1, .int a2] [] (97, I_1, J, R) _
    refine az_E.sn 13 (pc' := 28) (L' := [.ref 69, .int a1, .int a2]) (S' := [.long (0 : Int64), .ref (69 + 1)]) (σ' := (97, (az_u (az_u I_1 69 1 a1) 69 2 (if (0 : Int32) < (if (60 : Int32) < a2 then (60 : Int32) else a2) then (if (60 : Int32) < a2 then (60 : Int32) else a2) else (0 : Int32))), J, R)) rfl ?_
    refine az_E.call (d := 0) (k' := 256) (vs := [.ref (69 + 1), .long (0 : Int64)]) (pc' := 31) (S' := []) (Q1 := fun v s => v = none ∧ s = (97, (az_u (az_u I_1 69 1 a1) 69 2 (if (0 : Int32) < (if (60 : Int32) < a2 then (60 : Int32) else a2) then (if (60 : Int32) < a2 then (60 : Int32) else a2) else (0 : Int32))), (az_ur J (69 + 1) (az_fill 60 (0 : Int64) (J (69 + 1)))), R)) rfl (az_E.deep (by omega) (re_fillJ (r := (69 + 1)) rfl ⟨rfl, rfl⟩)) (fun v s hq => ?_)
    obtain ⟨rfl, rfl⟩ := hq
    show az_E az_F ex 1 59 31 [.ref 69, .int a1, .int a2] [] (97, (az_u (az_u I_1 69 1 a1) 69 2 (if (0 : Int32) < (if (60 : Int32) < a2 then (60 : Int32) else a2) then (if (60 : Int32) < a2 then (60 : Int32) else a2) else (0 : Int32))), (az_ur J (69 + 1) (az_fill 60 (0 : Int64) (J (69 + 1)))), R) _
    have h := Option.some.inj h
    subst h
    exact az_E.ret (v := none) (σ' := (97, (az_u (az_u I_1 69 1 a1) 69 2 (if (0 : Int32) < (if (60 : Int32) < a2 then (60 : Int32) else a2) then (if (60 : Int32) < a2 then (60 : Int32) else a2) else (0 : Int32))), (az_ur J (69 + 1) (az_fill 60 (0 : Int64) (J (69 + 1)))), R)) rfl hQ
set_option maxRecDepth 100000 in
set_option maxHeartbeats 4000000 in
theorem re_Sh_becomeRow_71 {ex : az_X} {I : Nat → Nat → Int32} {J : Nat → Nat → Int64} {R : Nat → Nat → Option Nat} {a1 : Int32} {a2 : Int32} {o : (Nat → Nat → Int32) × (Nat → Nat → Int64)} (h : rs_Sh_becomeRow 71 I J a1 a2 = some o) {Q : Option Value → az_S → Prop} (hQ : Q none (97, o.1, o.2, R)) : az_E az_F ex 1 59 0 [.ref 71, .int a1, .int a2] [] (97, I, J, R) Q := by
  unfold rs_Sh_becomeRow at h
  refine az_E.sn 1 (pc' := 1) (L' := [.ref 71, .int a1, .int a2]) (S' := [.ref 71]) (σ' := (97, I, J, R)) rfl ?_
  cases hx_2 : rs_Sh_becomeEmpty 71 I with
  | none => rw [hx_2] at h; cases h
  | some I_1 =>
    rw [hx_2] at h
    dsimp only at h
    refine az_E.call (d := 0) (k' := 57) (vs := [.ref 71]) (pc' := 4) (S' := []) (Q1 := fun v s => v = none ∧ s = (97, I_1, J, R)) rfl (az_E.deep (by omega) (re_Sh_becomeEmpty_71 (J := J) (R := R)  hx_2 ⟨rfl, rfl⟩)) (fun v s hq => ?_)
    obtain ⟨rfl, rfl⟩ := hq
    show az_E az_F ex 1 59 4 [.ref 71, .int a1, .int a2] [] (97, I_1, J, R) _
    refine az_E.sn 13 (pc' := 28) (L' := [.ref 71, .int a1, .int a2]) (S' := [.long (0 : Int64), .ref (71 + 1)]) (σ' := (97, (az_u (az_u I_1 71 1 a1) 71 2 (if (0 : Int32) < (if (60 : Int32) < a2 then (60 : Int32) else a2) then (if (60 : Int32) < a2 then (60 : Int32) else a2) else (0 : Int32))), J, R)) rfl ?_
    refine az_E.call (d := 0) (k' := 256) (vs := [.ref (71 + 1), .long (0 : Int64)]) (pc' := 31) (S' := []) (Q1 := fun v s => v = none ∧ s = (97, (az_u (az_u I_1 71 1 a1) 71 2 (if (0 : Int32) < (if (60 : Int32) < a2 then (60 : Int32) else a2) then (if (60 : Int32) < a2 then (60 : Int32) else a2) else (0 : Int32))), (az_ur J (71 + 1) (az_fill 60 (0 : Int64) (J (71 + 1)))), R)) rfl (az_E.deep (by omega) (re_fillJ (r := (71 + 1)) rfl ⟨rfl, rfl⟩)) (fun v s hq => ?_)
    obtain ⟨rfl, rfl⟩ := hq
    show az_E az_F ex 1 59 31 [.ref 71, .int a1, .int a2] [] (97, (az_u (az_u I_1 71 1 a1) 71 2 (if (0 : Int32) < (if (60 : Int32) < a2 then (60 : Int32) else a2) then (if (60 : Int32) < a2 then (60 : Int32) else a2) else (0 : Int32))), (az_ur J (71 + 1) (az_fill 60 (0 : Int64) (J (71 + 1)))), R) _
    have h := Option.some.inj h
    subst h
    exact az_E.ret (v := none) (σ' := (97, (az_u (az_u I_1 71 1 a1) 71 2 (if (0 : Int32) < (if (60 : Int32) < a2 then (60 : Int32) else a2) then (if (60 : Int32) < a2 then (60 : Int32) else a2) else (0 : Int32))), (az_ur J (71 + 1) (az_fill 60 (0 : Int64) (J (71 + 1)))), R)) rfl hQ
set_option maxRecDepth 100000 in
set_option maxHeartbeats 4000000 in
theorem re_X_row_37_61 {ex : az_X} {I : Nat → Nat → Int32} {J : Nat → Nat → Int64} {R : Nat → Nat → Option Nat} {v2 : Int32} {v3 : Int32} {x : Int32 × (Nat → Nat → Int32) × (Nat → Nat → Int64)} (h : rs_X_row_37 61 I J v2 v3 = some x) {Q : Option Value → az_S → Prop} (hQ : Q (some (.int x.1)) (97, x.2.1, x.2.2, R)) : az_E az_F ex 2 125 37 [.retAddr 0, .retAddr 0, .int v2, .int v3] [.ref 61] (97, I, J, R) Q := by
  unfold rs_X_row_37 at h
  refine az_E.sn 2 (pc' := 39) (L' := [.retAddr 0, .retAddr 0, .int v2, .int v3]) (S' := [.int v3, .int v2, .ref 61]) (σ' := (97, I, J, R)) rfl ?_
  cases hx_10 : rs_Sh_becomeRow 61 I J v2 v3 with
  | none => rw [hx_10] at h; cases h
  | some o =>
    rw [hx_10] at h
    obtain ⟨I_8, J_9⟩ := o
    dsimp only at h
    refine az_E.call (d := 1) (k' := 59) (vs := [.ref 61, .int v2, .int v3]) (pc' := 42) (S' := []) (Q1 := fun v s => v = none ∧ s = (97, I_8, J_9, R)) rfl (az_E.deep (by omega) (re_Sh_becomeRow_61 (J := J) (R := R)  hx_10 ⟨rfl, rfl⟩)) (fun v s hq => ?_)
    obtain ⟨rfl, rfl⟩ := hq
    show az_E az_F ex 2 125 42 [.retAddr 0, .retAddr 0, .int v2, .int v3] [] (97, I_8, J_9, R) _
    refine az_E.sn 1 (pc' := 43) (L' := [.retAddr 0, .retAddr 0, .int v2, .int v3]) (S' := [.int (1 : Int32)]) (σ' := (97, I_8, J_9, R)) rfl ?_
    have h := Option.some.inj h
    subst h
    exact az_E.ret (v := some (.int (1 : Int32))) (σ' := (97, I_8, J_9, R)) rfl hQ
set_option maxRecDepth 100000 in
set_option maxHeartbeats 4000000 in
theorem re_X_row_37_63 {ex : az_X} {I : Nat → Nat → Int32} {J : Nat → Nat → Int64} {R : Nat → Nat → Option Nat} {v2 : Int32} {v3 : Int32} {x : Int32 × (Nat → Nat → Int32) × (Nat → Nat → Int64)} (h : rs_X_row_37 63 I J v2 v3 = some x) {Q : Option Value → az_S → Prop} (hQ : Q (some (.int x.1)) (97, x.2.1, x.2.2, R)) : az_E az_F ex 2 125 37 [.retAddr 0, .retAddr 0, .int v2, .int v3] [.ref 63] (97, I, J, R) Q := by
  unfold rs_X_row_37 at h
  refine az_E.sn 2 (pc' := 39) (L' := [.retAddr 0, .retAddr 0, .int v2, .int v3]) (S' := [.int v3, .int v2, .ref 63]) (σ' := (97, I, J, R)) rfl ?_
  cases hx_13 : rs_Sh_becomeRow 63 I J v2 v3 with
  | none => rw [hx_13] at h; cases h
  | some o =>
    rw [hx_13] at h
    obtain ⟨I_11, J_12⟩ := o
    dsimp only at h
    refine az_E.call (d := 1) (k' := 59) (vs := [.ref 63, .int v2, .int v3]) (pc' := 42) (S' := []) (Q1 := fun v s => v = none ∧ s = (97, I_11, J_12, R)) rfl (az_E.deep (by omega) (re_Sh_becomeRow_63 (J := J) (R := R)  hx_13 ⟨rfl, rfl⟩)) (fun v s hq => ?_)
    obtain ⟨rfl, rfl⟩ := hq
    show az_E az_F ex 2 125 42 [.retAddr 0, .retAddr 0, .int v2, .int v3] [] (97, I_11, J_12, R) _
    refine az_E.sn 1 (pc' := 43) (L' := [.retAddr 0, .retAddr 0, .int v2, .int v3]) (S' := [.int (1 : Int32)]) (σ' := (97, I_11, J_12, R)) rfl ?_
    have h := Option.some.inj h
    subst h
    exact az_E.ret (v := some (.int (1 : Int32))) (σ' := (97, I_11, J_12, R)) rfl hQ
set_option maxRecDepth 100000 in
set_option maxHeartbeats 4000000 in
theorem re_X_row_37_65 {ex : az_X} {I : Nat → Nat → Int32} {J : Nat → Nat → Int64} {R : Nat → Nat → Option Nat} {v2 : Int32} {v3 : Int32} {x : Int32 × (Nat → Nat → Int32) × (Nat → Nat → Int64)} (h : rs_X_row_37 65 I J v2 v3 = some x) {Q : Option Value → az_S → Prop} (hQ : Q (some (.int x.1)) (97, x.2.1, x.2.2, R)) : az_E az_F ex 2 125 37 [.retAddr 0, .retAddr 0, .int v2, .int v3] [.ref 65] (97, I, J, R) Q := by
  unfold rs_X_row_37 at h
  refine az_E.sn 2 (pc' := 39) (L' := [.retAddr 0, .retAddr 0, .int v2, .int v3]) (S' := [.int v3, .int v2, .ref 65]) (σ' := (97, I, J, R)) rfl ?_
  cases hx_16 : rs_Sh_becomeRow 65 I J v2 v3 with
  | none => rw [hx_16] at h; cases h
  | some o =>
    rw [hx_16] at h
    obtain ⟨I_14, J_15⟩ := o
    dsimp only at h
    refine az_E.call (d := 1) (k' := 59) (vs := [.ref 65, .int v2, .int v3]) (pc' := 42) (S' := []) (Q1 := fun v s => v = none ∧ s = (97, I_14, J_15, R)) rfl (az_E.deep (by omega) (re_Sh_becomeRow_65 (J := J) (R := R)  hx_16 ⟨rfl, rfl⟩)) (fun v s hq => ?_)
    obtain ⟨rfl, rfl⟩ := hq
    show az_E az_F ex 2 125 42 [.retAddr 0, .retAddr 0, .int v2, .int v3] [] (97, I_14, J_15, R) _
    refine az_E.sn 1 (pc' := 43) (L' := [.retAddr 0, .retAddr 0, .int v2, .int v3]) (S' := [.int (1 : Int32)]) (σ' := (97, I_14, J_15, R)) rfl ?_
    have h := Option.some.inj h
    subst h
    exact az_E.ret (v := some (.int (1 : Int32))) (σ' := (97, I_14, J_15, R)) rfl hQ
set_option maxRecDepth 100000 in
set_option maxHeartbeats 4000000 in
theorem re_X_row_37_67 {ex : az_X} {I : Nat → Nat → Int32} {J : Nat → Nat → Int64} {R : Nat → Nat → Option Nat} {v2 : Int32} {v3 : Int32} {x : Int32 × (Nat → Nat → Int32) × (Nat → Nat → Int64)} (h : rs_X_row_37 67 I J v2 v3 = some x) {Q : Option Value → az_S → Prop} (hQ : Q (some (.int x.1)) (97, x.2.1, x.2.2, R)) : az_E az_F ex 2 125 37 [.retAddr 0, .retAddr 0, .int v2, .int v3] [.ref 67] (97, I, J, R) Q := by
  unfold rs_X_row_37 at h
  refine az_E.sn 2 (pc' := 39) (L' := [.retAddr 0, .retAddr 0, .int v2, .int v3]) (S' := [.int v3, .int v2, .ref 67]) (σ' := (97, I, J, R)) rfl ?_
  cases hx_19 : rs_Sh_becomeRow 67 I J v2 v3 with
  | none => rw [hx_19] at h; cases h
  | some o =>
    rw [hx_19] at h
    obtain ⟨I_17, J_18⟩ := o
    dsimp only at h
    refine az_E.call (d := 1) (k' := 59) (vs := [.ref 67, .int v2, .int v3]) (pc' := 42) (S' := []) (Q1 := fun v s => v = none ∧ s = (97, I_17, J_18, R)) rfl (az_E.deep (by omega) (re_Sh_becomeRow_67 (J := J) (R := R)  hx_19 ⟨rfl, rfl⟩)) (fun v s hq => ?_)
    obtain ⟨rfl, rfl⟩ := hq
    show az_E az_F ex 2 125 42 [.retAddr 0, .retAddr 0, .int v2, .int v3] [] (97, I_17, J_18, R) _
    refine az_E.sn 1 (pc' := 43) (L' := [.retAddr 0, .retAddr 0, .int v2, .int v3]) (S' := [.int (1 : Int32)]) (σ' := (97, I_17, J_18, R)) rfl ?_
    have h := Option.some.inj h
    subst h
    exact az_E.ret (v := some (.int (1 : Int32))) (σ' := (97, I_17, J_18, R)) rfl hQ
set_option maxRecDepth 100000 in
set_option maxHeartbeats 4000000 in
theorem re_X_row_37_69 {ex : az_X} {I : Nat → Nat → Int32} {J : Nat → Nat → Int64} {R : Nat → Nat → Option Nat} {v2 : Int32} {v3 : Int32} {x : Int32 × (Nat → Nat → Int32) × (Nat → Nat → Int64)} (h : rs_X_row_37 69 I J v2 v3 = some x) {Q : Option Value → az_S → Prop} (hQ : Q (some (.int x.1)) (97, x.2.1, x.2.2, R)) : az_E az_F ex 2 125 37 [.retAddr 0, .retAddr 0, .int v2, .int v3] [.ref 69] (97, I, J, R) Q := by
  unfold rs_X_row_37 at h
  refine az_E.sn 2 (pc' := 39) (L' := [.retAddr 0, .retAddr 0, .int v2, .int v3]) (S' := [.int v3, .int v2, .ref 69]) (σ' := (97, I, J, R)) rfl ?_
  cases hx_22 : rs_Sh_becomeRow 69 I J v2 v3 with
  | none => rw [hx_22] at h; cases h
  | some o =>
    rw [hx_22] at h
    obtain ⟨I_20, J_21⟩ := o
    dsimp only at h
    refine az_E.call (d := 1) (k' := 59) (vs := [.ref 69, .int v2, .int v3]) (pc' := 42) (S' := []) (Q1 := fun v s => v = none ∧ s = (97, I_20, J_21, R)) rfl (az_E.deep (by omega) (re_Sh_becomeRow_69 (J := J) (R := R)  hx_22 ⟨rfl, rfl⟩)) (fun v s hq => ?_)
    obtain ⟨rfl, rfl⟩ := hq
    show az_E az_F ex 2 125 42 [.retAddr 0, .retAddr 0, .int v2, .int v3] [] (97, I_20, J_21, R) _
    refine az_E.sn 1 (pc' := 43) (L' := [.retAddr 0, .retAddr 0, .int v2, .int v3]) (S' := [.int (1 : Int32)]) (σ' := (97, I_20, J_21, R)) rfl ?_
    have h := Option.some.inj h
    subst h
    exact az_E.ret (v := some (.int (1 : Int32))) (σ' := (97, I_20, J_21, R)) rfl hQ
set_option maxRecDepth 100000 in
set_option maxHeartbeats 4000000 in
theorem re_X_row_37_71 {ex : az_X} {I : Nat → Nat → Int32} {J : Nat → Nat → Int64} {R : Nat → Nat → Option Nat} {v2 : Int32} {v3 : Int32} {x : Int32 × (Nat → Nat → Int32) × (Nat → Nat → Int64)} (h : rs_X_row_37 71 I J v2 v3 = some x) {Q : Option Value → az_S → Prop} (hQ : Q (some (.int x.1)) (97, x.2.1, x.2.2, R)) : az_E az_F ex 2 125 37 [.retAddr 0, .retAddr 0, .int v2, .int v3] [.ref 71] (97, I, J, R) Q := by
  unfold rs_X_row_37 at h
  refine az_E.sn 2 (pc' := 39) (L' := [.retAddr 0, .retAddr 0, .int v2, .int v3]) (S' := [.int v3, .int v2, .ref 71]) (σ' := (97, I, J, R)) rfl ?_
  cases hx_25 : rs_Sh_becomeRow 71 I J v2 v3 with
  | none => rw [hx_25] at h; cases h
  | some o =>
    rw [hx_25] at h
    obtain ⟨I_23, J_24⟩ := o
    dsimp only at h
    refine az_E.call (d := 1) (k' := 59) (vs := [.ref 71, .int v2, .int v3]) (pc' := 42) (S' := []) (Q1 := fun v s => v = none ∧ s = (97, I_23, J_24, R)) rfl (az_E.deep (by omega) (re_Sh_becomeRow_71 (J := J) (R := R)  hx_25 ⟨rfl, rfl⟩)) (fun v s hq => ?_)
    obtain ⟨rfl, rfl⟩ := hq
    show az_E az_F ex 2 125 42 [.retAddr 0, .retAddr 0, .int v2, .int v3] [] (97, I_23, J_24, R) _
    refine az_E.sn 1 (pc' := 43) (L' := [.retAddr 0, .retAddr 0, .int v2, .int v3]) (S' := [.int (1 : Int32)]) (σ' := (97, I_23, J_24, R)) rfl ?_
    have h := Option.some.inj h
    subst h
    exact az_E.ret (v := some (.int (1 : Int32))) (σ' := (97, I_23, J_24, R)) rfl hQ
set_option maxRecDepth 100000 in
set_option maxHeartbeats 4000000 in
theorem re_X_row {ex : az_X} {I : Nat → Nat → Int32} {J : Nat → Nat → Int64} {R : Nat → Nat → Option Nat} {a1 : Int32} {a2 : Int32} {a3 : Int32} {o : Int32 × (Nat → Nat → Int32) × (Nat → Nat → Int64)} (h : rs_X_row I J a1 a2 a3 = some o) {Q : Option Value → az_S → Prop} (hQ : Q (some (.int o.1)) (97, o.2.1, o.2.2, R)) : az_E az_F ex 2 125 0 [.ref 3, .int a1, .int a2, .int a3] [] (97, I, J, R) Q := by
  unfold rs_X_row at h
  refine az_E.sn 1 (pc' := 1) (L' := [.ref 3, .int a1, .int a2, .int a3]) (S' := [.int a1]) (σ' := (97, I, J, R)) rfl ?_
  refine az_E.call (d := 1) (k' := 137) (vs := [.int a1]) (pc' := 4) (S' := []) rfl ?_ (fun _ _ hq => hq)
  show az_E az_F ex 1 137 0 [.int a1] [] (97, I, J, R) _
  refine az_E.sn 3 (pc' := 3) (L' := [.int a1]) (S' := [.int (5 : Int32), .int (0 : Int32), .int a1]) (σ' := (97, I, J, R)) rfl ?_
  refine az_E.call (d := 0) (k' := 131) (vs := [.int a1, .int (0 : Int32), .int (5 : Int32)]) (pc' := 6) (S' := []) rfl ?_ (fun _ _ hq => hq)
  show az_E az_F ex 0 131 0 [.int a1, .int (0 : Int32), .int (5 : Int32)] [] (97, I, J, R) _
  refine az_E.sn 2 (pc' := 2) (L' := [.int a1, .int (0 : Int32), .int (5 : Int32)]) (S' := [.int (0 : Int32), .int a1]) (σ' := (97, I, J, R)) rfl ?_
  refine az_E.br (c := a1 < (0 : Int32)) (tt := 14) (ff := 5) (L' := [.int a1, .int (0 : Int32), .int (5 : Int32)]) (S' := []) (σ' := (97, I, J, R)) rfl (fun hc_1 => ?_) (fun hc_1 => ?_)
  · rw [if_pos hc_1] at h
    refine az_E.sn 1 (pc' := 15) (L' := [.int a1, .int (0 : Int32), .int (5 : Int32)]) (S' := [.int (0 : Int32)]) (σ' := (97, I, J, R)) rfl ?_
    refine az_E.ret (v := some (.int (0 : Int32))) (σ' := (97, I, J, R)) rfl ?_
    show az_E az_F ex 1 137 6 [.int a1] [.int (0 : Int32)] (97, I, J, R) _
    refine az_E.ret (v := some (.int (0 : Int32))) (σ' := (97, I, J, R)) rfl ?_
    show az_E az_F ex 2 125 4 [.ref 3, .int a1, .int a2, .int a3] [.int (0 : Int32)] (97, I, J, R) _
    refine az_E.br (c := (0 : Int32) = 0) (tt := 22) (ff := 7) (L' := [.ref 3, .int a1, .int a2, .int a3]) (S' := []) (σ' := (97, I, J, R)) rfl (fun _ => ?_) (fun hn => absurd (by decide) hn)
    refine az_E.sn 1 (pc' := 23) (L' := [.ref 3, .int a1, .int a2, .int a3]) (S' := [.int (-1 : Int32)]) (σ' := (97, I, J, R)) rfl ?_
    have h := Option.some.inj h
    subst h
    exact az_E.ret (v := some (.int (-1 : Int32))) (σ' := (97, I, J, R)) rfl hQ
  · rw [if_neg hc_1] at h
    refine az_E.sn 2 (pc' := 7) (L' := [.int a1, .int (0 : Int32), .int (5 : Int32)]) (S' := [.int (5 : Int32), .int a1]) (σ' := (97, I, J, R)) rfl ?_
    refine az_E.br (c := (5 : Int32) < a1) (tt := 14) (ff := 10) (L' := [.int a1, .int (0 : Int32), .int (5 : Int32)]) (S' := []) (σ' := (97, I, J, R)) rfl (fun hc_2 => ?_) (fun hc_2 => ?_)
    · rw [if_pos hc_2] at h
      refine az_E.sn 1 (pc' := 15) (L' := [.int a1, .int (0 : Int32), .int (5 : Int32)]) (S' := [.int (0 : Int32)]) (σ' := (97, I, J, R)) rfl ?_
      refine az_E.ret (v := some (.int (0 : Int32))) (σ' := (97, I, J, R)) rfl ?_
      show az_E az_F ex 1 137 6 [.int a1] [.int (0 : Int32)] (97, I, J, R) _
      refine az_E.ret (v := some (.int (0 : Int32))) (σ' := (97, I, J, R)) rfl ?_
      show az_E az_F ex 2 125 4 [.ref 3, .int a1, .int a2, .int a3] [.int (0 : Int32)] (97, I, J, R) _
      refine az_E.br (c := (0 : Int32) = 0) (tt := 22) (ff := 7) (L' := [.ref 3, .int a1, .int a2, .int a3]) (S' := []) (σ' := (97, I, J, R)) rfl (fun _ => ?_) (fun hn => absurd (by decide) hn)
      refine az_E.sn 1 (pc' := 23) (L' := [.ref 3, .int a1, .int a2, .int a3]) (S' := [.int (-1 : Int32)]) (σ' := (97, I, J, R)) rfl ?_
      have h := Option.some.inj h
      subst h
      exact az_E.ret (v := some (.int (-1 : Int32))) (σ' := (97, I, J, R)) rfl hQ
    · rw [if_neg hc_2] at h
      refine az_E.sn 2 (pc' := 15) (L' := [.int a1, .int (0 : Int32), .int (5 : Int32)]) (S' := [.int (1 : Int32)]) (σ' := (97, I, J, R)) rfl ?_
      refine az_E.ret (v := some (.int (1 : Int32))) (σ' := (97, I, J, R)) rfl ?_
      show az_E az_F ex 1 137 6 [.int a1] [.int (1 : Int32)] (97, I, J, R) _
      refine az_E.ret (v := some (.int (1 : Int32))) (σ' := (97, I, J, R)) rfl ?_
      show az_E az_F ex 2 125 4 [.ref 3, .int a1, .int a2, .int a3] [.int (1 : Int32)] (97, I, J, R) _
      refine az_E.br (c := (1 : Int32) = 0) (tt := 22) (ff := 7) (L' := [.ref 3, .int a1, .int a2, .int a3]) (S' := []) (σ' := (97, I, J, R)) rfl (fun hn => absurd hn (by decide)) (fun _ => ?_)
      refine az_E.sn 3 (pc' := 10) (L' := [.ref 3, .int a1, .int a2, .int a3]) (S' := [.int (4 : Int32), .int (0 : Int32), .int a2]) (σ' := (97, I, J, R)) rfl ?_
      refine az_E.call (d := 1) (k' := 131) (vs := [.int a2, .int (0 : Int32), .int (4 : Int32)]) (pc' := 13) (S' := []) rfl ?_ (fun _ _ hq => hq)
      show az_E az_F ex 1 131 0 [.int a2, .int (0 : Int32), .int (4 : Int32)] [] (97, I, J, R) _
      refine az_E.sn 2 (pc' := 2) (L' := [.int a2, .int (0 : Int32), .int (4 : Int32)]) (S' := [.int (0 : Int32), .int a2]) (σ' := (97, I, J, R)) rfl ?_
      refine az_E.br (c := a2 < (0 : Int32)) (tt := 14) (ff := 5) (L' := [.int a2, .int (0 : Int32), .int (4 : Int32)]) (S' := []) (σ' := (97, I, J, R)) rfl (fun hc_3 => ?_) (fun hc_3 => ?_)
      · rw [if_pos hc_3] at h
        refine az_E.sn 1 (pc' := 15) (L' := [.int a2, .int (0 : Int32), .int (4 : Int32)]) (S' := [.int (0 : Int32)]) (σ' := (97, I, J, R)) rfl ?_
        refine az_E.ret (v := some (.int (0 : Int32))) (σ' := (97, I, J, R)) rfl ?_
        show az_E az_F ex 2 125 13 [.ref 3, .int a1, .int a2, .int a3] [.int (0 : Int32)] (97, I, J, R) _
        refine az_E.br (c := (0 : Int32) = 0) (tt := 22) (ff := 16) (L' := [.ref 3, .int a1, .int a2, .int a3]) (S' := []) (σ' := (97, I, J, R)) rfl (fun _ => ?_) (fun hn => absurd (by decide) hn)
        refine az_E.sn 1 (pc' := 23) (L' := [.ref 3, .int a1, .int a2, .int a3]) (S' := [.int (-1 : Int32)]) (σ' := (97, I, J, R)) rfl ?_
        have h := Option.some.inj h
        subst h
        exact az_E.ret (v := some (.int (-1 : Int32))) (σ' := (97, I, J, R)) rfl hQ
      · rw [if_neg hc_3] at h
        refine az_E.sn 2 (pc' := 7) (L' := [.int a2, .int (0 : Int32), .int (4 : Int32)]) (S' := [.int (4 : Int32), .int a2]) (σ' := (97, I, J, R)) rfl ?_
        refine az_E.br (c := (4 : Int32) < a2) (tt := 14) (ff := 10) (L' := [.int a2, .int (0 : Int32), .int (4 : Int32)]) (S' := []) (σ' := (97, I, J, R)) rfl (fun hc_4 => ?_) (fun hc_4 => ?_)
        · rw [if_pos hc_4] at h
          refine az_E.sn 1 (pc' := 15) (L' := [.int a2, .int (0 : Int32), .int (4 : Int32)]) (S' := [.int (0 : Int32)]) (σ' := (97, I, J, R)) rfl ?_
          refine az_E.ret (v := some (.int (0 : Int32))) (σ' := (97, I, J, R)) rfl ?_
          show az_E az_F ex 2 125 13 [.ref 3, .int a1, .int a2, .int a3] [.int (0 : Int32)] (97, I, J, R) _
          refine az_E.br (c := (0 : Int32) = 0) (tt := 22) (ff := 16) (L' := [.ref 3, .int a1, .int a2, .int a3]) (S' := []) (σ' := (97, I, J, R)) rfl (fun _ => ?_) (fun hn => absurd (by decide) hn)
          refine az_E.sn 1 (pc' := 23) (L' := [.ref 3, .int a1, .int a2, .int a3]) (S' := [.int (-1 : Int32)]) (σ' := (97, I, J, R)) rfl ?_
          have h := Option.some.inj h
          subst h
          exact az_E.ret (v := some (.int (-1 : Int32))) (σ' := (97, I, J, R)) rfl hQ
        · rw [if_neg hc_4] at h
          refine az_E.sn 2 (pc' := 15) (L' := [.int a2, .int (0 : Int32), .int (4 : Int32)]) (S' := [.int (1 : Int32)]) (σ' := (97, I, J, R)) rfl ?_
          refine az_E.ret (v := some (.int (1 : Int32))) (σ' := (97, I, J, R)) rfl ?_
          show az_E az_F ex 2 125 13 [.ref 3, .int a1, .int a2, .int a3] [.int (1 : Int32)] (97, I, J, R) _
          refine az_E.br (c := (1 : Int32) = 0) (tt := 22) (ff := 16) (L' := [.ref 3, .int a1, .int a2, .int a3]) (S' := []) (σ' := (97, I, J, R)) rfl (fun hn => absurd hn (by decide)) (fun _ => ?_)
          refine az_E.sn 2 (pc' := 19) (L' := [.ref 3, .int a1, .int a2, .int a3]) (S' := [.int (60 : Int32), .int a3]) (σ' := (97, I, J, R)) rfl ?_
          refine az_E.br (c := a3 ≤ (60 : Int32)) (tt := 24) (ff := 22) (L' := [.ref 3, .int a1, .int a2, .int a3]) (S' := []) (σ' := (97, I, J, R)) rfl (fun hc_5 => ?_) (fun hc_5 => ?_)
          · rw [if_pos hc_5] at h
            refine az_E.sn 1 (pc' := 25) (L' := [.ref 3, .int a1, .int a2, .int a3]) (S' := [.int a3]) (σ' := (97, I, J, R)) rfl ?_
            refine az_E.br (c := 0 ≤ a3) (tt := 31) (ff := 28) (L' := [.ref 3, .int a1, .int a2, .int a3]) (S' := []) (σ' := (97, I, J, R)) rfl (fun hc_6 => ?_) (fun hc_6 => ?_)
            · rw [if_pos hc_6] at h
              refine az_E.sn 3 (pc' := 36) (L' := [.ref 3, .int a1, .int a2, .int a3]) (S' := [.int a1, .ref 58]) (σ' := (97, I, J, R)) rfl ?_
              by_cases hc_7 : a1 < 0 ∨ 6 ≤ a1.toNatClampNeg
              · rw [if_pos hc_7] at h; cases h
              · rw [if_neg hc_7] at h
                rcases az_six hc_7 with ehc_7 | ehc_7 | ehc_7 | ehc_7 | ehc_7 | ehc_7
                · subst ehc_7
                  refine az_E.ov (pc' := 37) (L' := [.ref 3, .int (0 : Int32), .int a2, .int a3]) (S' := []) (σ' := (97, I, J, R)) (x := .ref 61) (o := az_aa az_F (97, I, J, R) 58 (0 : Int32)) rfl rfl ?_
                  exact az_E.forget (L := [.retAddr 0, .retAddr 0, .int a2, .int a3]) ⟨trivial, trivial, rfl, rfl, trivial⟩ (re_X_row_37_61 (I := I) (J := J) (R := R)  h hQ)
                · subst ehc_7
                  refine az_E.ov (pc' := 37) (L' := [.ref 3, .int (1 : Int32), .int a2, .int a3]) (S' := []) (σ' := (97, I, J, R)) (x := .ref 63) (o := az_aa az_F (97, I, J, R) 58 (1 : Int32)) rfl rfl ?_
                  exact az_E.forget (L := [.retAddr 0, .retAddr 0, .int a2, .int a3]) ⟨trivial, trivial, rfl, rfl, trivial⟩ (re_X_row_37_63 (I := I) (J := J) (R := R)  h hQ)
                · subst ehc_7
                  refine az_E.ov (pc' := 37) (L' := [.ref 3, .int (2 : Int32), .int a2, .int a3]) (S' := []) (σ' := (97, I, J, R)) (x := .ref 65) (o := az_aa az_F (97, I, J, R) 58 (2 : Int32)) rfl rfl ?_
                  exact az_E.forget (L := [.retAddr 0, .retAddr 0, .int a2, .int a3]) ⟨trivial, trivial, rfl, rfl, trivial⟩ (re_X_row_37_65 (I := I) (J := J) (R := R)  h hQ)
                · subst ehc_7
                  refine az_E.ov (pc' := 37) (L' := [.ref 3, .int (3 : Int32), .int a2, .int a3]) (S' := []) (σ' := (97, I, J, R)) (x := .ref 67) (o := az_aa az_F (97, I, J, R) 58 (3 : Int32)) rfl rfl ?_
                  exact az_E.forget (L := [.retAddr 0, .retAddr 0, .int a2, .int a3]) ⟨trivial, trivial, rfl, rfl, trivial⟩ (re_X_row_37_67 (I := I) (J := J) (R := R)  h hQ)
                · subst ehc_7
                  refine az_E.ov (pc' := 37) (L' := [.ref 3, .int (4 : Int32), .int a2, .int a3]) (S' := []) (σ' := (97, I, J, R)) (x := .ref 69) (o := az_aa az_F (97, I, J, R) 58 (4 : Int32)) rfl rfl ?_
                  exact az_E.forget (L := [.retAddr 0, .retAddr 0, .int a2, .int a3]) ⟨trivial, trivial, rfl, rfl, trivial⟩ (re_X_row_37_69 (I := I) (J := J) (R := R)  h hQ)
                · subst ehc_7
                  refine az_E.ov (pc' := 37) (L' := [.ref 3, .int (5 : Int32), .int a2, .int a3]) (S' := []) (σ' := (97, I, J, R)) (x := .ref 71) (o := az_aa az_F (97, I, J, R) 58 (5 : Int32)) rfl rfl ?_
                  exact az_E.forget (L := [.retAddr 0, .retAddr 0, .int a2, .int a3]) ⟨trivial, trivial, rfl, rfl, trivial⟩ (re_X_row_37_71 (I := I) (J := J) (R := R)  h hQ)
            · rw [if_neg hc_6] at h
              refine az_E.sn 1 (pc' := 30) (L' := [.ref 3, .int a1, .int a2, .int a3]) (S' := [.int (-14 : Int32)]) (σ' := (97, I, J, R)) rfl ?_
              have h := Option.some.inj h
              subst h
              exact az_E.ret (v := some (.int (-14 : Int32))) (σ' := (97, I, J, R)) rfl hQ
          · rw [if_neg hc_5] at h
            refine az_E.sn 1 (pc' := 23) (L' := [.ref 3, .int a1, .int a2, .int a3]) (S' := [.int (-1 : Int32)]) (σ' := (97, I, J, R)) rfl ?_
            have h := Option.some.inj h
            subst h
            exact az_E.ret (v := some (.int (-1 : Int32))) (σ' := (97, I, J, R)) rfl hQ
set_option maxRecDepth 100000 in
set_option maxHeartbeats 4000000 in
theorem re_M_row_57_b {ex : az_X} {I : Nat → Nat → Int32} {J : Nat → Nat → Int64} {R : Nat → Nat → Option Nat} {v1 : Int32} {v4 : Int32} {x : ((Int32 × (Nat → Nat → Int64)) ⊕ (Int32 × (Nat → Nat → Int32) × (Nat → Nat → Int64)))} (h : rs_M_row_57_b I v1 v4 J = some x) {Q : Option Value → az_S → Prop} (hQ : Sum.elim (fun s => az_E az_F ex 2 247 57 [.ref 73, .int v1, .retAddr 0, .retAddr 0, .int s.1] [] (97, I, s.2, R) Q) (fun x => Q (some (.int x.1)) (97, x.2.1, x.2.2, R)) x) : az_E az_F ex 2 247 57 [.ref 73, .int v1, .retAddr 0, .retAddr 0, .int v4] [] (97, I, J, R) Q := by
  unfold rs_M_row_57_b at h
  refine az_E.sn 6 (pc' := 66) (L' := [.ref 73, .int v1, .retAddr 0, .retAddr 0, .int v4]) (S' := [.int (((60 : Int32) * v1) + (60 : Int32)), .int v4]) (σ' := (97, I, J, R)) rfl ?_
  refine az_E.br (c := (((60 : Int32) * v1) + (60 : Int32)) ≤ v4) (tt := 83) (ff := 69) (L' := [.ref 73, .int v1, .retAddr 0, .retAddr 0, .int v4]) (S' := []) (σ' := (97, I, J, R)) rfl (fun hc_9 => ?_) (fun hc_9 => ?_)
  · rw [if_pos hc_9] at h
    refine az_E.sn 1 (pc' := 84) (L' := [.ref 73, .int v1, .retAddr 0, .retAddr 0, .int v4]) (S' := [.int (1 : Int32)]) (σ' := (97, I, J, R)) rfl ?_
    have h := Option.some.inj h
    subst h
    exact az_E.ret (v := some (.int (1 : Int32))) (σ' := (97, I, J, R)) rfl hQ
  · rw [if_neg hc_9] at h
    refine az_E.sn 4 (pc' := 76) (L' := [.ref 73, .int v1, .retAddr 0, .retAddr 0, .int v4]) (S' := [.long (0 : Int64), .int v4, .ref 98]) (σ' := (97, I, J, R)) rfl ?_
    by_cases hc_10 : v4 < 0 ∨ 360 ≤ v4.toNatClampNeg
    · rw [if_pos hc_10] at h; cases h
    · rw [if_neg hc_10] at h
      refine az_E.o (o := az_sl az_F (97, I, J, R) 98 v4 (0 : Int64)) (pc' := 77) (L' := [.ref 73, .int v1, .retAddr 0, .retAddr 0, .int v4]) (S' := []) (x := (97, I, (az_u J 98 v4.toNatClampNeg (0 : Int64)), R)) rfl (if_neg hc_10) ?_
      refine az_E.sn 2 (pc' := 57) (L' := [.ref 73, .int v1, .retAddr 0, .retAddr 0, .int (v4 + (1 : Int32))]) (S' := []) (σ' := (97, I, (az_u J 98 v4.toNatClampNeg (0 : Int64)), R)) rfl ?_
      have h := Option.some.inj h
      subst h
      exact az_E.forget (L := [.ref 73, .int v1, .retAddr 0, .retAddr 0, .int (v4 + (1 : Int32))]) ⟨rfl, rfl, trivial, trivial, rfl, trivial⟩ hQ
set_option maxRecDepth 100000 in
set_option maxHeartbeats 4000000 in
theorem re_M_row_57 {ex : az_X} {I : Nat → Nat → Int32} {J : Nat → Nat → Int64} {R : Nat → Nat → Option Nat} {v1 : Int32} {v4 : Int32} {x : Int32 × (Nat → Nat → Int32) × (Nat → Nat → Int64)} (h : rs_M_row_57 I J v1 v4 = some x) {Q : Option Value → az_S → Prop} (hQ : Q (some (.int x.1)) (97, x.2.1, x.2.2, R)) : az_E az_F ex 2 247 57 [.ref 73, .int v1, .retAddr 0, .retAddr 0, .int v4] [] (97, I, J, R) Q := by
  unfold rs_M_row_57 at h
  refine az_lp_E (G := fun s => az_E az_F ex 2 247 57 [.ref 73, .int v1, .retAddr 0, .retAddr 0, .int s.1] [] (97, I, s.2, R) Q) (H := fun x => Q (some (.int x.1)) (97, x.2.1, x.2.2, R)) (fun s o hb ho => ?_) _ _ _ h hQ
  exact re_M_row_57_b  hb ho
set_option maxRecDepth 100000 in
set_option maxHeartbeats 4000000 in
theorem re_M_row {ex : az_X} {I : Nat → Nat → Int32} {J : Nat → Nat → Int64} {R : Nat → Nat → Option Nat} {a1 : Int32} {a2 : Int32} {a3 : Int32} {o : Int32 × (Nat → Nat → Int32) × (Nat → Nat → Int64)} (h : rs_M_row I J a1 a2 a3 = some o) {Q : Option Value → az_S → Prop} (hQ : Q (some (.int o.1)) (97, o.2.1, o.2.2, R)) : az_E az_F ex 2 247 0 [.ref 73, .int a1, .int a2, .int a3, .retAddr 0] [] (97, I, J, R) Q := by
  unfold rs_M_row at h
  refine az_E.sn 1 (pc' := 1) (L' := [.ref 73, .int a1, .int a2, .int a3, .retAddr 0]) (S' := [.int a1]) (σ' := (97, I, J, R)) rfl ?_
  refine az_E.call (d := 1) (k' := 245) (vs := [.int a1]) (pc' := 4) (S' := []) rfl ?_ (fun _ _ hq => hq)
  show az_E az_F ex 1 245 0 [.int a1] [] (97, I, J, R) _
  refine az_E.sn 4 (pc' := 6) (L' := [.int a1]) (S' := [.long (5 : Int64), .long (0 : Int64), .long a1.toInt64]) (σ' := (97, I, J, R)) rfl ?_
  refine az_E.call (d := 0) (k' := 154) (vs := [.long a1.toInt64, .long (0 : Int64), .long (5 : Int64)]) (pc' := 9) (S' := []) rfl ?_ (fun _ _ hq => hq)
  show az_E az_F ex 0 154 0 [.long a1.toInt64, .retAddr 0, .long (0 : Int64), .retAddr 0, .long (5 : Int64), .retAddr 0] [] (97, I, J, R) _
  refine az_E.sn 3 (pc' := 3) (L' := [.long a1.toInt64, .retAddr 0, .long (0 : Int64), .retAddr 0, .long (5 : Int64), .retAddr 0]) (S' := [.int (lg_cmp a1.toInt64 (0 : Int64))]) (σ' := (97, I, J, R)) rfl ?_
  refine az_E.br (c := (lg_cmp a1.toInt64 (0 : Int64)) < 0) (tt := 17) (ff := 6) (L' := [.long a1.toInt64, .retAddr 0, .long (0 : Int64), .retAddr 0, .long (5 : Int64), .retAddr 0]) (S' := []) (σ' := (97, I, J, R)) rfl (fun hc_1 => ?_) (fun hc_1 => ?_)
  · rw [if_pos hc_1] at h
    refine az_E.sn 1 (pc' := 18) (L' := [.long a1.toInt64, .retAddr 0, .long (0 : Int64), .retAddr 0, .long (5 : Int64), .retAddr 0]) (S' := [.int (0 : Int32)]) (σ' := (97, I, J, R)) rfl ?_
    refine az_E.ret (v := some (.int (0 : Int32))) (σ' := (97, I, J, R)) rfl ?_
    show az_E az_F ex 1 245 9 [.int a1] [.int (0 : Int32)] (97, I, J, R) _
    refine az_E.ret (v := some (.int (0 : Int32))) (σ' := (97, I, J, R)) rfl ?_
    show az_E az_F ex 2 247 4 [.ref 73, .int a1, .int a2, .int a3, .retAddr 0] [.int (0 : Int32)] (97, I, J, R) _
    refine az_E.br (c := (0 : Int32) = 0) (tt := 25) (ff := 7) (L' := [.ref 73, .int a1, .int a2, .int a3, .retAddr 0]) (S' := []) (σ' := (97, I, J, R)) rfl (fun _ => ?_) (fun hn => absurd (by decide) hn)
    refine az_E.sn 1 (pc' := 26) (L' := [.ref 73, .int a1, .int a2, .int a3, .retAddr 0]) (S' := [.int (-1 : Int32)]) (σ' := (97, I, J, R)) rfl ?_
    have h := Option.some.inj h
    subst h
    exact az_E.ret (v := some (.int (-1 : Int32))) (σ' := (97, I, J, R)) rfl hQ
  · rw [if_neg hc_1] at h
    refine az_E.sn 3 (pc' := 10) (L' := [.long a1.toInt64, .retAddr 0, .long (0 : Int64), .retAddr 0, .long (5 : Int64), .retAddr 0]) (S' := [.int (lg_cmp a1.toInt64 (5 : Int64))]) (σ' := (97, I, J, R)) rfl ?_
    refine az_E.br (c := 0 < (lg_cmp a1.toInt64 (5 : Int64))) (tt := 17) (ff := 13) (L' := [.long a1.toInt64, .retAddr 0, .long (0 : Int64), .retAddr 0, .long (5 : Int64), .retAddr 0]) (S' := []) (σ' := (97, I, J, R)) rfl (fun hc_2 => ?_) (fun hc_2 => ?_)
    · rw [if_pos hc_2] at h
      refine az_E.sn 1 (pc' := 18) (L' := [.long a1.toInt64, .retAddr 0, .long (0 : Int64), .retAddr 0, .long (5 : Int64), .retAddr 0]) (S' := [.int (0 : Int32)]) (σ' := (97, I, J, R)) rfl ?_
      refine az_E.ret (v := some (.int (0 : Int32))) (σ' := (97, I, J, R)) rfl ?_
      show az_E az_F ex 1 245 9 [.int a1] [.int (0 : Int32)] (97, I, J, R) _
      refine az_E.ret (v := some (.int (0 : Int32))) (σ' := (97, I, J, R)) rfl ?_
      show az_E az_F ex 2 247 4 [.ref 73, .int a1, .int a2, .int a3, .retAddr 0] [.int (0 : Int32)] (97, I, J, R) _
      refine az_E.br (c := (0 : Int32) = 0) (tt := 25) (ff := 7) (L' := [.ref 73, .int a1, .int a2, .int a3, .retAddr 0]) (S' := []) (σ' := (97, I, J, R)) rfl (fun _ => ?_) (fun hn => absurd (by decide) hn)
      refine az_E.sn 1 (pc' := 26) (L' := [.ref 73, .int a1, .int a2, .int a3, .retAddr 0]) (S' := [.int (-1 : Int32)]) (σ' := (97, I, J, R)) rfl ?_
      have h := Option.some.inj h
      subst h
      exact az_E.ret (v := some (.int (-1 : Int32))) (σ' := (97, I, J, R)) rfl hQ
    · rw [if_neg hc_2] at h
      refine az_E.sn 2 (pc' := 18) (L' := [.long a1.toInt64, .retAddr 0, .long (0 : Int64), .retAddr 0, .long (5 : Int64), .retAddr 0]) (S' := [.int (1 : Int32)]) (σ' := (97, I, J, R)) rfl ?_
      refine az_E.ret (v := some (.int (1 : Int32))) (σ' := (97, I, J, R)) rfl ?_
      show az_E az_F ex 1 245 9 [.int a1] [.int (1 : Int32)] (97, I, J, R) _
      refine az_E.ret (v := some (.int (1 : Int32))) (σ' := (97, I, J, R)) rfl ?_
      show az_E az_F ex 2 247 4 [.ref 73, .int a1, .int a2, .int a3, .retAddr 0] [.int (1 : Int32)] (97, I, J, R) _
      refine az_E.br (c := (1 : Int32) = 0) (tt := 25) (ff := 7) (L' := [.ref 73, .int a1, .int a2, .int a3, .retAddr 0]) (S' := []) (σ' := (97, I, J, R)) rfl (fun hn => absurd hn (by decide)) (fun _ => ?_)
      refine az_E.sn 4 (pc' := 13) (L' := [.ref 73, .int a1, .int a2, .int a3, .retAddr 0]) (S' := [.long (4 : Int64), .long (0 : Int64), .long a2.toInt64]) (σ' := (97, I, J, R)) rfl ?_
      refine az_E.call (d := 1) (k' := 154) (vs := [.long a2.toInt64, .long (0 : Int64), .long (4 : Int64)]) (pc' := 16) (S' := []) rfl ?_ (fun _ _ hq => hq)
      show az_E az_F ex 1 154 0 [.long a2.toInt64, .retAddr 0, .long (0 : Int64), .retAddr 0, .long (4 : Int64), .retAddr 0] [] (97, I, J, R) _
      refine az_E.sn 3 (pc' := 3) (L' := [.long a2.toInt64, .retAddr 0, .long (0 : Int64), .retAddr 0, .long (4 : Int64), .retAddr 0]) (S' := [.int (lg_cmp a2.toInt64 (0 : Int64))]) (σ' := (97, I, J, R)) rfl ?_
      refine az_E.br (c := (lg_cmp a2.toInt64 (0 : Int64)) < 0) (tt := 17) (ff := 6) (L' := [.long a2.toInt64, .retAddr 0, .long (0 : Int64), .retAddr 0, .long (4 : Int64), .retAddr 0]) (S' := []) (σ' := (97, I, J, R)) rfl (fun hc_3 => ?_) (fun hc_3 => ?_)
      · rw [if_pos hc_3] at h
        refine az_E.sn 1 (pc' := 18) (L' := [.long a2.toInt64, .retAddr 0, .long (0 : Int64), .retAddr 0, .long (4 : Int64), .retAddr 0]) (S' := [.int (0 : Int32)]) (σ' := (97, I, J, R)) rfl ?_
        refine az_E.ret (v := some (.int (0 : Int32))) (σ' := (97, I, J, R)) rfl ?_
        show az_E az_F ex 2 247 16 [.ref 73, .int a1, .int a2, .int a3, .retAddr 0] [.int (0 : Int32)] (97, I, J, R) _
        refine az_E.br (c := (0 : Int32) = 0) (tt := 25) (ff := 19) (L' := [.ref 73, .int a1, .int a2, .int a3, .retAddr 0]) (S' := []) (σ' := (97, I, J, R)) rfl (fun _ => ?_) (fun hn => absurd (by decide) hn)
        refine az_E.sn 1 (pc' := 26) (L' := [.ref 73, .int a1, .int a2, .int a3, .retAddr 0]) (S' := [.int (-1 : Int32)]) (σ' := (97, I, J, R)) rfl ?_
        have h := Option.some.inj h
        subst h
        exact az_E.ret (v := some (.int (-1 : Int32))) (σ' := (97, I, J, R)) rfl hQ
      · rw [if_neg hc_3] at h
        refine az_E.sn 3 (pc' := 10) (L' := [.long a2.toInt64, .retAddr 0, .long (0 : Int64), .retAddr 0, .long (4 : Int64), .retAddr 0]) (S' := [.int (lg_cmp a2.toInt64 (4 : Int64))]) (σ' := (97, I, J, R)) rfl ?_
        refine az_E.br (c := 0 < (lg_cmp a2.toInt64 (4 : Int64))) (tt := 17) (ff := 13) (L' := [.long a2.toInt64, .retAddr 0, .long (0 : Int64), .retAddr 0, .long (4 : Int64), .retAddr 0]) (S' := []) (σ' := (97, I, J, R)) rfl (fun hc_4 => ?_) (fun hc_4 => ?_)
        · rw [if_pos hc_4] at h
          refine az_E.sn 1 (pc' := 18) (L' := [.long a2.toInt64, .retAddr 0, .long (0 : Int64), .retAddr 0, .long (4 : Int64), .retAddr 0]) (S' := [.int (0 : Int32)]) (σ' := (97, I, J, R)) rfl ?_
          refine az_E.ret (v := some (.int (0 : Int32))) (σ' := (97, I, J, R)) rfl ?_
          show az_E az_F ex 2 247 16 [.ref 73, .int a1, .int a2, .int a3, .retAddr 0] [.int (0 : Int32)] (97, I, J, R) _
          refine az_E.br (c := (0 : Int32) = 0) (tt := 25) (ff := 19) (L' := [.ref 73, .int a1, .int a2, .int a3, .retAddr 0]) (S' := []) (σ' := (97, I, J, R)) rfl (fun _ => ?_) (fun hn => absurd (by decide) hn)
          refine az_E.sn 1 (pc' := 26) (L' := [.ref 73, .int a1, .int a2, .int a3, .retAddr 0]) (S' := [.int (-1 : Int32)]) (σ' := (97, I, J, R)) rfl ?_
          have h := Option.some.inj h
          subst h
          exact az_E.ret (v := some (.int (-1 : Int32))) (σ' := (97, I, J, R)) rfl hQ
        · rw [if_neg hc_4] at h
          refine az_E.sn 2 (pc' := 18) (L' := [.long a2.toInt64, .retAddr 0, .long (0 : Int64), .retAddr 0, .long (4 : Int64), .retAddr 0]) (S' := [.int (1 : Int32)]) (σ' := (97, I, J, R)) rfl ?_
          refine az_E.ret (v := some (.int (1 : Int32))) (σ' := (97, I, J, R)) rfl ?_
          show az_E az_F ex 2 247 16 [.ref 73, .int a1, .int a2, .int a3, .retAddr 0] [.int (1 : Int32)] (97, I, J, R) _
          refine az_E.br (c := (1 : Int32) = 0) (tt := 25) (ff := 19) (L' := [.ref 73, .int a1, .int a2, .int a3, .retAddr 0]) (S' := []) (σ' := (97, I, J, R)) rfl (fun hn => absurd hn (by decide)) (fun _ => ?_)
          refine az_E.sn 2 (pc' := 22) (L' := [.ref 73, .int a1, .int a2, .int a3, .retAddr 0]) (S' := [.int (60 : Int32), .int a3]) (σ' := (97, I, J, R)) rfl ?_
          refine az_E.br (c := a3 ≤ (60 : Int32)) (tt := 27) (ff := 25) (L' := [.ref 73, .int a1, .int a2, .int a3, .retAddr 0]) (S' := []) (σ' := (97, I, J, R)) rfl (fun hc_5 => ?_) (fun hc_5 => ?_)
          · rw [if_pos hc_5] at h
            refine az_E.sn 1 (pc' := 28) (L' := [.ref 73, .int a1, .int a2, .int a3, .retAddr 0]) (S' := [.int a3]) (σ' := (97, I, J, R)) rfl ?_
            refine az_E.br (c := 0 ≤ a3) (tt := 34) (ff := 31) (L' := [.ref 73, .int a1, .int a2, .int a3, .retAddr 0]) (S' := []) (σ' := (97, I, J, R)) rfl (fun hc_6 => ?_) (fun hc_6 => ?_)
            · rw [if_pos hc_6] at h
              refine az_E.sn 6 (pc' := 43) (L' := [.ref 73, .int a1, .int a2, .int a3, .retAddr 0]) (S' := [.int ((50 : Int32) + a2), .int a1, .ref 96]) (σ' := (97, I, J, R)) rfl ?_
              by_cases hc_7 : a1 < 0 ∨ 6 ≤ a1.toNatClampNeg
              · rw [if_pos hc_7] at h; cases h
              · rw [if_neg hc_7] at h
                refine az_E.o (o := az_si az_F (97, I, J, R) 96 a1 ((50 : Int32) + a2)) (pc' := 44) (L' := [.ref 73, .int a1, .int a2, .int a3, .retAddr 0]) (S' := []) (x := (97, (az_u I 96 a1.toNatClampNeg ((50 : Int32) + a2)), J, R)) rfl (if_neg hc_7) ?_
                refine az_E.sn 4 (pc' := 50) (L' := [.ref 73, .int a1, .int a2, .int a3, .retAddr 0]) (S' := [.int a3, .int a1, .ref 97]) (σ' := (97, (az_u I 96 a1.toNatClampNeg ((50 : Int32) + a2)), J, R)) rfl ?_
                by_cases hc_8 : a1 < 0 ∨ 6 ≤ a1.toNatClampNeg
                · rw [if_pos hc_8] at h; cases h
                · rw [if_neg hc_8] at h
                  refine az_E.o (o := az_si az_F (97, (az_u I 96 a1.toNatClampNeg ((50 : Int32) + a2)), J, R) 97 a1 a3) (pc' := 51) (L' := [.ref 73, .int a1, .int a2, .int a3, .retAddr 0]) (S' := []) (x := (97, (az_u (az_u I 96 a1.toNatClampNeg ((50 : Int32) + a2)) 97 a1.toNatClampNeg a3), J, R)) rfl (if_neg hc_8) ?_
                  refine az_E.sn 4 (pc' := 57) (L' := [.ref 73, .int a1, .int a2, .int a3, .int ((60 : Int32) * a1)]) (S' := []) (σ' := (97, (az_u (az_u I 96 a1.toNatClampNeg ((50 : Int32) + a2)) 97 a1.toNatClampNeg a3), J, R)) rfl ?_
                  exact az_E.forget (L := [.ref 73, .int a1, .retAddr 0, .retAddr 0, .int ((60 : Int32) * a1)]) ⟨rfl, rfl, trivial, trivial, rfl, trivial⟩ (re_M_row_57 (I := (az_u (az_u I 96 a1.toNatClampNeg ((50 : Int32) + a2)) 97 a1.toNatClampNeg a3)) (J := J) (R := R)  h hQ)
            · rw [if_neg hc_6] at h
              refine az_E.sn 1 (pc' := 33) (L' := [.ref 73, .int a1, .int a2, .int a3, .retAddr 0]) (S' := [.int (-14 : Int32)]) (σ' := (97, I, J, R)) rfl ?_
              have h := Option.some.inj h
              subst h
              exact az_E.ret (v := some (.int (-14 : Int32))) (σ' := (97, I, J, R)) rfl hQ
          · rw [if_neg hc_5] at h
            refine az_E.sn 1 (pc' := 26) (L' := [.ref 73, .int a1, .int a2, .int a3, .retAddr 0]) (S' := [.int (-1 : Int32)]) (σ' := (97, I, J, R)) rfl ?_
            have h := Option.some.inj h
            subst h
            exact az_E.ret (v := some (.int (-1 : Int32))) (σ' := (97, I, J, R)) rfl hQ
set_option maxRecDepth 100000 in
set_option maxHeartbeats 4000000 in
theorem re_Sh_refusalAt_61 {ex : az_X} {I : Nat → Nat → Int32} {J : Nat → Nat → Int64} {R : Nat → Nat → Option Nat} {a1 : Int32} {o : Int32} (h : rs_Sh_refusalAt 61 I a1 = some o) {Q : Option Value → az_S → Prop} (hQ : Q (some (.int o)) (97, I, J, R)) : az_E az_F ex 1 61 0 [.ref 61, .int a1] [] (97, I, J, R) Q := by
  unfold rs_Sh_refusalAt at h
  refine az_E.sn 1 (pc' := 1) (L' := [.ref 61, .int a1]) (S' := [.ref 61]) (σ' := (97, I, J, R)) rfl ?_
  refine az_E.call (d := 0) (k' := 54) (vs := [.ref 61]) (pc' := 4) (S' := []) rfl ?_ (fun _ _ hq => hq)
  show az_E az_F ex 0 54 0 [.ref 61] [] (97, I, J, R) _
  refine az_E.sn 3 (pc' := 5) (L' := [.ref 61]) (S' := [.int (-1 : Int32), .int (I 61 0)]) (σ' := (97, I, J, R)) rfl ?_
  refine az_E.br (c := (I 61 0) = (-1 : Int32)) (tt := 8) (ff := 20) (L' := [.ref 61]) (S' := []) (σ' := (97, I, J, R)) rfl (fun hc_1 => ?_) (fun hc_1 => ?_)
  · rw [if_pos hc_1] at h
    refine az_E.sn 3 (pc' := 13) (L' := [.ref 61]) (S' := [.int (-1 : Int32), .int (I 61 1)]) (σ' := (97, I, J, R)) rfl ?_
    refine az_E.br (c := (I 61 1) = (-1 : Int32)) (tt := 16) (ff := 20) (L' := [.ref 61]) (S' := []) (σ' := (97, I, J, R)) rfl (fun hc_2 => ?_) (fun hc_2 => ?_)
    · rw [if_pos hc_2] at h
      refine az_E.sn 2 (pc' := 21) (L' := [.ref 61]) (S' := [.int (1 : Int32)]) (σ' := (97, I, J, R)) rfl ?_
      refine az_E.ret (v := some (.int (1 : Int32))) (σ' := (97, I, J, R)) rfl ?_
      show az_E az_F ex 1 61 4 [.ref 61, .int a1] [.int (1 : Int32)] (97, I, J, R) _
      refine az_E.br (c := (1 : Int32) = 0) (tt := 10) (ff := 7) (L' := [.ref 61, .int a1]) (S' := []) (σ' := (97, I, J, R)) rfl (fun hn => absurd hn (by decide)) (fun _ => ?_)
      refine az_E.sn 1 (pc' := 9) (L' := [.ref 61, .int a1]) (S' := [.int (-11 : Int32)]) (σ' := (97, I, J, R)) rfl ?_
      have h := Option.some.inj h
      subst h
      exact az_E.ret (v := some (.int (-11 : Int32))) (σ' := (97, I, J, R)) rfl hQ
    · rw [if_neg hc_2] at h
      refine az_E.sn 1 (pc' := 21) (L' := [.ref 61]) (S' := [.int (0 : Int32)]) (σ' := (97, I, J, R)) rfl ?_
      refine az_E.ret (v := some (.int (0 : Int32))) (σ' := (97, I, J, R)) rfl ?_
      show az_E az_F ex 1 61 4 [.ref 61, .int a1] [.int (0 : Int32)] (97, I, J, R) _
      refine az_E.br (c := (0 : Int32) = 0) (tt := 10) (ff := 7) (L' := [.ref 61, .int a1]) (S' := []) (σ' := (97, I, J, R)) rfl (fun _ => ?_) (fun hn => absurd (by decide) hn)
      refine az_E.sn 1 (pc' := 11) (L' := [.ref 61, .int a1]) (S' := [.ref 61]) (σ' := (97, I, J, R)) rfl ?_
      refine az_E.call (d := 0) (k' := 55) (vs := [.ref 61]) (pc' := 14) (S' := []) rfl ?_ (fun _ _ hq => hq)
      show az_E az_F ex 0 55 0 [.ref 61] [] (97, I, J, R) _
      refine az_E.sn 3 (pc' := 5) (L' := [.ref 61]) (S' := [.int (-1 : Int32), .int (I 61 1)]) (σ' := (97, I, J, R)) rfl ?_
      refine az_E.br (c := (I 61 1) = (-1 : Int32)) (tt := 12) (ff := 8) (L' := [.ref 61]) (S' := []) (σ' := (97, I, J, R)) rfl (fun hc_3 => ?_) (fun hc_3 => ?_)
      · rw [if_pos hc_3] at h
        refine az_E.sn 1 (pc' := 13) (L' := [.ref 61]) (S' := [.int (0 : Int32)]) (σ' := (97, I, J, R)) rfl ?_
        refine az_E.ret (v := some (.int (0 : Int32))) (σ' := (97, I, J, R)) rfl ?_
        show az_E az_F ex 1 61 14 [.ref 61, .int a1] [.int (0 : Int32)] (97, I, J, R) _
        refine az_E.br (c := (0 : Int32) = 0) (tt := 17) (ff := 20) (L' := [.ref 61, .int a1]) (S' := []) (σ' := (97, I, J, R)) rfl (fun _ => ?_) (fun hn => absurd (by decide) hn)
        refine az_E.sn 1 (pc' := 19) (L' := [.ref 61, .int a1]) (S' := [.int (-12 : Int32)]) (σ' := (97, I, J, R)) rfl ?_
        have h := Option.some.inj h
        subst h
        exact az_E.ret (v := some (.int (-12 : Int32))) (σ' := (97, I, J, R)) rfl hQ
      · rw [if_neg hc_3] at h
        refine az_E.sn 2 (pc' := 13) (L' := [.ref 61]) (S' := [.int (1 : Int32)]) (σ' := (97, I, J, R)) rfl ?_
        refine az_E.ret (v := some (.int (1 : Int32))) (σ' := (97, I, J, R)) rfl ?_
        show az_E az_F ex 1 61 14 [.ref 61, .int a1] [.int (1 : Int32)] (97, I, J, R) _
        refine az_E.br (c := (1 : Int32) = 0) (tt := 17) (ff := 20) (L' := [.ref 61, .int a1]) (S' := []) (σ' := (97, I, J, R)) rfl (fun hn => absurd hn (by decide)) (fun _ => ?_)
        refine az_E.sn 6 (pc' := 28) (L' := [.ref 61, .int a1]) (S' := [.int ((I 61 2) - (1 : Int32)), .int (0 : Int32), .int a1]) (σ' := (97, I, J, R)) rfl ?_
        refine az_E.call (d := 0) (k' := 131) (vs := [.int a1, .int (0 : Int32), .int ((I 61 2) - (1 : Int32))]) (pc' := 31) (S' := []) rfl ?_ (fun _ _ hq => hq)
        show az_E az_F ex 0 131 0 [.int a1, .int (0 : Int32), .int ((I 61 2) - (1 : Int32))] [] (97, I, J, R) _
        refine az_E.sn 2 (pc' := 2) (L' := [.int a1, .int (0 : Int32), .int ((I 61 2) - (1 : Int32))]) (S' := [.int (0 : Int32), .int a1]) (σ' := (97, I, J, R)) rfl ?_
        refine az_E.br (c := a1 < (0 : Int32)) (tt := 14) (ff := 5) (L' := [.int a1, .int (0 : Int32), .int ((I 61 2) - (1 : Int32))]) (S' := []) (σ' := (97, I, J, R)) rfl (fun hc_4 => ?_) (fun hc_4 => ?_)
        · rw [if_pos hc_4] at h
          refine az_E.sn 1 (pc' := 15) (L' := [.int a1, .int (0 : Int32), .int ((I 61 2) - (1 : Int32))]) (S' := [.int (0 : Int32)]) (σ' := (97, I, J, R)) rfl ?_
          refine az_E.ret (v := some (.int (0 : Int32))) (σ' := (97, I, J, R)) rfl ?_
          show az_E az_F ex 1 61 31 [.ref 61, .int a1] [.int (0 : Int32)] (97, I, J, R) _
          refine az_E.br (c := (0 : Int32) = 0) (tt := 38) (ff := 34) (L' := [.ref 61, .int a1]) (S' := []) (σ' := (97, I, J, R)) rfl (fun _ => ?_) (fun hn => absurd (by decide) hn)
          refine az_E.sn 1 (pc' := 40) (L' := [.ref 61, .int a1]) (S' := [.int (-13 : Int32)]) (σ' := (97, I, J, R)) rfl ?_
          have h := Option.some.inj h
          subst h
          exact az_E.ret (v := some (.int (-13 : Int32))) (σ' := (97, I, J, R)) rfl hQ
        · rw [if_neg hc_4] at h
          refine az_E.sn 2 (pc' := 7) (L' := [.int a1, .int (0 : Int32), .int ((I 61 2) - (1 : Int32))]) (S' := [.int ((I 61 2) - (1 : Int32)), .int a1]) (σ' := (97, I, J, R)) rfl ?_
          refine az_E.br (c := ((I 61 2) - (1 : Int32)) < a1) (tt := 14) (ff := 10) (L' := [.int a1, .int (0 : Int32), .int ((I 61 2) - (1 : Int32))]) (S' := []) (σ' := (97, I, J, R)) rfl (fun hc_5 => ?_) (fun hc_5 => ?_)
          · rw [if_pos hc_5] at h
            refine az_E.sn 1 (pc' := 15) (L' := [.int a1, .int (0 : Int32), .int ((I 61 2) - (1 : Int32))]) (S' := [.int (0 : Int32)]) (σ' := (97, I, J, R)) rfl ?_
            refine az_E.ret (v := some (.int (0 : Int32))) (σ' := (97, I, J, R)) rfl ?_
            show az_E az_F ex 1 61 31 [.ref 61, .int a1] [.int (0 : Int32)] (97, I, J, R) _
            refine az_E.br (c := (0 : Int32) = 0) (tt := 38) (ff := 34) (L' := [.ref 61, .int a1]) (S' := []) (σ' := (97, I, J, R)) rfl (fun _ => ?_) (fun hn => absurd (by decide) hn)
            refine az_E.sn 1 (pc' := 40) (L' := [.ref 61, .int a1]) (S' := [.int (-13 : Int32)]) (σ' := (97, I, J, R)) rfl ?_
            have h := Option.some.inj h
            subst h
            exact az_E.ret (v := some (.int (-13 : Int32))) (σ' := (97, I, J, R)) rfl hQ
          · rw [if_neg hc_5] at h
            refine az_E.sn 2 (pc' := 15) (L' := [.int a1, .int (0 : Int32), .int ((I 61 2) - (1 : Int32))]) (S' := [.int (1 : Int32)]) (σ' := (97, I, J, R)) rfl ?_
            refine az_E.ret (v := some (.int (1 : Int32))) (σ' := (97, I, J, R)) rfl ?_
            show az_E az_F ex 1 61 31 [.ref 61, .int a1] [.int (1 : Int32)] (97, I, J, R) _
            refine az_E.br (c := (1 : Int32) = 0) (tt := 38) (ff := 34) (L' := [.ref 61, .int a1]) (S' := []) (σ' := (97, I, J, R)) rfl (fun hn => absurd hn (by decide)) (fun _ => ?_)
            refine az_E.sn 2 (pc' := 40) (L' := [.ref 61, .int a1]) (S' := [.int (0 : Int32)]) (σ' := (97, I, J, R)) rfl ?_
            have h := Option.some.inj h
            subst h
            exact az_E.ret (v := some (.int (0 : Int32))) (σ' := (97, I, J, R)) rfl hQ
  · rw [if_neg hc_1] at h
    refine az_E.sn 1 (pc' := 21) (L' := [.ref 61]) (S' := [.int (0 : Int32)]) (σ' := (97, I, J, R)) rfl ?_
    refine az_E.ret (v := some (.int (0 : Int32))) (σ' := (97, I, J, R)) rfl ?_
    show az_E az_F ex 1 61 4 [.ref 61, .int a1] [.int (0 : Int32)] (97, I, J, R) _
    refine az_E.br (c := (0 : Int32) = 0) (tt := 10) (ff := 7) (L' := [.ref 61, .int a1]) (S' := []) (σ' := (97, I, J, R)) rfl (fun _ => ?_) (fun hn => absurd (by decide) hn)
    refine az_E.sn 1 (pc' := 11) (L' := [.ref 61, .int a1]) (S' := [.ref 61]) (σ' := (97, I, J, R)) rfl ?_
    refine az_E.call (d := 0) (k' := 55) (vs := [.ref 61]) (pc' := 14) (S' := []) rfl ?_ (fun _ _ hq => hq)
    show az_E az_F ex 0 55 0 [.ref 61] [] (97, I, J, R) _
    refine az_E.sn 3 (pc' := 5) (L' := [.ref 61]) (S' := [.int (-1 : Int32), .int (I 61 1)]) (σ' := (97, I, J, R)) rfl ?_
    refine az_E.br (c := (I 61 1) = (-1 : Int32)) (tt := 12) (ff := 8) (L' := [.ref 61]) (S' := []) (σ' := (97, I, J, R)) rfl (fun hc_6 => ?_) (fun hc_6 => ?_)
    · rw [if_pos hc_6] at h
      refine az_E.sn 1 (pc' := 13) (L' := [.ref 61]) (S' := [.int (0 : Int32)]) (σ' := (97, I, J, R)) rfl ?_
      refine az_E.ret (v := some (.int (0 : Int32))) (σ' := (97, I, J, R)) rfl ?_
      show az_E az_F ex 1 61 14 [.ref 61, .int a1] [.int (0 : Int32)] (97, I, J, R) _
      refine az_E.br (c := (0 : Int32) = 0) (tt := 17) (ff := 20) (L' := [.ref 61, .int a1]) (S' := []) (σ' := (97, I, J, R)) rfl (fun _ => ?_) (fun hn => absurd (by decide) hn)
      refine az_E.sn 1 (pc' := 19) (L' := [.ref 61, .int a1]) (S' := [.int (-12 : Int32)]) (σ' := (97, I, J, R)) rfl ?_
      have h := Option.some.inj h
      subst h
      exact az_E.ret (v := some (.int (-12 : Int32))) (σ' := (97, I, J, R)) rfl hQ
    · rw [if_neg hc_6] at h
      refine az_E.sn 2 (pc' := 13) (L' := [.ref 61]) (S' := [.int (1 : Int32)]) (σ' := (97, I, J, R)) rfl ?_
      refine az_E.ret (v := some (.int (1 : Int32))) (σ' := (97, I, J, R)) rfl ?_
      show az_E az_F ex 1 61 14 [.ref 61, .int a1] [.int (1 : Int32)] (97, I, J, R) _
      refine az_E.br (c := (1 : Int32) = 0) (tt := 17) (ff := 20) (L' := [.ref 61, .int a1]) (S' := []) (σ' := (97, I, J, R)) rfl (fun hn => absurd hn (by decide)) (fun _ => ?_)
      refine az_E.sn 6 (pc' := 28) (L' := [.ref 61, .int a1]) (S' := [.int ((I 61 2) - (1 : Int32)), .int (0 : Int32), .int a1]) (σ' := (97, I, J, R)) rfl ?_
      refine az_E.call (d := 0) (k' := 131) (vs := [.int a1, .int (0 : Int32), .int ((I 61 2) - (1 : Int32))]) (pc' := 31) (S' := []) rfl ?_ (fun _ _ hq => hq)
      show az_E az_F ex 0 131 0 [.int a1, .int (0 : Int32), .int ((I 61 2) - (1 : Int32))] [] (97, I, J, R) _
      refine az_E.sn 2 (pc' := 2) (L' := [.int a1, .int (0 : Int32), .int ((I 61 2) - (1 : Int32))]) (S' := [.int (0 : Int32), .int a1]) (σ' := (97, I, J, R)) rfl ?_
      refine az_E.br (c := a1 < (0 : Int32)) (tt := 14) (ff := 5) (L' := [.int a1, .int (0 : Int32), .int ((I 61 2) - (1 : Int32))]) (S' := []) (σ' := (97, I, J, R)) rfl (fun hc_7 => ?_) (fun hc_7 => ?_)
      · rw [if_pos hc_7] at h
        refine az_E.sn 1 (pc' := 15) (L' := [.int a1, .int (0 : Int32), .int ((I 61 2) - (1 : Int32))]) (S' := [.int (0 : Int32)]) (σ' := (97, I, J, R)) rfl ?_
        refine az_E.ret (v := some (.int (0 : Int32))) (σ' := (97, I, J, R)) rfl ?_
        show az_E az_F ex 1 61 31 [.ref 61, .int a1] [.int (0 : Int32)] (97, I, J, R) _
        refine az_E.br (c := (0 : Int32) = 0) (tt := 38) (ff := 34) (L' := [.ref 61, .int a1]) (S' := []) (σ' := (97, I, J, R)) rfl (fun _ => ?_) (fun hn => absurd (by decide) hn)
        refine az_E.sn 1 (pc' := 40) (L' := [.ref 61, .int a1]) (S' := [.int (-13 : Int32)]) (σ' := (97, I, J, R)) rfl ?_
        have h := Option.some.inj h
        subst h
        exact az_E.ret (v := some (.int (-13 : Int32))) (σ' := (97, I, J, R)) rfl hQ
      · rw [if_neg hc_7] at h
        refine az_E.sn 2 (pc' := 7) (L' := [.int a1, .int (0 : Int32), .int ((I 61 2) - (1 : Int32))]) (S' := [.int ((I 61 2) - (1 : Int32)), .int a1]) (σ' := (97, I, J, R)) rfl ?_
        refine az_E.br (c := ((I 61 2) - (1 : Int32)) < a1) (tt := 14) (ff := 10) (L' := [.int a1, .int (0 : Int32), .int ((I 61 2) - (1 : Int32))]) (S' := []) (σ' := (97, I, J, R)) rfl (fun hc_8 => ?_) (fun hc_8 => ?_)
        · rw [if_pos hc_8] at h
          refine az_E.sn 1 (pc' := 15) (L' := [.int a1, .int (0 : Int32), .int ((I 61 2) - (1 : Int32))]) (S' := [.int (0 : Int32)]) (σ' := (97, I, J, R)) rfl ?_
          refine az_E.ret (v := some (.int (0 : Int32))) (σ' := (97, I, J, R)) rfl ?_
          show az_E az_F ex 1 61 31 [.ref 61, .int a1] [.int (0 : Int32)] (97, I, J, R) _
          refine az_E.br (c := (0 : Int32) = 0) (tt := 38) (ff := 34) (L' := [.ref 61, .int a1]) (S' := []) (σ' := (97, I, J, R)) rfl (fun _ => ?_) (fun hn => absurd (by decide) hn)
          refine az_E.sn 1 (pc' := 40) (L' := [.ref 61, .int a1]) (S' := [.int (-13 : Int32)]) (σ' := (97, I, J, R)) rfl ?_
          have h := Option.some.inj h
          subst h
          exact az_E.ret (v := some (.int (-13 : Int32))) (σ' := (97, I, J, R)) rfl hQ
        · rw [if_neg hc_8] at h
          refine az_E.sn 2 (pc' := 15) (L' := [.int a1, .int (0 : Int32), .int ((I 61 2) - (1 : Int32))]) (S' := [.int (1 : Int32)]) (σ' := (97, I, J, R)) rfl ?_
          refine az_E.ret (v := some (.int (1 : Int32))) (σ' := (97, I, J, R)) rfl ?_
          show az_E az_F ex 1 61 31 [.ref 61, .int a1] [.int (1 : Int32)] (97, I, J, R) _
          refine az_E.br (c := (1 : Int32) = 0) (tt := 38) (ff := 34) (L' := [.ref 61, .int a1]) (S' := []) (σ' := (97, I, J, R)) rfl (fun hn => absurd hn (by decide)) (fun _ => ?_)
          refine az_E.sn 2 (pc' := 40) (L' := [.ref 61, .int a1]) (S' := [.int (0 : Int32)]) (σ' := (97, I, J, R)) rfl ?_
          have h := Option.some.inj h
          subst h
          exact az_E.ret (v := some (.int (0 : Int32))) (σ' := (97, I, J, R)) rfl hQ
set_option maxRecDepth 100000 in
set_option maxHeartbeats 4000000 in
theorem re_Sh_lowestBits_61 {ex : az_X} {I : Nat → Nat → Int32} {J : Nat → Nat → Int64} {R : Nat → Nat → Option Nat} {a1 : Int64} {o : Int64} (h : rs_Sh_lowestBits 61 I a1 = some o) {Q : Option Value → az_S → Prop} (hQ : Q (some (.long o)) (97, I, J, R)) : az_E az_F ex 0 62 0 [.ref 61, .long a1, .retAddr 0] [] (97, I, J, R) Q := by
  unfold rs_Sh_lowestBits at h
  refine az_E.sn 2 (pc' := 4) (L' := [.ref 61, .long a1, .retAddr 0]) (S' := [.int (I 61 1)]) (σ' := (97, I, J, R)) rfl ?_
  by_cases hc_1 : (I 61 1) = (0 : Int32)
  · rw [if_pos hc_1] at h
    refine az_E.sw hc_1 (pc' := 40) (L' := [.ref 61, .long a1, .retAddr 0]) (S' := []) (σ' := (97, I, J, R)) rfl ?_
    refine az_E.sn 4 (pc' := 44) (L' := [.ref 61, .long a1, .retAddr 0]) (S' := [.long a1.toInt32.toInt8.toInt32.toInt64]) (σ' := (97, I, J, R)) rfl ?_
    have h := Option.some.inj h
    subst h
    exact az_E.ret (v := some (.long a1.toInt32.toInt8.toInt32.toInt64)) (σ' := (97, I, J, R)) rfl hQ
  · rw [if_neg hc_1] at h
    by_cases hc_2 : (I 61 1) = (1 : Int32)
    · rw [if_pos hc_2] at h
      refine az_E.sw hc_2 (pc' := 45) (L' := [.ref 61, .long a1, .retAddr 0]) (S' := []) (σ' := (97, I, J, R)) rfl ?_
      refine az_E.sn 4 (pc' := 49) (L' := [.ref 61, .long a1, .retAddr 0]) (S' := [.long a1.toInt32.toInt16.toInt32.toInt64]) (σ' := (97, I, J, R)) rfl ?_
      have h := Option.some.inj h
      subst h
      exact az_E.ret (v := some (.long a1.toInt32.toInt16.toInt32.toInt64)) (σ' := (97, I, J, R)) rfl hQ
    · rw [if_neg hc_2] at h
      by_cases hc_3 : (I 61 1) = (2 : Int32)
      · rw [if_pos hc_3] at h
        refine az_E.sw hc_3 (pc' := 50) (L' := [.ref 61, .long a1, .retAddr 0]) (S' := []) (σ' := (97, I, J, R)) rfl ?_
        refine az_E.sn 3 (pc' := 53) (L' := [.ref 61, .long a1, .retAddr 0]) (S' := [.long a1.toInt32.toInt64]) (σ' := (97, I, J, R)) rfl ?_
        have h := Option.some.inj h
        subst h
        exact az_E.ret (v := some (.long a1.toInt32.toInt64)) (σ' := (97, I, J, R)) rfl hQ
      · rw [if_neg hc_3] at h
        by_cases hc_4 : (I 61 1) = (3 : Int32)
        · rw [if_pos hc_4] at h
          refine az_E.sw hc_4 (pc' := 66) (L' := [.ref 61, .long a1, .retAddr 0]) (S' := []) (σ' := (97, I, J, R)) rfl ?_
          refine az_E.sn 1 (pc' := 67) (L' := [.ref 61, .long a1, .retAddr 0]) (S' := [.long a1]) (σ' := (97, I, J, R)) rfl ?_
          have h := Option.some.inj h
          subst h
          exact az_E.ret (v := some (.long a1)) (σ' := (97, I, J, R)) rfl hQ
        · rw [if_neg hc_4] at h
          by_cases hc_5 : (I 61 1) = (4 : Int32)
          · rw [if_pos hc_5] at h
            refine az_E.sw hc_5 (pc' := 54) (L' := [.ref 61, .long a1, .retAddr 0]) (S' := []) (σ' := (97, I, J, R)) rfl ?_
            refine az_E.sn 3 (pc' := 57) (L' := [.ref 61, .long a1, .retAddr 0]) (S' := [.int (lg_cmp a1 (0 : Int64))]) (σ' := (97, I, J, R)) rfl ?_
            refine az_E.br (c := (lg_cmp a1 (0 : Int64)) = 0) (tt := 64) (ff := 60) (L' := [.ref 61, .long a1, .retAddr 0]) (S' := []) (σ' := (97, I, J, R)) rfl (fun hc_6 => ?_) (fun hc_6 => ?_)
            · rw [if_pos hc_6] at h
              refine az_E.sn 1 (pc' := 65) (L' := [.ref 61, .long a1, .retAddr 0]) (S' := [.long (0 : Int64)]) (σ' := (97, I, J, R)) rfl ?_
              have h := Option.some.inj h
              subst h
              exact az_E.ret (v := some (.long (0 : Int64))) (σ' := (97, I, J, R)) rfl hQ
            · rw [if_neg hc_6] at h
              refine az_E.sn 2 (pc' := 65) (L' := [.ref 61, .long a1, .retAddr 0]) (S' := [.long (1 : Int64)]) (σ' := (97, I, J, R)) rfl ?_
              have h := Option.some.inj h
              subst h
              exact az_E.ret (v := some (.long (1 : Int64))) (σ' := (97, I, J, R)) rfl hQ
          · rw [if_neg hc_5] at h
            have ehc_1 := az_nei hc_1 (z := 0) (by decide)
            have ehc_2 := az_nei hc_2 (z := 1) (by decide)
            have ehc_3 := az_nei hc_3 (z := 2) (by decide)
            have ehc_4 := az_nei hc_4 (z := 3) (by decide)
            have ehc_5 := az_nei hc_5 (z := 4) (by decide)
            refine az_E.swd (a := 66) (lo := 0) (hi := 4) (offs := #[36, 41, 46, 62, 50]) rfl (by omega) ?_
            refine az_E.sn 1 (pc' := 67) (L' := [.ref 61, .long a1, .retAddr 0]) (S' := [.long a1]) (σ' := (97, I, J, R)) rfl ?_
            have h := Option.some.inj h
            subst h
            exact az_E.ret (v := some (.long a1)) (σ' := (97, I, J, R)) rfl hQ
set_option maxRecDepth 100000 in
set_option maxHeartbeats 4000000 in
theorem re_Sh_lowestBits_63 {ex : az_X} {I : Nat → Nat → Int32} {J : Nat → Nat → Int64} {R : Nat → Nat → Option Nat} {a1 : Int64} {o : Int64} (h : rs_Sh_lowestBits 63 I a1 = some o) {Q : Option Value → az_S → Prop} (hQ : Q (some (.long o)) (97, I, J, R)) : az_E az_F ex 0 62 0 [.ref 63, .long a1, .retAddr 0] [] (97, I, J, R) Q := by
  unfold rs_Sh_lowestBits at h
  refine az_E.sn 2 (pc' := 4) (L' := [.ref 63, .long a1, .retAddr 0]) (S' := [.int (I 63 1)]) (σ' := (97, I, J, R)) rfl ?_
  by_cases hc_1 : (I 63 1) = (0 : Int32)
  · rw [if_pos hc_1] at h
    refine az_E.sw hc_1 (pc' := 40) (L' := [.ref 63, .long a1, .retAddr 0]) (S' := []) (σ' := (97, I, J, R)) rfl ?_
    refine az_E.sn 4 (pc' := 44) (L' := [.ref 63, .long a1, .retAddr 0]) (S' := [.long a1.toInt32.toInt8.toInt32.toInt64]) (σ' := (97, I, J, R)) rfl ?_
    have h := Option.some.inj h
    subst h
    exact az_E.ret (v := some (.long a1.toInt32.toInt8.toInt32.toInt64)) (σ' := (97, I, J, R)) rfl hQ
  · rw [if_neg hc_1] at h
    by_cases hc_2 : (I 63 1) = (1 : Int32)
    · rw [if_pos hc_2] at h
      refine az_E.sw hc_2 (pc' := 45) (L' := [.ref 63, .long a1, .retAddr 0]) (S' := []) (σ' := (97, I, J, R)) rfl ?_
      refine az_E.sn 4 (pc' := 49) (L' := [.ref 63, .long a1, .retAddr 0]) (S' := [.long a1.toInt32.toInt16.toInt32.toInt64]) (σ' := (97, I, J, R)) rfl ?_
      have h := Option.some.inj h
      subst h
      exact az_E.ret (v := some (.long a1.toInt32.toInt16.toInt32.toInt64)) (σ' := (97, I, J, R)) rfl hQ
    · rw [if_neg hc_2] at h
      by_cases hc_3 : (I 63 1) = (2 : Int32)
      · rw [if_pos hc_3] at h
        refine az_E.sw hc_3 (pc' := 50) (L' := [.ref 63, .long a1, .retAddr 0]) (S' := []) (σ' := (97, I, J, R)) rfl ?_
        refine az_E.sn 3 (pc' := 53) (L' := [.ref 63, .long a1, .retAddr 0]) (S' := [.long a1.toInt32.toInt64]) (σ' := (97, I, J, R)) rfl ?_
        have h := Option.some.inj h
        subst h
        exact az_E.ret (v := some (.long a1.toInt32.toInt64)) (σ' := (97, I, J, R)) rfl hQ
      · rw [if_neg hc_3] at h
        by_cases hc_4 : (I 63 1) = (3 : Int32)
        · rw [if_pos hc_4] at h
          refine az_E.sw hc_4 (pc' := 66) (L' := [.ref 63, .long a1, .retAddr 0]) (S' := []) (σ' := (97, I, J, R)) rfl ?_
          refine az_E.sn 1 (pc' := 67) (L' := [.ref 63, .long a1, .retAddr 0]) (S' := [.long a1]) (σ' := (97, I, J, R)) rfl ?_
          have h := Option.some.inj h
          subst h
          exact az_E.ret (v := some (.long a1)) (σ' := (97, I, J, R)) rfl hQ
        · rw [if_neg hc_4] at h
          by_cases hc_5 : (I 63 1) = (4 : Int32)
          · rw [if_pos hc_5] at h
            refine az_E.sw hc_5 (pc' := 54) (L' := [.ref 63, .long a1, .retAddr 0]) (S' := []) (σ' := (97, I, J, R)) rfl ?_
            refine az_E.sn 3 (pc' := 57) (L' := [.ref 63, .long a1, .retAddr 0]) (S' := [.int (lg_cmp a1 (0 : Int64))]) (σ' := (97, I, J, R)) rfl ?_
            refine az_E.br (c := (lg_cmp a1 (0 : Int64)) = 0) (tt := 64) (ff := 60) (L' := [.ref 63, .long a1, .retAddr 0]) (S' := []) (σ' := (97, I, J, R)) rfl (fun hc_6 => ?_) (fun hc_6 => ?_)
            · rw [if_pos hc_6] at h
              refine az_E.sn 1 (pc' := 65) (L' := [.ref 63, .long a1, .retAddr 0]) (S' := [.long (0 : Int64)]) (σ' := (97, I, J, R)) rfl ?_
              have h := Option.some.inj h
              subst h
              exact az_E.ret (v := some (.long (0 : Int64))) (σ' := (97, I, J, R)) rfl hQ
            · rw [if_neg hc_6] at h
              refine az_E.sn 2 (pc' := 65) (L' := [.ref 63, .long a1, .retAddr 0]) (S' := [.long (1 : Int64)]) (σ' := (97, I, J, R)) rfl ?_
              have h := Option.some.inj h
              subst h
              exact az_E.ret (v := some (.long (1 : Int64))) (σ' := (97, I, J, R)) rfl hQ
          · rw [if_neg hc_5] at h
            have ehc_1 := az_nei hc_1 (z := 0) (by decide)
            have ehc_2 := az_nei hc_2 (z := 1) (by decide)
            have ehc_3 := az_nei hc_3 (z := 2) (by decide)
            have ehc_4 := az_nei hc_4 (z := 3) (by decide)
            have ehc_5 := az_nei hc_5 (z := 4) (by decide)
            refine az_E.swd (a := 66) (lo := 0) (hi := 4) (offs := #[36, 41, 46, 62, 50]) rfl (by omega) ?_
            refine az_E.sn 1 (pc' := 67) (L' := [.ref 63, .long a1, .retAddr 0]) (S' := [.long a1]) (σ' := (97, I, J, R)) rfl ?_
            have h := Option.some.inj h
            subst h
            exact az_E.ret (v := some (.long a1)) (σ' := (97, I, J, R)) rfl hQ
set_option maxRecDepth 100000 in
set_option maxHeartbeats 4000000 in
theorem re_Sh_lowestBits_65 {ex : az_X} {I : Nat → Nat → Int32} {J : Nat → Nat → Int64} {R : Nat → Nat → Option Nat} {a1 : Int64} {o : Int64} (h : rs_Sh_lowestBits 65 I a1 = some o) {Q : Option Value → az_S → Prop} (hQ : Q (some (.long o)) (97, I, J, R)) : az_E az_F ex 0 62 0 [.ref 65, .long a1, .retAddr 0] [] (97, I, J, R) Q := by
  unfold rs_Sh_lowestBits at h
  refine az_E.sn 2 (pc' := 4) (L' := [.ref 65, .long a1, .retAddr 0]) (S' := [.int (I 65 1)]) (σ' := (97, I, J, R)) rfl ?_
  by_cases hc_1 : (I 65 1) = (0 : Int32)
  · rw [if_pos hc_1] at h
    refine az_E.sw hc_1 (pc' := 40) (L' := [.ref 65, .long a1, .retAddr 0]) (S' := []) (σ' := (97, I, J, R)) rfl ?_
    refine az_E.sn 4 (pc' := 44) (L' := [.ref 65, .long a1, .retAddr 0]) (S' := [.long a1.toInt32.toInt8.toInt32.toInt64]) (σ' := (97, I, J, R)) rfl ?_
    have h := Option.some.inj h
    subst h
    exact az_E.ret (v := some (.long a1.toInt32.toInt8.toInt32.toInt64)) (σ' := (97, I, J, R)) rfl hQ
  · rw [if_neg hc_1] at h
    by_cases hc_2 : (I 65 1) = (1 : Int32)
    · rw [if_pos hc_2] at h
      refine az_E.sw hc_2 (pc' := 45) (L' := [.ref 65, .long a1, .retAddr 0]) (S' := []) (σ' := (97, I, J, R)) rfl ?_
      refine az_E.sn 4 (pc' := 49) (L' := [.ref 65, .long a1, .retAddr 0]) (S' := [.long a1.toInt32.toInt16.toInt32.toInt64]) (σ' := (97, I, J, R)) rfl ?_
      have h := Option.some.inj h
      subst h
      exact az_E.ret (v := some (.long a1.toInt32.toInt16.toInt32.toInt64)) (σ' := (97, I, J, R)) rfl hQ
    · rw [if_neg hc_2] at h
      by_cases hc_3 : (I 65 1) = (2 : Int32)
      · rw [if_pos hc_3] at h
        refine az_E.sw hc_3 (pc' := 50) (L' := [.ref 65, .long a1, .retAddr 0]) (S' := []) (σ' := (97, I, J, R)) rfl ?_
        refine az_E.sn 3 (pc' := 53) (L' := [.ref 65, .long a1, .retAddr 0]) (S' := [.long a1.toInt32.toInt64]) (σ' := (97, I, J, R)) rfl ?_
        have h := Option.some.inj h
        subst h
        exact az_E.ret (v := some (.long a1.toInt32.toInt64)) (σ' := (97, I, J, R)) rfl hQ
      · rw [if_neg hc_3] at h
        by_cases hc_4 : (I 65 1) = (3 : Int32)
        · rw [if_pos hc_4] at h
          refine az_E.sw hc_4 (pc' := 66) (L' := [.ref 65, .long a1, .retAddr 0]) (S' := []) (σ' := (97, I, J, R)) rfl ?_
          refine az_E.sn 1 (pc' := 67) (L' := [.ref 65, .long a1, .retAddr 0]) (S' := [.long a1]) (σ' := (97, I, J, R)) rfl ?_
          have h := Option.some.inj h
          subst h
          exact az_E.ret (v := some (.long a1)) (σ' := (97, I, J, R)) rfl hQ
        · rw [if_neg hc_4] at h
          by_cases hc_5 : (I 65 1) = (4 : Int32)
          · rw [if_pos hc_5] at h
            refine az_E.sw hc_5 (pc' := 54) (L' := [.ref 65, .long a1, .retAddr 0]) (S' := []) (σ' := (97, I, J, R)) rfl ?_
            refine az_E.sn 3 (pc' := 57) (L' := [.ref 65, .long a1, .retAddr 0]) (S' := [.int (lg_cmp a1 (0 : Int64))]) (σ' := (97, I, J, R)) rfl ?_
            refine az_E.br (c := (lg_cmp a1 (0 : Int64)) = 0) (tt := 64) (ff := 60) (L' := [.ref 65, .long a1, .retAddr 0]) (S' := []) (σ' := (97, I, J, R)) rfl (fun hc_6 => ?_) (fun hc_6 => ?_)
            · rw [if_pos hc_6] at h
              refine az_E.sn 1 (pc' := 65) (L' := [.ref 65, .long a1, .retAddr 0]) (S' := [.long (0 : Int64)]) (σ' := (97, I, J, R)) rfl ?_
              have h := Option.some.inj h
              subst h
              exact az_E.ret (v := some (.long (0 : Int64))) (σ' := (97, I, J, R)) rfl hQ
            · rw [if_neg hc_6] at h
              refine az_E.sn 2 (pc' := 65) (L' := [.ref 65, .long a1, .retAddr 0]) (S' := [.long (1 : Int64)]) (σ' := (97, I, J, R)) rfl ?_
              have h := Option.some.inj h
              subst h
              exact az_E.ret (v := some (.long (1 : Int64))) (σ' := (97, I, J, R)) rfl hQ
          · rw [if_neg hc_5] at h
            have ehc_1 := az_nei hc_1 (z := 0) (by decide)
            have ehc_2 := az_nei hc_2 (z := 1) (by decide)
            have ehc_3 := az_nei hc_3 (z := 2) (by decide)
            have ehc_4 := az_nei hc_4 (z := 3) (by decide)
            have ehc_5 := az_nei hc_5 (z := 4) (by decide)
            refine az_E.swd (a := 66) (lo := 0) (hi := 4) (offs := #[36, 41, 46, 62, 50]) rfl (by omega) ?_
            refine az_E.sn 1 (pc' := 67) (L' := [.ref 65, .long a1, .retAddr 0]) (S' := [.long a1]) (σ' := (97, I, J, R)) rfl ?_
            have h := Option.some.inj h
            subst h
            exact az_E.ret (v := some (.long a1)) (σ' := (97, I, J, R)) rfl hQ
set_option maxRecDepth 100000 in
set_option maxHeartbeats 4000000 in
theorem re_Sh_lowestBits_67 {ex : az_X} {I : Nat → Nat → Int32} {J : Nat → Nat → Int64} {R : Nat → Nat → Option Nat} {a1 : Int64} {o : Int64} (h : rs_Sh_lowestBits 67 I a1 = some o) {Q : Option Value → az_S → Prop} (hQ : Q (some (.long o)) (97, I, J, R)) : az_E az_F ex 0 62 0 [.ref 67, .long a1, .retAddr 0] [] (97, I, J, R) Q := by
  unfold rs_Sh_lowestBits at h
  refine az_E.sn 2 (pc' := 4) (L' := [.ref 67, .long a1, .retAddr 0]) (S' := [.int (I 67 1)]) (σ' := (97, I, J, R)) rfl ?_
  by_cases hc_1 : (I 67 1) = (0 : Int32)
  · rw [if_pos hc_1] at h
    refine az_E.sw hc_1 (pc' := 40) (L' := [.ref 67, .long a1, .retAddr 0]) (S' := []) (σ' := (97, I, J, R)) rfl ?_
    refine az_E.sn 4 (pc' := 44) (L' := [.ref 67, .long a1, .retAddr 0]) (S' := [.long a1.toInt32.toInt8.toInt32.toInt64]) (σ' := (97, I, J, R)) rfl ?_
    have h := Option.some.inj h
    subst h
    exact az_E.ret (v := some (.long a1.toInt32.toInt8.toInt32.toInt64)) (σ' := (97, I, J, R)) rfl hQ
  · rw [if_neg hc_1] at h
    by_cases hc_2 : (I 67 1) = (1 : Int32)
    · rw [if_pos hc_2] at h
      refine az_E.sw hc_2 (pc' := 45) (L' := [.ref 67, .long a1, .retAddr 0]) (S' := []) (σ' := (97, I, J, R)) rfl ?_
      refine az_E.sn 4 (pc' := 49) (L' := [.ref 67, .long a1, .retAddr 0]) (S' := [.long a1.toInt32.toInt16.toInt32.toInt64]) (σ' := (97, I, J, R)) rfl ?_
      have h := Option.some.inj h
      subst h
      exact az_E.ret (v := some (.long a1.toInt32.toInt16.toInt32.toInt64)) (σ' := (97, I, J, R)) rfl hQ
    · rw [if_neg hc_2] at h
      by_cases hc_3 : (I 67 1) = (2 : Int32)
      · rw [if_pos hc_3] at h
        refine az_E.sw hc_3 (pc' := 50) (L' := [.ref 67, .long a1, .retAddr 0]) (S' := []) (σ' := (97, I, J, R)) rfl ?_
        refine az_E.sn 3 (pc' := 53) (L' := [.ref 67, .long a1, .retAddr 0]) (S' := [.long a1.toInt32.toInt64]) (σ' := (97, I, J, R)) rfl ?_
        have h := Option.some.inj h
        subst h
        exact az_E.ret (v := some (.long a1.toInt32.toInt64)) (σ' := (97, I, J, R)) rfl hQ
      · rw [if_neg hc_3] at h
        by_cases hc_4 : (I 67 1) = (3 : Int32)
        · rw [if_pos hc_4] at h
          refine az_E.sw hc_4 (pc' := 66) (L' := [.ref 67, .long a1, .retAddr 0]) (S' := []) (σ' := (97, I, J, R)) rfl ?_
          refine az_E.sn 1 (pc' := 67) (L' := [.ref 67, .long a1, .retAddr 0]) (S' := [.long a1]) (σ' := (97, I, J, R)) rfl ?_
          have h := Option.some.inj h
          subst h
          exact az_E.ret (v := some (.long a1)) (σ' := (97, I, J, R)) rfl hQ
        · rw [if_neg hc_4] at h
          by_cases hc_5 : (I 67 1) = (4 : Int32)
          · rw [if_pos hc_5] at h
            refine az_E.sw hc_5 (pc' := 54) (L' := [.ref 67, .long a1, .retAddr 0]) (S' := []) (σ' := (97, I, J, R)) rfl ?_
            refine az_E.sn 3 (pc' := 57) (L' := [.ref 67, .long a1, .retAddr 0]) (S' := [.int (lg_cmp a1 (0 : Int64))]) (σ' := (97, I, J, R)) rfl ?_
            refine az_E.br (c := (lg_cmp a1 (0 : Int64)) = 0) (tt := 64) (ff := 60) (L' := [.ref 67, .long a1, .retAddr 0]) (S' := []) (σ' := (97, I, J, R)) rfl (fun hc_6 => ?_) (fun hc_6 => ?_)
            · rw [if_pos hc_6] at h
              refine az_E.sn 1 (pc' := 65) (L' := [.ref 67, .long a1, .retAddr 0]) (S' := [.long (0 : Int64)]) (σ' := (97, I, J, R)) rfl ?_
              have h := Option.some.inj h
              subst h
              exact az_E.ret (v := some (.long (0 : Int64))) (σ' := (97, I, J, R)) rfl hQ
            · rw [if_neg hc_6] at h
              refine az_E.sn 2 (pc' := 65) (L' := [.ref 67, .long a1, .retAddr 0]) (S' := [.long (1 : Int64)]) (σ' := (97, I, J, R)) rfl ?_
              have h := Option.some.inj h
              subst h
              exact az_E.ret (v := some (.long (1 : Int64))) (σ' := (97, I, J, R)) rfl hQ
          · rw [if_neg hc_5] at h
            have ehc_1 := az_nei hc_1 (z := 0) (by decide)
            have ehc_2 := az_nei hc_2 (z := 1) (by decide)
            have ehc_3 := az_nei hc_3 (z := 2) (by decide)
            have ehc_4 := az_nei hc_4 (z := 3) (by decide)
            have ehc_5 := az_nei hc_5 (z := 4) (by decide)
            refine az_E.swd (a := 66) (lo := 0) (hi := 4) (offs := #[36, 41, 46, 62, 50]) rfl (by omega) ?_
            refine az_E.sn 1 (pc' := 67) (L' := [.ref 67, .long a1, .retAddr 0]) (S' := [.long a1]) (σ' := (97, I, J, R)) rfl ?_
            have h := Option.some.inj h
            subst h
            exact az_E.ret (v := some (.long a1)) (σ' := (97, I, J, R)) rfl hQ
set_option maxRecDepth 100000 in
set_option maxHeartbeats 4000000 in
theorem re_Sh_lowestBits_69 {ex : az_X} {I : Nat → Nat → Int32} {J : Nat → Nat → Int64} {R : Nat → Nat → Option Nat} {a1 : Int64} {o : Int64} (h : rs_Sh_lowestBits 69 I a1 = some o) {Q : Option Value → az_S → Prop} (hQ : Q (some (.long o)) (97, I, J, R)) : az_E az_F ex 0 62 0 [.ref 69, .long a1, .retAddr 0] [] (97, I, J, R) Q := by
  unfold rs_Sh_lowestBits at h
  refine az_E.sn 2 (pc' := 4) (L' := [.ref 69, .long a1, .retAddr 0]) (S' := [.int (I 69 1)]) (σ' := (97, I, J, R)) rfl ?_
  by_cases hc_1 : (I 69 1) = (0 : Int32)
  · rw [if_pos hc_1] at h
    refine az_E.sw hc_1 (pc' := 40) (L' := [.ref 69, .long a1, .retAddr 0]) (S' := []) (σ' := (97, I, J, R)) rfl ?_
    refine az_E.sn 4 (pc' := 44) (L' := [.ref 69, .long a1, .retAddr 0]) (S' := [.long a1.toInt32.toInt8.toInt32.toInt64]) (σ' := (97, I, J, R)) rfl ?_
    have h := Option.some.inj h
    subst h
    exact az_E.ret (v := some (.long a1.toInt32.toInt8.toInt32.toInt64)) (σ' := (97, I, J, R)) rfl hQ
  · rw [if_neg hc_1] at h
    by_cases hc_2 : (I 69 1) = (1 : Int32)
    · rw [if_pos hc_2] at h
      refine az_E.sw hc_2 (pc' := 45) (L' := [.ref 69, .long a1, .retAddr 0]) (S' := []) (σ' := (97, I, J, R)) rfl ?_
      refine az_E.sn 4 (pc' := 49) (L' := [.ref 69, .long a1, .retAddr 0]) (S' := [.long a1.toInt32.toInt16.toInt32.toInt64]) (σ' := (97, I, J, R)) rfl ?_
      have h := Option.some.inj h
      subst h
      exact az_E.ret (v := some (.long a1.toInt32.toInt16.toInt32.toInt64)) (σ' := (97, I, J, R)) rfl hQ
    · rw [if_neg hc_2] at h
      by_cases hc_3 : (I 69 1) = (2 : Int32)
      · rw [if_pos hc_3] at h
        refine az_E.sw hc_3 (pc' := 50) (L' := [.ref 69, .long a1, .retAddr 0]) (S' := []) (σ' := (97, I, J, R)) rfl ?_
        refine az_E.sn 3 (pc' := 53) (L' := [.ref 69, .long a1, .retAddr 0]) (S' := [.long a1.toInt32.toInt64]) (σ' := (97, I, J, R)) rfl ?_
        have h := Option.some.inj h
        subst h
        exact az_E.ret (v := some (.long a1.toInt32.toInt64)) (σ' := (97, I, J, R)) rfl hQ
      · rw [if_neg hc_3] at h
        by_cases hc_4 : (I 69 1) = (3 : Int32)
        · rw [if_pos hc_4] at h
          refine az_E.sw hc_4 (pc' := 66) (L' := [.ref 69, .long a1, .retAddr 0]) (S' := []) (σ' := (97, I, J, R)) rfl ?_
          refine az_E.sn 1 (pc' := 67) (L' := [.ref 69, .long a1, .retAddr 0]) (S' := [.long a1]) (σ' := (97, I, J, R)) rfl ?_
          have h := Option.some.inj h
          subst h
          exact az_E.ret (v := some (.long a1)) (σ' := (97, I, J, R)) rfl hQ
        · rw [if_neg hc_4] at h
          by_cases hc_5 : (I 69 1) = (4 : Int32)
          · rw [if_pos hc_5] at h
            refine az_E.sw hc_5 (pc' := 54) (L' := [.ref 69, .long a1, .retAddr 0]) (S' := []) (σ' := (97, I, J, R)) rfl ?_
            refine az_E.sn 3 (pc' := 57) (L' := [.ref 69, .long a1, .retAddr 0]) (S' := [.int (lg_cmp a1 (0 : Int64))]) (σ' := (97, I, J, R)) rfl ?_
            refine az_E.br (c := (lg_cmp a1 (0 : Int64)) = 0) (tt := 64) (ff := 60) (L' := [.ref 69, .long a1, .retAddr 0]) (S' := []) (σ' := (97, I, J, R)) rfl (fun hc_6 => ?_) (fun hc_6 => ?_)
            · rw [if_pos hc_6] at h
              refine az_E.sn 1 (pc' := 65) (L' := [.ref 69, .long a1, .retAddr 0]) (S' := [.long (0 : Int64)]) (σ' := (97, I, J, R)) rfl ?_
              have h := Option.some.inj h
              subst h
              exact az_E.ret (v := some (.long (0 : Int64))) (σ' := (97, I, J, R)) rfl hQ
            · rw [if_neg hc_6] at h
              refine az_E.sn 2 (pc' := 65) (L' := [.ref 69, .long a1, .retAddr 0]) (S' := [.long (1 : Int64)]) (σ' := (97, I, J, R)) rfl ?_
              have h := Option.some.inj h
              subst h
              exact az_E.ret (v := some (.long (1 : Int64))) (σ' := (97, I, J, R)) rfl hQ
          · rw [if_neg hc_5] at h
            have ehc_1 := az_nei hc_1 (z := 0) (by decide)
            have ehc_2 := az_nei hc_2 (z := 1) (by decide)
            have ehc_3 := az_nei hc_3 (z := 2) (by decide)
            have ehc_4 := az_nei hc_4 (z := 3) (by decide)
            have ehc_5 := az_nei hc_5 (z := 4) (by decide)
            refine az_E.swd (a := 66) (lo := 0) (hi := 4) (offs := #[36, 41, 46, 62, 50]) rfl (by omega) ?_
            refine az_E.sn 1 (pc' := 67) (L' := [.ref 69, .long a1, .retAddr 0]) (S' := [.long a1]) (σ' := (97, I, J, R)) rfl ?_
            have h := Option.some.inj h
            subst h
            exact az_E.ret (v := some (.long a1)) (σ' := (97, I, J, R)) rfl hQ
set_option maxRecDepth 100000 in
set_option maxHeartbeats 4000000 in
theorem re_Sh_lowestBits_71 {ex : az_X} {I : Nat → Nat → Int32} {J : Nat → Nat → Int64} {R : Nat → Nat → Option Nat} {a1 : Int64} {o : Int64} (h : rs_Sh_lowestBits 71 I a1 = some o) {Q : Option Value → az_S → Prop} (hQ : Q (some (.long o)) (97, I, J, R)) : az_E az_F ex 0 62 0 [.ref 71, .long a1, .retAddr 0] [] (97, I, J, R) Q := by
  unfold rs_Sh_lowestBits at h
  refine az_E.sn 2 (pc' := 4) (L' := [.ref 71, .long a1, .retAddr 0]) (S' := [.int (I 71 1)]) (σ' := (97, I, J, R)) rfl ?_
  by_cases hc_1 : (I 71 1) = (0 : Int32)
  · rw [if_pos hc_1] at h
    refine az_E.sw hc_1 (pc' := 40) (L' := [.ref 71, .long a1, .retAddr 0]) (S' := []) (σ' := (97, I, J, R)) rfl ?_
    refine az_E.sn 4 (pc' := 44) (L' := [.ref 71, .long a1, .retAddr 0]) (S' := [.long a1.toInt32.toInt8.toInt32.toInt64]) (σ' := (97, I, J, R)) rfl ?_
    have h := Option.some.inj h
    subst h
    exact az_E.ret (v := some (.long a1.toInt32.toInt8.toInt32.toInt64)) (σ' := (97, I, J, R)) rfl hQ
  · rw [if_neg hc_1] at h
    by_cases hc_2 : (I 71 1) = (1 : Int32)
    · rw [if_pos hc_2] at h
      refine az_E.sw hc_2 (pc' := 45) (L' := [.ref 71, .long a1, .retAddr 0]) (S' := []) (σ' := (97, I, J, R)) rfl ?_
      refine az_E.sn 4 (pc' := 49) (L' := [.ref 71, .long a1, .retAddr 0]) (S' := [.long a1.toInt32.toInt16.toInt32.toInt64]) (σ' := (97, I, J, R)) rfl ?_
      have h := Option.some.inj h
      subst h
      exact az_E.ret (v := some (.long a1.toInt32.toInt16.toInt32.toInt64)) (σ' := (97, I, J, R)) rfl hQ
    · rw [if_neg hc_2] at h
      by_cases hc_3 : (I 71 1) = (2 : Int32)
      · rw [if_pos hc_3] at h
        refine az_E.sw hc_3 (pc' := 50) (L' := [.ref 71, .long a1, .retAddr 0]) (S' := []) (σ' := (97, I, J, R)) rfl ?_
        refine az_E.sn 3 (pc' := 53) (L' := [.ref 71, .long a1, .retAddr 0]) (S' := [.long a1.toInt32.toInt64]) (σ' := (97, I, J, R)) rfl ?_
        have h := Option.some.inj h
        subst h
        exact az_E.ret (v := some (.long a1.toInt32.toInt64)) (σ' := (97, I, J, R)) rfl hQ
      · rw [if_neg hc_3] at h
        by_cases hc_4 : (I 71 1) = (3 : Int32)
        · rw [if_pos hc_4] at h
          refine az_E.sw hc_4 (pc' := 66) (L' := [.ref 71, .long a1, .retAddr 0]) (S' := []) (σ' := (97, I, J, R)) rfl ?_
          refine az_E.sn 1 (pc' := 67) (L' := [.ref 71, .long a1, .retAddr 0]) (S' := [.long a1]) (σ' := (97, I, J, R)) rfl ?_
          have h := Option.some.inj h
          subst h
          exact az_E.ret (v := some (.long a1)) (σ' := (97, I, J, R)) rfl hQ
        · rw [if_neg hc_4] at h
          by_cases hc_5 : (I 71 1) = (4 : Int32)
          · rw [if_pos hc_5] at h
            refine az_E.sw hc_5 (pc' := 54) (L' := [.ref 71, .long a1, .retAddr 0]) (S' := []) (σ' := (97, I, J, R)) rfl ?_
            refine az_E.sn 3 (pc' := 57) (L' := [.ref 71, .long a1, .retAddr 0]) (S' := [.int (lg_cmp a1 (0 : Int64))]) (σ' := (97, I, J, R)) rfl ?_
            refine az_E.br (c := (lg_cmp a1 (0 : Int64)) = 0) (tt := 64) (ff := 60) (L' := [.ref 71, .long a1, .retAddr 0]) (S' := []) (σ' := (97, I, J, R)) rfl (fun hc_6 => ?_) (fun hc_6 => ?_)
            · rw [if_pos hc_6] at h
              refine az_E.sn 1 (pc' := 65) (L' := [.ref 71, .long a1, .retAddr 0]) (S' := [.long (0 : Int64)]) (σ' := (97, I, J, R)) rfl ?_
              have h := Option.some.inj h
              subst h
              exact az_E.ret (v := some (.long (0 : Int64))) (σ' := (97, I, J, R)) rfl hQ
            · rw [if_neg hc_6] at h
              refine az_E.sn 2 (pc' := 65) (L' := [.ref 71, .long a1, .retAddr 0]) (S' := [.long (1 : Int64)]) (σ' := (97, I, J, R)) rfl ?_
              have h := Option.some.inj h
              subst h
              exact az_E.ret (v := some (.long (1 : Int64))) (σ' := (97, I, J, R)) rfl hQ
          · rw [if_neg hc_5] at h
            have ehc_1 := az_nei hc_1 (z := 0) (by decide)
            have ehc_2 := az_nei hc_2 (z := 1) (by decide)
            have ehc_3 := az_nei hc_3 (z := 2) (by decide)
            have ehc_4 := az_nei hc_4 (z := 3) (by decide)
            have ehc_5 := az_nei hc_5 (z := 4) (by decide)
            refine az_E.swd (a := 66) (lo := 0) (hi := 4) (offs := #[36, 41, 46, 62, 50]) rfl (by omega) ?_
            refine az_E.sn 1 (pc' := 67) (L' := [.ref 71, .long a1, .retAddr 0]) (S' := [.long a1]) (σ' := (97, I, J, R)) rfl ?_
            have h := Option.some.inj h
            subst h
            exact az_E.ret (v := some (.long a1)) (σ' := (97, I, J, R)) rfl hQ
set_option maxRecDepth 100000 in
set_option maxHeartbeats 4000000 in
theorem re_Sh_refusalAt_63 {ex : az_X} {I : Nat → Nat → Int32} {J : Nat → Nat → Int64} {R : Nat → Nat → Option Nat} {a1 : Int32} {o : Int32} (h : rs_Sh_refusalAt 63 I a1 = some o) {Q : Option Value → az_S → Prop} (hQ : Q (some (.int o)) (97, I, J, R)) : az_E az_F ex 1 61 0 [.ref 63, .int a1] [] (97, I, J, R) Q := by
  unfold rs_Sh_refusalAt at h
  refine az_E.sn 1 (pc' := 1) (L' := [.ref 63, .int a1]) (S' := [.ref 63]) (σ' := (97, I, J, R)) rfl ?_
  refine az_E.call (d := 0) (k' := 54) (vs := [.ref 63]) (pc' := 4) (S' := []) rfl ?_ (fun _ _ hq => hq)
  show az_E az_F ex 0 54 0 [.ref 63] [] (97, I, J, R) _
  refine az_E.sn 3 (pc' := 5) (L' := [.ref 63]) (S' := [.int (-1 : Int32), .int (I 63 0)]) (σ' := (97, I, J, R)) rfl ?_
  refine az_E.br (c := (I 63 0) = (-1 : Int32)) (tt := 8) (ff := 20) (L' := [.ref 63]) (S' := []) (σ' := (97, I, J, R)) rfl (fun hc_1 => ?_) (fun hc_1 => ?_)
  · rw [if_pos hc_1] at h
    refine az_E.sn 3 (pc' := 13) (L' := [.ref 63]) (S' := [.int (-1 : Int32), .int (I 63 1)]) (σ' := (97, I, J, R)) rfl ?_
    refine az_E.br (c := (I 63 1) = (-1 : Int32)) (tt := 16) (ff := 20) (L' := [.ref 63]) (S' := []) (σ' := (97, I, J, R)) rfl (fun hc_2 => ?_) (fun hc_2 => ?_)
    · rw [if_pos hc_2] at h
      refine az_E.sn 2 (pc' := 21) (L' := [.ref 63]) (S' := [.int (1 : Int32)]) (σ' := (97, I, J, R)) rfl ?_
      refine az_E.ret (v := some (.int (1 : Int32))) (σ' := (97, I, J, R)) rfl ?_
      show az_E az_F ex 1 61 4 [.ref 63, .int a1] [.int (1 : Int32)] (97, I, J, R) _
      refine az_E.br (c := (1 : Int32) = 0) (tt := 10) (ff := 7) (L' := [.ref 63, .int a1]) (S' := []) (σ' := (97, I, J, R)) rfl (fun hn => absurd hn (by decide)) (fun _ => ?_)
      refine az_E.sn 1 (pc' := 9) (L' := [.ref 63, .int a1]) (S' := [.int (-11 : Int32)]) (σ' := (97, I, J, R)) rfl ?_
      have h := Option.some.inj h
      subst h
      exact az_E.ret (v := some (.int (-11 : Int32))) (σ' := (97, I, J, R)) rfl hQ
    · rw [if_neg hc_2] at h
      refine az_E.sn 1 (pc' := 21) (L' := [.ref 63]) (S' := [.int (0 : Int32)]) (σ' := (97, I, J, R)) rfl ?_
      refine az_E.ret (v := some (.int (0 : Int32))) (σ' := (97, I, J, R)) rfl ?_
      show az_E az_F ex 1 61 4 [.ref 63, .int a1] [.int (0 : Int32)] (97, I, J, R) _
      refine az_E.br (c := (0 : Int32) = 0) (tt := 10) (ff := 7) (L' := [.ref 63, .int a1]) (S' := []) (σ' := (97, I, J, R)) rfl (fun _ => ?_) (fun hn => absurd (by decide) hn)
      refine az_E.sn 1 (pc' := 11) (L' := [.ref 63, .int a1]) (S' := [.ref 63]) (σ' := (97, I, J, R)) rfl ?_
      refine az_E.call (d := 0) (k' := 55) (vs := [.ref 63]) (pc' := 14) (S' := []) rfl ?_ (fun _ _ hq => hq)
      show az_E az_F ex 0 55 0 [.ref 63] [] (97, I, J, R) _
      refine az_E.sn 3 (pc' := 5) (L' := [.ref 63]) (S' := [.int (-1 : Int32), .int (I 63 1)]) (σ' := (97, I, J, R)) rfl ?_
      refine az_E.br (c := (I 63 1) = (-1 : Int32)) (tt := 12) (ff := 8) (L' := [.ref 63]) (S' := []) (σ' := (97, I, J, R)) rfl (fun hc_3 => ?_) (fun hc_3 => ?_)
      · rw [if_pos hc_3] at h
        refine az_E.sn 1 (pc' := 13) (L' := [.ref 63]) (S' := [.int (0 : Int32)]) (σ' := (97, I, J, R)) rfl ?_
        refine az_E.ret (v := some (.int (0 : Int32))) (σ' := (97, I, J, R)) rfl ?_
        show az_E az_F ex 1 61 14 [.ref 63, .int a1] [.int (0 : Int32)] (97, I, J, R) _
        refine az_E.br (c := (0 : Int32) = 0) (tt := 17) (ff := 20) (L' := [.ref 63, .int a1]) (S' := []) (σ' := (97, I, J, R)) rfl (fun _ => ?_) (fun hn => absurd (by decide) hn)
        refine az_E.sn 1 (pc' := 19) (L' := [.ref 63, .int a1]) (S' := [.int (-12 : Int32)]) (σ' := (97, I, J, R)) rfl ?_
        have h := Option.some.inj h
        subst h
        exact az_E.ret (v := some (.int (-12 : Int32))) (σ' := (97, I, J, R)) rfl hQ
      · rw [if_neg hc_3] at h
        refine az_E.sn 2 (pc' := 13) (L' := [.ref 63]) (S' := [.int (1 : Int32)]) (σ' := (97, I, J, R)) rfl ?_
        refine az_E.ret (v := some (.int (1 : Int32))) (σ' := (97, I, J, R)) rfl ?_
        show az_E az_F ex 1 61 14 [.ref 63, .int a1] [.int (1 : Int32)] (97, I, J, R) _
        refine az_E.br (c := (1 : Int32) = 0) (tt := 17) (ff := 20) (L' := [.ref 63, .int a1]) (S' := []) (σ' := (97, I, J, R)) rfl (fun hn => absurd hn (by decide)) (fun _ => ?_)
        refine az_E.sn 6 (pc' := 28) (L' := [.ref 63, .int a1]) (S' := [.int ((I 63 2) - (1 : Int32)), .int (0 : Int32), .int a1]) (σ' := (97, I, J, R)) rfl ?_
        refine az_E.call (d := 0) (k' := 131) (vs := [.int a1, .int (0 : Int32), .int ((I 63 2) - (1 : Int32))]) (pc' := 31) (S' := []) rfl ?_ (fun _ _ hq => hq)
        show az_E az_F ex 0 131 0 [.int a1, .int (0 : Int32), .int ((I 63 2) - (1 : Int32))] [] (97, I, J, R) _
        refine az_E.sn 2 (pc' := 2) (L' := [.int a1, .int (0 : Int32), .int ((I 63 2) - (1 : Int32))]) (S' := [.int (0 : Int32), .int a1]) (σ' := (97, I, J, R)) rfl ?_
        refine az_E.br (c := a1 < (0 : Int32)) (tt := 14) (ff := 5) (L' := [.int a1, .int (0 : Int32), .int ((I 63 2) - (1 : Int32))]) (S' := []) (σ' := (97, I, J, R)) rfl (fun hc_4 => ?_) (fun hc_4 => ?_)
        · rw [if_pos hc_4] at h
          refine az_E.sn 1 (pc' := 15) (L' := [.int a1, .int (0 : Int32), .int ((I 63 2) - (1 : Int32))]) (S' := [.int (0 : Int32)]) (σ' := (97, I, J, R)) rfl ?_
          refine az_E.ret (v := some (.int (0 : Int32))) (σ' := (97, I, J, R)) rfl ?_
          show az_E az_F ex 1 61 31 [.ref 63, .int a1] [.int (0 : Int32)] (97, I, J, R) _
          refine az_E.br (c := (0 : Int32) = 0) (tt := 38) (ff := 34) (L' := [.ref 63, .int a1]) (S' := []) (σ' := (97, I, J, R)) rfl (fun _ => ?_) (fun hn => absurd (by decide) hn)
          refine az_E.sn 1 (pc' := 40) (L' := [.ref 63, .int a1]) (S' := [.int (-13 : Int32)]) (σ' := (97, I, J, R)) rfl ?_
          have h := Option.some.inj h
          subst h
          exact az_E.ret (v := some (.int (-13 : Int32))) (σ' := (97, I, J, R)) rfl hQ
        · rw [if_neg hc_4] at h
          refine az_E.sn 2 (pc' := 7) (L' := [.int a1, .int (0 : Int32), .int ((I 63 2) - (1 : Int32))]) (S' := [.int ((I 63 2) - (1 : Int32)), .int a1]) (σ' := (97, I, J, R)) rfl ?_
          refine az_E.br (c := ((I 63 2) - (1 : Int32)) < a1) (tt := 14) (ff := 10) (L' := [.int a1, .int (0 : Int32), .int ((I 63 2) - (1 : Int32))]) (S' := []) (σ' := (97, I, J, R)) rfl (fun hc_5 => ?_) (fun hc_5 => ?_)
          · rw [if_pos hc_5] at h
            refine az_E.sn 1 (pc' := 15) (L' := [.int a1, .int (0 : Int32), .int ((I 63 2) - (1 : Int32))]) (S' := [.int (0 : Int32)]) (σ' := (97, I, J, R)) rfl ?_
            refine az_E.ret (v := some (.int (0 : Int32))) (σ' := (97, I, J, R)) rfl ?_
            show az_E az_F ex 1 61 31 [.ref 63, .int a1] [.int (0 : Int32)] (97, I, J, R) _
            refine az_E.br (c := (0 : Int32) = 0) (tt := 38) (ff := 34) (L' := [.ref 63, .int a1]) (S' := []) (σ' := (97, I, J, R)) rfl (fun _ => ?_) (fun hn => absurd (by decide) hn)
            refine az_E.sn 1 (pc' := 40) (L' := [.ref 63, .int a1]) (S' := [.int (-13 : Int32)]) (σ' := (97, I, J, R)) rfl ?_
            have h := Option.some.inj h
            subst h
            exact az_E.ret (v := some (.int (-13 : Int32))) (σ' := (97, I, J, R)) rfl hQ
          · rw [if_neg hc_5] at h
            refine az_E.sn 2 (pc' := 15) (L' := [.int a1, .int (0 : Int32), .int ((I 63 2) - (1 : Int32))]) (S' := [.int (1 : Int32)]) (σ' := (97, I, J, R)) rfl ?_
            refine az_E.ret (v := some (.int (1 : Int32))) (σ' := (97, I, J, R)) rfl ?_
            show az_E az_F ex 1 61 31 [.ref 63, .int a1] [.int (1 : Int32)] (97, I, J, R) _
            refine az_E.br (c := (1 : Int32) = 0) (tt := 38) (ff := 34) (L' := [.ref 63, .int a1]) (S' := []) (σ' := (97, I, J, R)) rfl (fun hn => absurd hn (by decide)) (fun _ => ?_)
            refine az_E.sn 2 (pc' := 40) (L' := [.ref 63, .int a1]) (S' := [.int (0 : Int32)]) (σ' := (97, I, J, R)) rfl ?_
            have h := Option.some.inj h
            subst h
            exact az_E.ret (v := some (.int (0 : Int32))) (σ' := (97, I, J, R)) rfl hQ
  · rw [if_neg hc_1] at h
    refine az_E.sn 1 (pc' := 21) (L' := [.ref 63]) (S' := [.int (0 : Int32)]) (σ' := (97, I, J, R)) rfl ?_
    refine az_E.ret (v := some (.int (0 : Int32))) (σ' := (97, I, J, R)) rfl ?_
    show az_E az_F ex 1 61 4 [.ref 63, .int a1] [.int (0 : Int32)] (97, I, J, R) _
    refine az_E.br (c := (0 : Int32) = 0) (tt := 10) (ff := 7) (L' := [.ref 63, .int a1]) (S' := []) (σ' := (97, I, J, R)) rfl (fun _ => ?_) (fun hn => absurd (by decide) hn)
    refine az_E.sn 1 (pc' := 11) (L' := [.ref 63, .int a1]) (S' := [.ref 63]) (σ' := (97, I, J, R)) rfl ?_
    refine az_E.call (d := 0) (k' := 55) (vs := [.ref 63]) (pc' := 14) (S' := []) rfl ?_ (fun _ _ hq => hq)
    show az_E az_F ex 0 55 0 [.ref 63] [] (97, I, J, R) _
    refine az_E.sn 3 (pc' := 5) (L' := [.ref 63]) (S' := [.int (-1 : Int32), .int (I 63 1)]) (σ' := (97, I, J, R)) rfl ?_
    refine az_E.br (c := (I 63 1) = (-1 : Int32)) (tt := 12) (ff := 8) (L' := [.ref 63]) (S' := []) (σ' := (97, I, J, R)) rfl (fun hc_6 => ?_) (fun hc_6 => ?_)
    · rw [if_pos hc_6] at h
      refine az_E.sn 1 (pc' := 13) (L' := [.ref 63]) (S' := [.int (0 : Int32)]) (σ' := (97, I, J, R)) rfl ?_
      refine az_E.ret (v := some (.int (0 : Int32))) (σ' := (97, I, J, R)) rfl ?_
      show az_E az_F ex 1 61 14 [.ref 63, .int a1] [.int (0 : Int32)] (97, I, J, R) _
      refine az_E.br (c := (0 : Int32) = 0) (tt := 17) (ff := 20) (L' := [.ref 63, .int a1]) (S' := []) (σ' := (97, I, J, R)) rfl (fun _ => ?_) (fun hn => absurd (by decide) hn)
      refine az_E.sn 1 (pc' := 19) (L' := [.ref 63, .int a1]) (S' := [.int (-12 : Int32)]) (σ' := (97, I, J, R)) rfl ?_
      have h := Option.some.inj h
      subst h
      exact az_E.ret (v := some (.int (-12 : Int32))) (σ' := (97, I, J, R)) rfl hQ
    · rw [if_neg hc_6] at h
      refine az_E.sn 2 (pc' := 13) (L' := [.ref 63]) (S' := [.int (1 : Int32)]) (σ' := (97, I, J, R)) rfl ?_
      refine az_E.ret (v := some (.int (1 : Int32))) (σ' := (97, I, J, R)) rfl ?_
      show az_E az_F ex 1 61 14 [.ref 63, .int a1] [.int (1 : Int32)] (97, I, J, R) _
      refine az_E.br (c := (1 : Int32) = 0) (tt := 17) (ff := 20) (L' := [.ref 63, .int a1]) (S' := []) (σ' := (97, I, J, R)) rfl (fun hn => absurd hn (by decide)) (fun _ => ?_)
      refine az_E.sn 6 (pc' := 28) (L' := [.ref 63, .int a1]) (S' := [.int ((I 63 2) - (1 : Int32)), .int (0 : Int32), .int a1]) (σ' := (97, I, J, R)) rfl ?_
      refine az_E.call (d := 0) (k' := 131) (vs := [.int a1, .int (0 : Int32), .int ((I 63 2) - (1 : Int32))]) (pc' := 31) (S' := []) rfl ?_ (fun _ _ hq => hq)
      show az_E az_F ex 0 131 0 [.int a1, .int (0 : Int32), .int ((I 63 2) - (1 : Int32))] [] (97, I, J, R) _
      refine az_E.sn 2 (pc' := 2) (L' := [.int a1, .int (0 : Int32), .int ((I 63 2) - (1 : Int32))]) (S' := [.int (0 : Int32), .int a1]) (σ' := (97, I, J, R)) rfl ?_
      refine az_E.br (c := a1 < (0 : Int32)) (tt := 14) (ff := 5) (L' := [.int a1, .int (0 : Int32), .int ((I 63 2) - (1 : Int32))]) (S' := []) (σ' := (97, I, J, R)) rfl (fun hc_7 => ?_) (fun hc_7 => ?_)
      · rw [if_pos hc_7] at h
        refine az_E.sn 1 (pc' := 15) (L' := [.int a1, .int (0 : Int32), .int ((I 63 2) - (1 : Int32))]) (S' := [.int (0 : Int32)]) (σ' := (97, I, J, R)) rfl ?_
        refine az_E.ret (v := some (.int (0 : Int32))) (σ' := (97, I, J, R)) rfl ?_
        show az_E az_F ex 1 61 31 [.ref 63, .int a1] [.int (0 : Int32)] (97, I, J, R) _
        refine az_E.br (c := (0 : Int32) = 0) (tt := 38) (ff := 34) (L' := [.ref 63, .int a1]) (S' := []) (σ' := (97, I, J, R)) rfl (fun _ => ?_) (fun hn => absurd (by decide) hn)
        refine az_E.sn 1 (pc' := 40) (L' := [.ref 63, .int a1]) (S' := [.int (-13 : Int32)]) (σ' := (97, I, J, R)) rfl ?_
        have h := Option.some.inj h
        subst h
        exact az_E.ret (v := some (.int (-13 : Int32))) (σ' := (97, I, J, R)) rfl hQ
      · rw [if_neg hc_7] at h
        refine az_E.sn 2 (pc' := 7) (L' := [.int a1, .int (0 : Int32), .int ((I 63 2) - (1 : Int32))]) (S' := [.int ((I 63 2) - (1 : Int32)), .int a1]) (σ' := (97, I, J, R)) rfl ?_
        refine az_E.br (c := ((I 63 2) - (1 : Int32)) < a1) (tt := 14) (ff := 10) (L' := [.int a1, .int (0 : Int32), .int ((I 63 2) - (1 : Int32))]) (S' := []) (σ' := (97, I, J, R)) rfl (fun hc_8 => ?_) (fun hc_8 => ?_)
        · rw [if_pos hc_8] at h
          refine az_E.sn 1 (pc' := 15) (L' := [.int a1, .int (0 : Int32), .int ((I 63 2) - (1 : Int32))]) (S' := [.int (0 : Int32)]) (σ' := (97, I, J, R)) rfl ?_
          refine az_E.ret (v := some (.int (0 : Int32))) (σ' := (97, I, J, R)) rfl ?_
          show az_E az_F ex 1 61 31 [.ref 63, .int a1] [.int (0 : Int32)] (97, I, J, R) _
          refine az_E.br (c := (0 : Int32) = 0) (tt := 38) (ff := 34) (L' := [.ref 63, .int a1]) (S' := []) (σ' := (97, I, J, R)) rfl (fun _ => ?_) (fun hn => absurd (by decide) hn)
          refine az_E.sn 1 (pc' := 40) (L' := [.ref 63, .int a1]) (S' := [.int (-13 : Int32)]) (σ' := (97, I, J, R)) rfl ?_
          have h := Option.some.inj h
          subst h
          exact az_E.ret (v := some (.int (-13 : Int32))) (σ' := (97, I, J, R)) rfl hQ
        · rw [if_neg hc_8] at h
          refine az_E.sn 2 (pc' := 15) (L' := [.int a1, .int (0 : Int32), .int ((I 63 2) - (1 : Int32))]) (S' := [.int (1 : Int32)]) (σ' := (97, I, J, R)) rfl ?_
          refine az_E.ret (v := some (.int (1 : Int32))) (σ' := (97, I, J, R)) rfl ?_
          show az_E az_F ex 1 61 31 [.ref 63, .int a1] [.int (1 : Int32)] (97, I, J, R) _
          refine az_E.br (c := (1 : Int32) = 0) (tt := 38) (ff := 34) (L' := [.ref 63, .int a1]) (S' := []) (σ' := (97, I, J, R)) rfl (fun hn => absurd hn (by decide)) (fun _ => ?_)
          refine az_E.sn 2 (pc' := 40) (L' := [.ref 63, .int a1]) (S' := [.int (0 : Int32)]) (σ' := (97, I, J, R)) rfl ?_
          have h := Option.some.inj h
          subst h
          exact az_E.ret (v := some (.int (0 : Int32))) (σ' := (97, I, J, R)) rfl hQ
set_option maxRecDepth 100000 in
set_option maxHeartbeats 4000000 in
theorem re_Sh_refusalAt_65 {ex : az_X} {I : Nat → Nat → Int32} {J : Nat → Nat → Int64} {R : Nat → Nat → Option Nat} {a1 : Int32} {o : Int32} (h : rs_Sh_refusalAt 65 I a1 = some o) {Q : Option Value → az_S → Prop} (hQ : Q (some (.int o)) (97, I, J, R)) : az_E az_F ex 1 61 0 [.ref 65, .int a1] [] (97, I, J, R) Q := by
  unfold rs_Sh_refusalAt at h
  refine az_E.sn 1 (pc' := 1) (L' := [.ref 65, .int a1]) (S' := [.ref 65]) (σ' := (97, I, J, R)) rfl ?_
  refine az_E.call (d := 0) (k' := 54) (vs := [.ref 65]) (pc' := 4) (S' := []) rfl ?_ (fun _ _ hq => hq)
  show az_E az_F ex 0 54 0 [.ref 65] [] (97, I, J, R) _
  refine az_E.sn 3 (pc' := 5) (L' := [.ref 65]) (S' := [.int (-1 : Int32), .int (I 65 0)]) (σ' := (97, I, J, R)) rfl ?_
  refine az_E.br (c := (I 65 0) = (-1 : Int32)) (tt := 8) (ff := 20) (L' := [.ref 65]) (S' := []) (σ' := (97, I, J, R)) rfl (fun hc_1 => ?_) (fun hc_1 => ?_)
  · rw [if_pos hc_1] at h
    refine az_E.sn 3 (pc' := 13) (L' := [.ref 65]) (S' := [.int (-1 : Int32), .int (I 65 1)]) (σ' := (97, I, J, R)) rfl ?_
    refine az_E.br (c := (I 65 1) = (-1 : Int32)) (tt := 16) (ff := 20) (L' := [.ref 65]) (S' := []) (σ' := (97, I, J, R)) rfl (fun hc_2 => ?_) (fun hc_2 => ?_)
    · rw [if_pos hc_2] at h
      refine az_E.sn 2 (pc' := 21) (L' := [.ref 65]) (S' := [.int (1 : Int32)]) (σ' := (97, I, J, R)) rfl ?_
      refine az_E.ret (v := some (.int (1 : Int32))) (σ' := (97, I, J, R)) rfl ?_
      show az_E az_F ex 1 61 4 [.ref 65, .int a1] [.int (1 : Int32)] (97, I, J, R) _
      refine az_E.br (c := (1 : Int32) = 0) (tt := 10) (ff := 7) (L' := [.ref 65, .int a1]) (S' := []) (σ' := (97, I, J, R)) rfl (fun hn => absurd hn (by decide)) (fun _ => ?_)
      refine az_E.sn 1 (pc' := 9) (L' := [.ref 65, .int a1]) (S' := [.int (-11 : Int32)]) (σ' := (97, I, J, R)) rfl ?_
      have h := Option.some.inj h
      subst h
      exact az_E.ret (v := some (.int (-11 : Int32))) (σ' := (97, I, J, R)) rfl hQ
    · rw [if_neg hc_2] at h
      refine az_E.sn 1 (pc' := 21) (L' := [.ref 65]) (S' := [.int (0 : Int32)]) (σ' := (97, I, J, R)) rfl ?_
      refine az_E.ret (v := some (.int (0 : Int32))) (σ' := (97, I, J, R)) rfl ?_
      show az_E az_F ex 1 61 4 [.ref 65, .int a1] [.int (0 : Int32)] (97, I, J, R) _
      refine az_E.br (c := (0 : Int32) = 0) (tt := 10) (ff := 7) (L' := [.ref 65, .int a1]) (S' := []) (σ' := (97, I, J, R)) rfl (fun _ => ?_) (fun hn => absurd (by decide) hn)
      refine az_E.sn 1 (pc' := 11) (L' := [.ref 65, .int a1]) (S' := [.ref 65]) (σ' := (97, I, J, R)) rfl ?_
      refine az_E.call (d := 0) (k' := 55) (vs := [.ref 65]) (pc' := 14) (S' := []) rfl ?_ (fun _ _ hq => hq)
      show az_E az_F ex 0 55 0 [.ref 65] [] (97, I, J, R) _
      refine az_E.sn 3 (pc' := 5) (L' := [.ref 65]) (S' := [.int (-1 : Int32), .int (I 65 1)]) (σ' := (97, I, J, R)) rfl ?_
      refine az_E.br (c := (I 65 1) = (-1 : Int32)) (tt := 12) (ff := 8) (L' := [.ref 65]) (S' := []) (σ' := (97, I, J, R)) rfl (fun hc_3 => ?_) (fun hc_3 => ?_)
      · rw [if_pos hc_3] at h
        refine az_E.sn 1 (pc' := 13) (L' := [.ref 65]) (S' := [.int (0 : Int32)]) (σ' := (97, I, J, R)) rfl ?_
        refine az_E.ret (v := some (.int (0 : Int32))) (σ' := (97, I, J, R)) rfl ?_
        show az_E az_F ex 1 61 14 [.ref 65, .int a1] [.int (0 : Int32)] (97, I, J, R) _
        refine az_E.br (c := (0 : Int32) = 0) (tt := 17) (ff := 20) (L' := [.ref 65, .int a1]) (S' := []) (σ' := (97, I, J, R)) rfl (fun _ => ?_) (fun hn => absurd (by decide) hn)
        refine az_E.sn 1 (pc' := 19) (L' := [.ref 65, .int a1]) (S' := [.int (-12 : Int32)]) (σ' := (97, I, J, R)) rfl ?_
        have h := Option.some.inj h
        subst h
        exact az_E.ret (v := some (.int (-12 : Int32))) (σ' := (97, I, J, R)) rfl hQ
      · rw [if_neg hc_3] at h
        refine az_E.sn 2 (pc' := 13) (L' := [.ref 65]) (S' := [.int (1 : Int32)]) (σ' := (97, I, J, R)) rfl ?_
        refine az_E.ret (v := some (.int (1 : Int32))) (σ' := (97, I, J, R)) rfl ?_
        show az_E az_F ex 1 61 14 [.ref 65, .int a1] [.int (1 : Int32)] (97, I, J, R) _
        refine az_E.br (c := (1 : Int32) = 0) (tt := 17) (ff := 20) (L' := [.ref 65, .int a1]) (S' := []) (σ' := (97, I, J, R)) rfl (fun hn => absurd hn (by decide)) (fun _ => ?_)
        refine az_E.sn 6 (pc' := 28) (L' := [.ref 65, .int a1]) (S' := [.int ((I 65 2) - (1 : Int32)), .int (0 : Int32), .int a1]) (σ' := (97, I, J, R)) rfl ?_
        refine az_E.call (d := 0) (k' := 131) (vs := [.int a1, .int (0 : Int32), .int ((I 65 2) - (1 : Int32))]) (pc' := 31) (S' := []) rfl ?_ (fun _ _ hq => hq)
        show az_E az_F ex 0 131 0 [.int a1, .int (0 : Int32), .int ((I 65 2) - (1 : Int32))] [] (97, I, J, R) _
        refine az_E.sn 2 (pc' := 2) (L' := [.int a1, .int (0 : Int32), .int ((I 65 2) - (1 : Int32))]) (S' := [.int (0 : Int32), .int a1]) (σ' := (97, I, J, R)) rfl ?_
        refine az_E.br (c := a1 < (0 : Int32)) (tt := 14) (ff := 5) (L' := [.int a1, .int (0 : Int32), .int ((I 65 2) - (1 : Int32))]) (S' := []) (σ' := (97, I, J, R)) rfl (fun hc_4 => ?_) (fun hc_4 => ?_)
        · rw [if_pos hc_4] at h
          refine az_E.sn 1 (pc' := 15) (L' := [.int a1, .int (0 : Int32), .int ((I 65 2) - (1 : Int32))]) (S' := [.int (0 : Int32)]) (σ' := (97, I, J, R)) rfl ?_
          refine az_E.ret (v := some (.int (0 : Int32))) (σ' := (97, I, J, R)) rfl ?_
          show az_E az_F ex 1 61 31 [.ref 65, .int a1] [.int (0 : Int32)] (97, I, J, R) _
          refine az_E.br (c := (0 : Int32) = 0) (tt := 38) (ff := 34) (L' := [.ref 65, .int a1]) (S' := []) (σ' := (97, I, J, R)) rfl (fun _ => ?_) (fun hn => absurd (by decide) hn)
          refine az_E.sn 1 (pc' := 40) (L' := [.ref 65, .int a1]) (S' := [.int (-13 : Int32)]) (σ' := (97, I, J, R)) rfl ?_
          have h := Option.some.inj h
          subst h
          exact az_E.ret (v := some (.int (-13 : Int32))) (σ' := (97, I, J, R)) rfl hQ
        · rw [if_neg hc_4] at h
          refine az_E.sn 2 (pc' := 7) (L' := [.int a1, .int (0 : Int32), .int ((I 65 2) - (1 : Int32))]) (S' := [.int ((I 65 2) - (1 : Int32)), .int a1]) (σ' := (97, I, J, R)) rfl ?_
          refine az_E.br (c := ((I 65 2) - (1 : Int32)) < a1) (tt := 14) (ff := 10) (L' := [.int a1, .int (0 : Int32), .int ((I 65 2) - (1 : Int32))]) (S' := []) (σ' := (97, I, J, R)) rfl (fun hc_5 => ?_) (fun hc_5 => ?_)
          · rw [if_pos hc_5] at h
            refine az_E.sn 1 (pc' := 15) (L' := [.int a1, .int (0 : Int32), .int ((I 65 2) - (1 : Int32))]) (S' := [.int (0 : Int32)]) (σ' := (97, I, J, R)) rfl ?_
            refine az_E.ret (v := some (.int (0 : Int32))) (σ' := (97, I, J, R)) rfl ?_
            show az_E az_F ex 1 61 31 [.ref 65, .int a1] [.int (0 : Int32)] (97, I, J, R) _
            refine az_E.br (c := (0 : Int32) = 0) (tt := 38) (ff := 34) (L' := [.ref 65, .int a1]) (S' := []) (σ' := (97, I, J, R)) rfl (fun _ => ?_) (fun hn => absurd (by decide) hn)
            refine az_E.sn 1 (pc' := 40) (L' := [.ref 65, .int a1]) (S' := [.int (-13 : Int32)]) (σ' := (97, I, J, R)) rfl ?_
            have h := Option.some.inj h
            subst h
            exact az_E.ret (v := some (.int (-13 : Int32))) (σ' := (97, I, J, R)) rfl hQ
          · rw [if_neg hc_5] at h
            refine az_E.sn 2 (pc' := 15) (L' := [.int a1, .int (0 : Int32), .int ((I 65 2) - (1 : Int32))]) (S' := [.int (1 : Int32)]) (σ' := (97, I, J, R)) rfl ?_
            refine az_E.ret (v := some (.int (1 : Int32))) (σ' := (97, I, J, R)) rfl ?_
            show az_E az_F ex 1 61 31 [.ref 65, .int a1] [.int (1 : Int32)] (97, I, J, R) _
            refine az_E.br (c := (1 : Int32) = 0) (tt := 38) (ff := 34) (L' := [.ref 65, .int a1]) (S' := []) (σ' := (97, I, J, R)) rfl (fun hn => absurd hn (by decide)) (fun _ => ?_)
            refine az_E.sn 2 (pc' := 40) (L' := [.ref 65, .int a1]) (S' := [.int (0 : Int32)]) (σ' := (97, I, J, R)) rfl ?_
            have h := Option.some.inj h
            subst h
            exact az_E.ret (v := some (.int (0 : Int32))) (σ' := (97, I, J, R)) rfl hQ
  · rw [if_neg hc_1] at h
    refine az_E.sn 1 (pc' := 21) (L' := [.ref 65]) (S' := [.int (0 : Int32)]) (σ' := (97, I, J, R)) rfl ?_
    refine az_E.ret (v := some (.int (0 : Int32))) (σ' := (97, I, J, R)) rfl ?_
    show az_E az_F ex 1 61 4 [.ref 65, .int a1] [.int (0 : Int32)] (97, I, J, R) _
    refine az_E.br (c := (0 : Int32) = 0) (tt := 10) (ff := 7) (L' := [.ref 65, .int a1]) (S' := []) (σ' := (97, I, J, R)) rfl (fun _ => ?_) (fun hn => absurd (by decide) hn)
    refine az_E.sn 1 (pc' := 11) (L' := [.ref 65, .int a1]) (S' := [.ref 65]) (σ' := (97, I, J, R)) rfl ?_
    refine az_E.call (d := 0) (k' := 55) (vs := [.ref 65]) (pc' := 14) (S' := []) rfl ?_ (fun _ _ hq => hq)
    show az_E az_F ex 0 55 0 [.ref 65] [] (97, I, J, R) _
    refine az_E.sn 3 (pc' := 5) (L' := [.ref 65]) (S' := [.int (-1 : Int32), .int (I 65 1)]) (σ' := (97, I, J, R)) rfl ?_
    refine az_E.br (c := (I 65 1) = (-1 : Int32)) (tt := 12) (ff := 8) (L' := [.ref 65]) (S' := []) (σ' := (97, I, J, R)) rfl (fun hc_6 => ?_) (fun hc_6 => ?_)
    · rw [if_pos hc_6] at h
      refine az_E.sn 1 (pc' := 13) (L' := [.ref 65]) (S' := [.int (0 : Int32)]) (σ' := (97, I, J, R)) rfl ?_
      refine az_E.ret (v := some (.int (0 : Int32))) (σ' := (97, I, J, R)) rfl ?_
      show az_E az_F ex 1 61 14 [.ref 65, .int a1] [.int (0 : Int32)] (97, I, J, R) _
      refine az_E.br (c := (0 : Int32) = 0) (tt := 17) (ff := 20) (L' := [.ref 65, .int a1]) (S' := []) (σ' := (97, I, J, R)) rfl (fun _ => ?_) (fun hn => absurd (by decide) hn)
      refine az_E.sn 1 (pc' := 19) (L' := [.ref 65, .int a1]) (S' := [.int (-12 : Int32)]) (σ' := (97, I, J, R)) rfl ?_
      have h := Option.some.inj h
      subst h
      exact az_E.ret (v := some (.int (-12 : Int32))) (σ' := (97, I, J, R)) rfl hQ
    · rw [if_neg hc_6] at h
      refine az_E.sn 2 (pc' := 13) (L' := [.ref 65]) (S' := [.int (1 : Int32)]) (σ' := (97, I, J, R)) rfl ?_
      refine az_E.ret (v := some (.int (1 : Int32))) (σ' := (97, I, J, R)) rfl ?_
      show az_E az_F ex 1 61 14 [.ref 65, .int a1] [.int (1 : Int32)] (97, I, J, R) _
      refine az_E.br (c := (1 : Int32) = 0) (tt := 17) (ff := 20) (L' := [.ref 65, .int a1]) (S' := []) (σ' := (97, I, J, R)) rfl (fun hn => absurd hn (by decide)) (fun _ => ?_)
      refine az_E.sn 6 (pc' := 28) (L' := [.ref 65, .int a1]) (S' := [.int ((I 65 2) - (1 : Int32)), .int (0 : Int32), .int a1]) (σ' := (97, I, J, R)) rfl ?_
      refine az_E.call (d := 0) (k' := 131) (vs := [.int a1, .int (0 : Int32), .int ((I 65 2) - (1 : Int32))]) (pc' := 31) (S' := []) rfl ?_ (fun _ _ hq => hq)
      show az_E az_F ex 0 131 0 [.int a1, .int (0 : Int32), .int ((I 65 2) - (1 : Int32))] [] (97, I, J, R) _
      refine az_E.sn 2 (pc' := 2) (L' := [.int a1, .int (0 : Int32), .int ((I 65 2) - (1 : Int32))]) (S' := [.int (0 : Int32), .int a1]) (σ' := (97, I, J, R)) rfl ?_
      refine az_E.br (c := a1 < (0 : Int32)) (tt := 14) (ff := 5) (L' := [.int a1, .int (0 : Int32), .int ((I 65 2) - (1 : Int32))]) (S' := []) (σ' := (97, I, J, R)) rfl (fun hc_7 => ?_) (fun hc_7 => ?_)
      · rw [if_pos hc_7] at h
        refine az_E.sn 1 (pc' := 15) (L' := [.int a1, .int (0 : Int32), .int ((I 65 2) - (1 : Int32))]) (S' := [.int (0 : Int32)]) (σ' := (97, I, J, R)) rfl ?_
        refine az_E.ret (v := some (.int (0 : Int32))) (σ' := (97, I, J, R)) rfl ?_
        show az_E az_F ex 1 61 31 [.ref 65, .int a1] [.int (0 : Int32)] (97, I, J, R) _
        refine az_E.br (c := (0 : Int32) = 0) (tt := 38) (ff := 34) (L' := [.ref 65, .int a1]) (S' := []) (σ' := (97, I, J, R)) rfl (fun _ => ?_) (fun hn => absurd (by decide) hn)
        refine az_E.sn 1 (pc' := 40) (L' := [.ref 65, .int a1]) (S' := [.int (-13 : Int32)]) (σ' := (97, I, J, R)) rfl ?_
        have h := Option.some.inj h
        subst h
        exact az_E.ret (v := some (.int (-13 : Int32))) (σ' := (97, I, J, R)) rfl hQ
      · rw [if_neg hc_7] at h
        refine az_E.sn 2 (pc' := 7) (L' := [.int a1, .int (0 : Int32), .int ((I 65 2) - (1 : Int32))]) (S' := [.int ((I 65 2) - (1 : Int32)), .int a1]) (σ' := (97, I, J, R)) rfl ?_
        refine az_E.br (c := ((I 65 2) - (1 : Int32)) < a1) (tt := 14) (ff := 10) (L' := [.int a1, .int (0 : Int32), .int ((I 65 2) - (1 : Int32))]) (S' := []) (σ' := (97, I, J, R)) rfl (fun hc_8 => ?_) (fun hc_8 => ?_)
        · rw [if_pos hc_8] at h
          refine az_E.sn 1 (pc' := 15) (L' := [.int a1, .int (0 : Int32), .int ((I 65 2) - (1 : Int32))]) (S' := [.int (0 : Int32)]) (σ' := (97, I, J, R)) rfl ?_
          refine az_E.ret (v := some (.int (0 : Int32))) (σ' := (97, I, J, R)) rfl ?_
          show az_E az_F ex 1 61 31 [.ref 65, .int a1] [.int (0 : Int32)] (97, I, J, R) _
          refine az_E.br (c := (0 : Int32) = 0) (tt := 38) (ff := 34) (L' := [.ref 65, .int a1]) (S' := []) (σ' := (97, I, J, R)) rfl (fun _ => ?_) (fun hn => absurd (by decide) hn)
          refine az_E.sn 1 (pc' := 40) (L' := [.ref 65, .int a1]) (S' := [.int (-13 : Int32)]) (σ' := (97, I, J, R)) rfl ?_
          have h := Option.some.inj h
          subst h
          exact az_E.ret (v := some (.int (-13 : Int32))) (σ' := (97, I, J, R)) rfl hQ
        · rw [if_neg hc_8] at h
          refine az_E.sn 2 (pc' := 15) (L' := [.int a1, .int (0 : Int32), .int ((I 65 2) - (1 : Int32))]) (S' := [.int (1 : Int32)]) (σ' := (97, I, J, R)) rfl ?_
          refine az_E.ret (v := some (.int (1 : Int32))) (σ' := (97, I, J, R)) rfl ?_
          show az_E az_F ex 1 61 31 [.ref 65, .int a1] [.int (1 : Int32)] (97, I, J, R) _
          refine az_E.br (c := (1 : Int32) = 0) (tt := 38) (ff := 34) (L' := [.ref 65, .int a1]) (S' := []) (σ' := (97, I, J, R)) rfl (fun hn => absurd hn (by decide)) (fun _ => ?_)
          refine az_E.sn 2 (pc' := 40) (L' := [.ref 65, .int a1]) (S' := [.int (0 : Int32)]) (σ' := (97, I, J, R)) rfl ?_
          have h := Option.some.inj h
          subst h
          exact az_E.ret (v := some (.int (0 : Int32))) (σ' := (97, I, J, R)) rfl hQ
set_option maxRecDepth 100000 in
set_option maxHeartbeats 4000000 in
theorem re_Sh_refusalAt_67 {ex : az_X} {I : Nat → Nat → Int32} {J : Nat → Nat → Int64} {R : Nat → Nat → Option Nat} {a1 : Int32} {o : Int32} (h : rs_Sh_refusalAt 67 I a1 = some o) {Q : Option Value → az_S → Prop} (hQ : Q (some (.int o)) (97, I, J, R)) : az_E az_F ex 1 61 0 [.ref 67, .int a1] [] (97, I, J, R) Q := by
  unfold rs_Sh_refusalAt at h
  refine az_E.sn 1 (pc' := 1) (L' := [.ref 67, .int a1]) (S' := [.ref 67]) (σ' := (97, I, J, R)) rfl ?_
  refine az_E.call (d := 0) (k' := 54) (vs := [.ref 67]) (pc' := 4) (S' := []) rfl ?_ (fun _ _ hq => hq)
  show az_E az_F ex 0 54 0 [.ref 67] [] (97, I, J, R) _
  refine az_E.sn 3 (pc' := 5) (L' := [.ref 67]) (S' := [.int (-1 : Int32), .int (I 67 0)]) (σ' := (97, I, J, R)) rfl ?_
  refine az_E.br (c := (I 67 0) = (-1 : Int32)) (tt := 8) (ff := 20) (L' := [.ref 67]) (S' := []) (σ' := (97, I, J, R)) rfl (fun hc_1 => ?_) (fun hc_1 => ?_)
  · rw [if_pos hc_1] at h
    refine az_E.sn 3 (pc' := 13) (L' := [.ref 67]) (S' := [.int (-1 : Int32), .int (I 67 1)]) (σ' := (97, I, J, R)) rfl ?_
    refine az_E.br (c := (I 67 1) = (-1 : Int32)) (tt := 16) (ff := 20) (L' := [.ref 67]) (S' := []) (σ' := (97, I, J, R)) rfl (fun hc_2 => ?_) (fun hc_2 => ?_)
    · rw [if_pos hc_2] at h
      refine az_E.sn 2 (pc' := 21) (L' := [.ref 67]) (S' := [.int (1 : Int32)]) (σ' := (97, I, J, R)) rfl ?_
      refine az_E.ret (v := some (.int (1 : Int32))) (σ' := (97, I, J, R)) rfl ?_
      show az_E az_F ex 1 61 4 [.ref 67, .int a1] [.int (1 : Int32)] (97, I, J, R) _
      refine az_E.br (c := (1 : Int32) = 0) (tt := 10) (ff := 7) (L' := [.ref 67, .int a1]) (S' := []) (σ' := (97, I, J, R)) rfl (fun hn => absurd hn (by decide)) (fun _ => ?_)
      refine az_E.sn 1 (pc' := 9) (L' := [.ref 67, .int a1]) (S' := [.int (-11 : Int32)]) (σ' := (97, I, J, R)) rfl ?_
      have h := Option.some.inj h
      subst h
      exact az_E.ret (v := some (.int (-11 : Int32))) (σ' := (97, I, J, R)) rfl hQ
    · rw [if_neg hc_2] at h
      refine az_E.sn 1 (pc' := 21) (L' := [.ref 67]) (S' := [.int (0 : Int32)]) (σ' := (97, I, J, R)) rfl ?_
      refine az_E.ret (v := some (.int (0 : Int32))) (σ' := (97, I, J, R)) rfl ?_
      show az_E az_F ex 1 61 4 [.ref 67, .int a1] [.int (0 : Int32)] (97, I, J, R) _
      refine az_E.br (c := (0 : Int32) = 0) (tt := 10) (ff := 7) (L' := [.ref 67, .int a1]) (S' := []) (σ' := (97, I, J, R)) rfl (fun _ => ?_) (fun hn => absurd (by decide) hn)
      refine az_E.sn 1 (pc' := 11) (L' := [.ref 67, .int a1]) (S' := [.ref 67]) (σ' := (97, I, J, R)) rfl ?_
      refine az_E.call (d := 0) (k' := 55) (vs := [.ref 67]) (pc' := 14) (S' := []) rfl ?_ (fun _ _ hq => hq)
      show az_E az_F ex 0 55 0 [.ref 67] [] (97, I, J, R) _
      refine az_E.sn 3 (pc' := 5) (L' := [.ref 67]) (S' := [.int (-1 : Int32), .int (I 67 1)]) (σ' := (97, I, J, R)) rfl ?_
      refine az_E.br (c := (I 67 1) = (-1 : Int32)) (tt := 12) (ff := 8) (L' := [.ref 67]) (S' := []) (σ' := (97, I, J, R)) rfl (fun hc_3 => ?_) (fun hc_3 => ?_)
      · rw [if_pos hc_3] at h
        refine az_E.sn 1 (pc' := 13) (L' := [.ref 67]) (S' := [.int (0 : Int32)]) (σ' := (97, I, J, R)) rfl ?_
        refine az_E.ret (v := some (.int (0 : Int32))) (σ' := (97, I, J, R)) rfl ?_
        show az_E az_F ex 1 61 14 [.ref 67, .int a1] [.int (0 : Int32)] (97, I, J, R) _
        refine az_E.br (c := (0 : Int32) = 0) (tt := 17) (ff := 20) (L' := [.ref 67, .int a1]) (S' := []) (σ' := (97, I, J, R)) rfl (fun _ => ?_) (fun hn => absurd (by decide) hn)
        refine az_E.sn 1 (pc' := 19) (L' := [.ref 67, .int a1]) (S' := [.int (-12 : Int32)]) (σ' := (97, I, J, R)) rfl ?_
        have h := Option.some.inj h
        subst h
        exact az_E.ret (v := some (.int (-12 : Int32))) (σ' := (97, I, J, R)) rfl hQ
      · rw [if_neg hc_3] at h
        refine az_E.sn 2 (pc' := 13) (L' := [.ref 67]) (S' := [.int (1 : Int32)]) (σ' := (97, I, J, R)) rfl ?_
        refine az_E.ret (v := some (.int (1 : Int32))) (σ' := (97, I, J, R)) rfl ?_
        show az_E az_F ex 1 61 14 [.ref 67, .int a1] [.int (1 : Int32)] (97, I, J, R) _
        refine az_E.br (c := (1 : Int32) = 0) (tt := 17) (ff := 20) (L' := [.ref 67, .int a1]) (S' := []) (σ' := (97, I, J, R)) rfl (fun hn => absurd hn (by decide)) (fun _ => ?_)
        refine az_E.sn 6 (pc' := 28) (L' := [.ref 67, .int a1]) (S' := [.int ((I 67 2) - (1 : Int32)), .int (0 : Int32), .int a1]) (σ' := (97, I, J, R)) rfl ?_
        refine az_E.call (d := 0) (k' := 131) (vs := [.int a1, .int (0 : Int32), .int ((I 67 2) - (1 : Int32))]) (pc' := 31) (S' := []) rfl ?_ (fun _ _ hq => hq)
        show az_E az_F ex 0 131 0 [.int a1, .int (0 : Int32), .int ((I 67 2) - (1 : Int32))] [] (97, I, J, R) _
        refine az_E.sn 2 (pc' := 2) (L' := [.int a1, .int (0 : Int32), .int ((I 67 2) - (1 : Int32))]) (S' := [.int (0 : Int32), .int a1]) (σ' := (97, I, J, R)) rfl ?_
        refine az_E.br (c := a1 < (0 : Int32)) (tt := 14) (ff := 5) (L' := [.int a1, .int (0 : Int32), .int ((I 67 2) - (1 : Int32))]) (S' := []) (σ' := (97, I, J, R)) rfl (fun hc_4 => ?_) (fun hc_4 => ?_)
        · rw [if_pos hc_4] at h
          refine az_E.sn 1 (pc' := 15) (L' := [.int a1, .int (0 : Int32), .int ((I 67 2) - (1 : Int32))]) (S' := [.int (0 : Int32)]) (σ' := (97, I, J, R)) rfl ?_
          refine az_E.ret (v := some (.int (0 : Int32))) (σ' := (97, I, J, R)) rfl ?_
          show az_E az_F ex 1 61 31 [.ref 67, .int a1] [.int (0 : Int32)] (97, I, J, R) _
          refine az_E.br (c := (0 : Int32) = 0) (tt := 38) (ff := 34) (L' := [.ref 67, .int a1]) (S' := []) (σ' := (97, I, J, R)) rfl (fun _ => ?_) (fun hn => absurd (by decide) hn)
          refine az_E.sn 1 (pc' := 40) (L' := [.ref 67, .int a1]) (S' := [.int (-13 : Int32)]) (σ' := (97, I, J, R)) rfl ?_
          have h := Option.some.inj h
          subst h
          exact az_E.ret (v := some (.int (-13 : Int32))) (σ' := (97, I, J, R)) rfl hQ
        · rw [if_neg hc_4] at h
          refine az_E.sn 2 (pc' := 7) (L' := [.int a1, .int (0 : Int32), .int ((I 67 2) - (1 : Int32))]) (S' := [.int ((I 67 2) - (1 : Int32)), .int a1]) (σ' := (97, I, J, R)) rfl ?_
          refine az_E.br (c := ((I 67 2) - (1 : Int32)) < a1) (tt := 14) (ff := 10) (L' := [.int a1, .int (0 : Int32), .int ((I 67 2) - (1 : Int32))]) (S' := []) (σ' := (97, I, J, R)) rfl (fun hc_5 => ?_) (fun hc_5 => ?_)
          · rw [if_pos hc_5] at h
            refine az_E.sn 1 (pc' := 15) (L' := [.int a1, .int (0 : Int32), .int ((I 67 2) - (1 : Int32))]) (S' := [.int (0 : Int32)]) (σ' := (97, I, J, R)) rfl ?_
            refine az_E.ret (v := some (.int (0 : Int32))) (σ' := (97, I, J, R)) rfl ?_
            show az_E az_F ex 1 61 31 [.ref 67, .int a1] [.int (0 : Int32)] (97, I, J, R) _
            refine az_E.br (c := (0 : Int32) = 0) (tt := 38) (ff := 34) (L' := [.ref 67, .int a1]) (S' := []) (σ' := (97, I, J, R)) rfl (fun _ => ?_) (fun hn => absurd (by decide) hn)
            refine az_E.sn 1 (pc' := 40) (L' := [.ref 67, .int a1]) (S' := [.int (-13 : Int32)]) (σ' := (97, I, J, R)) rfl ?_
            have h := Option.some.inj h
            subst h
            exact az_E.ret (v := some (.int (-13 : Int32))) (σ' := (97, I, J, R)) rfl hQ
          · rw [if_neg hc_5] at h
            refine az_E.sn 2 (pc' := 15) (L' := [.int a1, .int (0 : Int32), .int ((I 67 2) - (1 : Int32))]) (S' := [.int (1 : Int32)]) (σ' := (97, I, J, R)) rfl ?_
            refine az_E.ret (v := some (.int (1 : Int32))) (σ' := (97, I, J, R)) rfl ?_
            show az_E az_F ex 1 61 31 [.ref 67, .int a1] [.int (1 : Int32)] (97, I, J, R) _
            refine az_E.br (c := (1 : Int32) = 0) (tt := 38) (ff := 34) (L' := [.ref 67, .int a1]) (S' := []) (σ' := (97, I, J, R)) rfl (fun hn => absurd hn (by decide)) (fun _ => ?_)
            refine az_E.sn 2 (pc' := 40) (L' := [.ref 67, .int a1]) (S' := [.int (0 : Int32)]) (σ' := (97, I, J, R)) rfl ?_
            have h := Option.some.inj h
            subst h
            exact az_E.ret (v := some (.int (0 : Int32))) (σ' := (97, I, J, R)) rfl hQ
  · rw [if_neg hc_1] at h
    refine az_E.sn 1 (pc' := 21) (L' := [.ref 67]) (S' := [.int (0 : Int32)]) (σ' := (97, I, J, R)) rfl ?_
    refine az_E.ret (v := some (.int (0 : Int32))) (σ' := (97, I, J, R)) rfl ?_
    show az_E az_F ex 1 61 4 [.ref 67, .int a1] [.int (0 : Int32)] (97, I, J, R) _
    refine az_E.br (c := (0 : Int32) = 0) (tt := 10) (ff := 7) (L' := [.ref 67, .int a1]) (S' := []) (σ' := (97, I, J, R)) rfl (fun _ => ?_) (fun hn => absurd (by decide) hn)
    refine az_E.sn 1 (pc' := 11) (L' := [.ref 67, .int a1]) (S' := [.ref 67]) (σ' := (97, I, J, R)) rfl ?_
    refine az_E.call (d := 0) (k' := 55) (vs := [.ref 67]) (pc' := 14) (S' := []) rfl ?_ (fun _ _ hq => hq)
    show az_E az_F ex 0 55 0 [.ref 67] [] (97, I, J, R) _
    refine az_E.sn 3 (pc' := 5) (L' := [.ref 67]) (S' := [.int (-1 : Int32), .int (I 67 1)]) (σ' := (97, I, J, R)) rfl ?_
    refine az_E.br (c := (I 67 1) = (-1 : Int32)) (tt := 12) (ff := 8) (L' := [.ref 67]) (S' := []) (σ' := (97, I, J, R)) rfl (fun hc_6 => ?_) (fun hc_6 => ?_)
    · rw [if_pos hc_6] at h
      refine az_E.sn 1 (pc' := 13) (L' := [.ref 67]) (S' := [.int (0 : Int32)]) (σ' := (97, I, J, R)) rfl ?_
      refine az_E.ret (v := some (.int (0 : Int32))) (σ' := (97, I, J, R)) rfl ?_
      show az_E az_F ex 1 61 14 [.ref 67, .int a1] [.int (0 : Int32)] (97, I, J, R) _
      refine az_E.br (c := (0 : Int32) = 0) (tt := 17) (ff := 20) (L' := [.ref 67, .int a1]) (S' := []) (σ' := (97, I, J, R)) rfl (fun _ => ?_) (fun hn => absurd (by decide) hn)
      refine az_E.sn 1 (pc' := 19) (L' := [.ref 67, .int a1]) (S' := [.int (-12 : Int32)]) (σ' := (97, I, J, R)) rfl ?_
      have h := Option.some.inj h
      subst h
      exact az_E.ret (v := some (.int (-12 : Int32))) (σ' := (97, I, J, R)) rfl hQ
    · rw [if_neg hc_6] at h
      refine az_E.sn 2 (pc' := 13) (L' := [.ref 67]) (S' := [.int (1 : Int32)]) (σ' := (97, I, J, R)) rfl ?_
      refine az_E.ret (v := some (.int (1 : Int32))) (σ' := (97, I, J, R)) rfl ?_
      show az_E az_F ex 1 61 14 [.ref 67, .int a1] [.int (1 : Int32)] (97, I, J, R) _
      refine az_E.br (c := (1 : Int32) = 0) (tt := 17) (ff := 20) (L' := [.ref 67, .int a1]) (S' := []) (σ' := (97, I, J, R)) rfl (fun hn => absurd hn (by decide)) (fun _ => ?_)
      refine az_E.sn 6 (pc' := 28) (L' := [.ref 67, .int a1]) (S' := [.int ((I 67 2) - (1 : Int32)), .int (0 : Int32), .int a1]) (σ' := (97, I, J, R)) rfl ?_
      refine az_E.call (d := 0) (k' := 131) (vs := [.int a1, .int (0 : Int32), .int ((I 67 2) - (1 : Int32))]) (pc' := 31) (S' := []) rfl ?_ (fun _ _ hq => hq)
      show az_E az_F ex 0 131 0 [.int a1, .int (0 : Int32), .int ((I 67 2) - (1 : Int32))] [] (97, I, J, R) _
      refine az_E.sn 2 (pc' := 2) (L' := [.int a1, .int (0 : Int32), .int ((I 67 2) - (1 : Int32))]) (S' := [.int (0 : Int32), .int a1]) (σ' := (97, I, J, R)) rfl ?_
      refine az_E.br (c := a1 < (0 : Int32)) (tt := 14) (ff := 5) (L' := [.int a1, .int (0 : Int32), .int ((I 67 2) - (1 : Int32))]) (S' := []) (σ' := (97, I, J, R)) rfl (fun hc_7 => ?_) (fun hc_7 => ?_)
      · rw [if_pos hc_7] at h
        refine az_E.sn 1 (pc' := 15) (L' := [.int a1, .int (0 : Int32), .int ((I 67 2) - (1 : Int32))]) (S' := [.int (0 : Int32)]) (σ' := (97, I, J, R)) rfl ?_
        refine az_E.ret (v := some (.int (0 : Int32))) (σ' := (97, I, J, R)) rfl ?_
        show az_E az_F ex 1 61 31 [.ref 67, .int a1] [.int (0 : Int32)] (97, I, J, R) _
        refine az_E.br (c := (0 : Int32) = 0) (tt := 38) (ff := 34) (L' := [.ref 67, .int a1]) (S' := []) (σ' := (97, I, J, R)) rfl (fun _ => ?_) (fun hn => absurd (by decide) hn)
        refine az_E.sn 1 (pc' := 40) (L' := [.ref 67, .int a1]) (S' := [.int (-13 : Int32)]) (σ' := (97, I, J, R)) rfl ?_
        have h := Option.some.inj h
        subst h
        exact az_E.ret (v := some (.int (-13 : Int32))) (σ' := (97, I, J, R)) rfl hQ
      · rw [if_neg hc_7] at h
        refine az_E.sn 2 (pc' := 7) (L' := [.int a1, .int (0 : Int32), .int ((I 67 2) - (1 : Int32))]) (S' := [.int ((I 67 2) - (1 : Int32)), .int a1]) (σ' := (97, I, J, R)) rfl ?_
        refine az_E.br (c := ((I 67 2) - (1 : Int32)) < a1) (tt := 14) (ff := 10) (L' := [.int a1, .int (0 : Int32), .int ((I 67 2) - (1 : Int32))]) (S' := []) (σ' := (97, I, J, R)) rfl (fun hc_8 => ?_) (fun hc_8 => ?_)
        · rw [if_pos hc_8] at h
          refine az_E.sn 1 (pc' := 15) (L' := [.int a1, .int (0 : Int32), .int ((I 67 2) - (1 : Int32))]) (S' := [.int (0 : Int32)]) (σ' := (97, I, J, R)) rfl ?_
          refine az_E.ret (v := some (.int (0 : Int32))) (σ' := (97, I, J, R)) rfl ?_
          show az_E az_F ex 1 61 31 [.ref 67, .int a1] [.int (0 : Int32)] (97, I, J, R) _
          refine az_E.br (c := (0 : Int32) = 0) (tt := 38) (ff := 34) (L' := [.ref 67, .int a1]) (S' := []) (σ' := (97, I, J, R)) rfl (fun _ => ?_) (fun hn => absurd (by decide) hn)
          refine az_E.sn 1 (pc' := 40) (L' := [.ref 67, .int a1]) (S' := [.int (-13 : Int32)]) (σ' := (97, I, J, R)) rfl ?_
          have h := Option.some.inj h
          subst h
          exact az_E.ret (v := some (.int (-13 : Int32))) (σ' := (97, I, J, R)) rfl hQ
        · rw [if_neg hc_8] at h
          refine az_E.sn 2 (pc' := 15) (L' := [.int a1, .int (0 : Int32), .int ((I 67 2) - (1 : Int32))]) (S' := [.int (1 : Int32)]) (σ' := (97, I, J, R)) rfl ?_
          refine az_E.ret (v := some (.int (1 : Int32))) (σ' := (97, I, J, R)) rfl ?_
          show az_E az_F ex 1 61 31 [.ref 67, .int a1] [.int (1 : Int32)] (97, I, J, R) _
          refine az_E.br (c := (1 : Int32) = 0) (tt := 38) (ff := 34) (L' := [.ref 67, .int a1]) (S' := []) (σ' := (97, I, J, R)) rfl (fun hn => absurd hn (by decide)) (fun _ => ?_)
          refine az_E.sn 2 (pc' := 40) (L' := [.ref 67, .int a1]) (S' := [.int (0 : Int32)]) (σ' := (97, I, J, R)) rfl ?_
          have h := Option.some.inj h
          subst h
          exact az_E.ret (v := some (.int (0 : Int32))) (σ' := (97, I, J, R)) rfl hQ
set_option maxRecDepth 100000 in
set_option maxHeartbeats 4000000 in
theorem re_Sh_refusalAt_69 {ex : az_X} {I : Nat → Nat → Int32} {J : Nat → Nat → Int64} {R : Nat → Nat → Option Nat} {a1 : Int32} {o : Int32} (h : rs_Sh_refusalAt 69 I a1 = some o) {Q : Option Value → az_S → Prop} (hQ : Q (some (.int o)) (97, I, J, R)) : az_E az_F ex 1 61 0 [.ref 69, .int a1] [] (97, I, J, R) Q := by
  unfold rs_Sh_refusalAt at h
  refine az_E.sn 1 (pc' := 1) (L' := [.ref 69, .int a1]) (S' := [.ref 69]) (σ' := (97, I, J, R)) rfl ?_
  refine az_E.call (d := 0) (k' := 54) (vs := [.ref 69]) (pc' := 4) (S' := []) rfl ?_ (fun _ _ hq => hq)
  show az_E az_F ex 0 54 0 [.ref 69] [] (97, I, J, R) _
  refine az_E.sn 3 (pc' := 5) (L' := [.ref 69]) (S' := [.int (-1 : Int32), .int (I 69 0)]) (σ' := (97, I, J, R)) rfl ?_
  refine az_E.br (c := (I 69 0) = (-1 : Int32)) (tt := 8) (ff := 20) (L' := [.ref 69]) (S' := []) (σ' := (97, I, J, R)) rfl (fun hc_1 => ?_) (fun hc_1 => ?_)
  · rw [if_pos hc_1] at h
    refine az_E.sn 3 (pc' := 13) (L' := [.ref 69]) (S' := [.int (-1 : Int32), .int (I 69 1)]) (σ' := (97, I, J, R)) rfl ?_
    refine az_E.br (c := (I 69 1) = (-1 : Int32)) (tt := 16) (ff := 20) (L' := [.ref 69]) (S' := []) (σ' := (97, I, J, R)) rfl (fun hc_2 => ?_) (fun hc_2 => ?_)
    · rw [if_pos hc_2] at h
      refine az_E.sn 2 (pc' := 21) (L' := [.ref 69]) (S' := [.int (1 : Int32)]) (σ' := (97, I, J, R)) rfl ?_
      refine az_E.ret (v := some (.int (1 : Int32))) (σ' := (97, I, J, R)) rfl ?_
      show az_E az_F ex 1 61 4 [.ref 69, .int a1] [.int (1 : Int32)] (97, I, J, R) _
      refine az_E.br (c := (1 : Int32) = 0) (tt := 10) (ff := 7) (L' := [.ref 69, .int a1]) (S' := []) (σ' := (97, I, J, R)) rfl (fun hn => absurd hn (by decide)) (fun _ => ?_)
      refine az_E.sn 1 (pc' := 9) (L' := [.ref 69, .int a1]) (S' := [.int (-11 : Int32)]) (σ' := (97, I, J, R)) rfl ?_
      have h := Option.some.inj h
      subst h
      exact az_E.ret (v := some (.int (-11 : Int32))) (σ' := (97, I, J, R)) rfl hQ
    · rw [if_neg hc_2] at h
      refine az_E.sn 1 (pc' := 21) (L' := [.ref 69]) (S' := [.int (0 : Int32)]) (σ' := (97, I, J, R)) rfl ?_
      refine az_E.ret (v := some (.int (0 : Int32))) (σ' := (97, I, J, R)) rfl ?_
      show az_E az_F ex 1 61 4 [.ref 69, .int a1] [.int (0 : Int32)] (97, I, J, R) _
      refine az_E.br (c := (0 : Int32) = 0) (tt := 10) (ff := 7) (L' := [.ref 69, .int a1]) (S' := []) (σ' := (97, I, J, R)) rfl (fun _ => ?_) (fun hn => absurd (by decide) hn)
      refine az_E.sn 1 (pc' := 11) (L' := [.ref 69, .int a1]) (S' := [.ref 69]) (σ' := (97, I, J, R)) rfl ?_
      refine az_E.call (d := 0) (k' := 55) (vs := [.ref 69]) (pc' := 14) (S' := []) rfl ?_ (fun _ _ hq => hq)
      show az_E az_F ex 0 55 0 [.ref 69] [] (97, I, J, R) _
      refine az_E.sn 3 (pc' := 5) (L' := [.ref 69]) (S' := [.int (-1 : Int32), .int (I 69 1)]) (σ' := (97, I, J, R)) rfl ?_
      refine az_E.br (c := (I 69 1) = (-1 : Int32)) (tt := 12) (ff := 8) (L' := [.ref 69]) (S' := []) (σ' := (97, I, J, R)) rfl (fun hc_3 => ?_) (fun hc_3 => ?_)
      · rw [if_pos hc_3] at h
        refine az_E.sn 1 (pc' := 13) (L' := [.ref 69]) (S' := [.int (0 : Int32)]) (σ' := (97, I, J, R)) rfl ?_
        refine az_E.ret (v := some (.int (0 : Int32))) (σ' := (97, I, J, R)) rfl ?_
        show az_E az_F ex 1 61 14 [.ref 69, .int a1] [.int (0 : Int32)] (97, I, J, R) _
        refine az_E.br (c := (0 : Int32) = 0) (tt := 17) (ff := 20) (L' := [.ref 69, .int a1]) (S' := []) (σ' := (97, I, J, R)) rfl (fun _ => ?_) (fun hn => absurd (by decide) hn)
        refine az_E.sn 1 (pc' := 19) (L' := [.ref 69, .int a1]) (S' := [.int (-12 : Int32)]) (σ' := (97, I, J, R)) rfl ?_
        have h := Option.some.inj h
        subst h
        exact az_E.ret (v := some (.int (-12 : Int32))) (σ' := (97, I, J, R)) rfl hQ
      · rw [if_neg hc_3] at h
        refine az_E.sn 2 (pc' := 13) (L' := [.ref 69]) (S' := [.int (1 : Int32)]) (σ' := (97, I, J, R)) rfl ?_
        refine az_E.ret (v := some (.int (1 : Int32))) (σ' := (97, I, J, R)) rfl ?_
        show az_E az_F ex 1 61 14 [.ref 69, .int a1] [.int (1 : Int32)] (97, I, J, R) _
        refine az_E.br (c := (1 : Int32) = 0) (tt := 17) (ff := 20) (L' := [.ref 69, .int a1]) (S' := []) (σ' := (97, I, J, R)) rfl (fun hn => absurd hn (by decide)) (fun _ => ?_)
        refine az_E.sn 6 (pc' := 28) (L' := [.ref 69, .int a1]) (S' := [.int ((I 69 2) - (1 : Int32)), .int (0 : Int32), .int a1]) (σ' := (97, I, J, R)) rfl ?_
        refine az_E.call (d := 0) (k' := 131) (vs := [.int a1, .int (0 : Int32), .int ((I 69 2) - (1 : Int32))]) (pc' := 31) (S' := []) rfl ?_ (fun _ _ hq => hq)
        show az_E az_F ex 0 131 0 [.int a1, .int (0 : Int32), .int ((I 69 2) - (1 : Int32))] [] (97, I, J, R) _
        refine az_E.sn 2 (pc' := 2) (L' := [.int a1, .int (0 : Int32), .int ((I 69 2) - (1 : Int32))]) (S' := [.int (0 : Int32), .int a1]) (σ' := (97, I, J, R)) rfl ?_
        refine az_E.br (c := a1 < (0 : Int32)) (tt := 14) (ff := 5) (L' := [.int a1, .int (0 : Int32), .int ((I 69 2) - (1 : Int32))]) (S' := []) (σ' := (97, I, J, R)) rfl (fun hc_4 => ?_) (fun hc_4 => ?_)
        · rw [if_pos hc_4] at h
          refine az_E.sn 1 (pc' := 15) (L' := [.int a1, .int (0 : Int32), .int ((I 69 2) - (1 : Int32))]) (S' := [.int (0 : Int32)]) (σ' := (97, I, J, R)) rfl ?_
          refine az_E.ret (v := some (.int (0 : Int32))) (σ' := (97, I, J, R)) rfl ?_
          show az_E az_F ex 1 61 31 [.ref 69, .int a1] [.int (0 : Int32)] (97, I, J, R) _
          refine az_E.br (c := (0 : Int32) = 0) (tt := 38) (ff := 34) (L' := [.ref 69, .int a1]) (S' := []) (σ' := (97, I, J, R)) rfl (fun _ => ?_) (fun hn => absurd (by decide) hn)
          refine az_E.sn 1 (pc' := 40) (L' := [.ref 69, .int a1]) (S' := [.int (-13 : Int32)]) (σ' := (97, I, J, R)) rfl ?_
          have h := Option.some.inj h
          subst h
          exact az_E.ret (v := some (.int (-13 : Int32))) (σ' := (97, I, J, R)) rfl hQ
        · rw [if_neg hc_4] at h
          refine az_E.sn 2 (pc' := 7) (L' := [.int a1, .int (0 : Int32), .int ((I 69 2) - (1 : Int32))]) (S' := [.int ((I 69 2) - (1 : Int32)), .int a1]) (σ' := (97, I, J, R)) rfl ?_
          refine az_E.br (c := ((I 69 2) - (1 : Int32)) < a1) (tt := 14) (ff := 10) (L' := [.int a1, .int (0 : Int32), .int ((I 69 2) - (1 : Int32))]) (S' := []) (σ' := (97, I, J, R)) rfl (fun hc_5 => ?_) (fun hc_5 => ?_)
          · rw [if_pos hc_5] at h
            refine az_E.sn 1 (pc' := 15) (L' := [.int a1, .int (0 : Int32), .int ((I 69 2) - (1 : Int32))]) (S' := [.int (0 : Int32)]) (σ' := (97, I, J, R)) rfl ?_
            refine az_E.ret (v := some (.int (0 : Int32))) (σ' := (97, I, J, R)) rfl ?_
            show az_E az_F ex 1 61 31 [.ref 69, .int a1] [.int (0 : Int32)] (97, I, J, R) _
            refine az_E.br (c := (0 : Int32) = 0) (tt := 38) (ff := 34) (L' := [.ref 69, .int a1]) (S' := []) (σ' := (97, I, J, R)) rfl (fun _ => ?_) (fun hn => absurd (by decide) hn)
            refine az_E.sn 1 (pc' := 40) (L' := [.ref 69, .int a1]) (S' := [.int (-13 : Int32)]) (σ' := (97, I, J, R)) rfl ?_
            have h := Option.some.inj h
            subst h
            exact az_E.ret (v := some (.int (-13 : Int32))) (σ' := (97, I, J, R)) rfl hQ
          · rw [if_neg hc_5] at h
            refine az_E.sn 2 (pc' := 15) (L' := [.int a1, .int (0 : Int32), .int ((I 69 2) - (1 : Int32))]) (S' := [.int (1 : Int32)]) (σ' := (97, I, J, R)) rfl ?_
            refine az_E.ret (v := some (.int (1 : Int32))) (σ' := (97, I, J, R)) rfl ?_
            show az_E az_F ex 1 61 31 [.ref 69, .int a1] [.int (1 : Int32)] (97, I, J, R) _
            refine az_E.br (c := (1 : Int32) = 0) (tt := 38) (ff := 34) (L' := [.ref 69, .int a1]) (S' := []) (σ' := (97, I, J, R)) rfl (fun hn => absurd hn (by decide)) (fun _ => ?_)
            refine az_E.sn 2 (pc' := 40) (L' := [.ref 69, .int a1]) (S' := [.int (0 : Int32)]) (σ' := (97, I, J, R)) rfl ?_
            have h := Option.some.inj h
            subst h
            exact az_E.ret (v := some (.int (0 : Int32))) (σ' := (97, I, J, R)) rfl hQ
  · rw [if_neg hc_1] at h
    refine az_E.sn 1 (pc' := 21) (L' := [.ref 69]) (S' := [.int (0 : Int32)]) (σ' := (97, I, J, R)) rfl ?_
    refine az_E.ret (v := some (.int (0 : Int32))) (σ' := (97, I, J, R)) rfl ?_
    show az_E az_F ex 1 61 4 [.ref 69, .int a1] [.int (0 : Int32)] (97, I, J, R) _
    refine az_E.br (c := (0 : Int32) = 0) (tt := 10) (ff := 7) (L' := [.ref 69, .int a1]) (S' := []) (σ' := (97, I, J, R)) rfl (fun _ => ?_) (fun hn => absurd (by decide) hn)
    refine az_E.sn 1 (pc' := 11) (L' := [.ref 69, .int a1]) (S' := [.ref 69]) (σ' := (97, I, J, R)) rfl ?_
    refine az_E.call (d := 0) (k' := 55) (vs := [.ref 69]) (pc' := 14) (S' := []) rfl ?_ (fun _ _ hq => hq)
    show az_E az_F ex 0 55 0 [.ref 69] [] (97, I, J, R) _
    refine az_E.sn 3 (pc' := 5) (L' := [.ref 69]) (S' := [.int (-1 : Int32), .int (I 69 1)]) (σ' := (97, I, J, R)) rfl ?_
    refine az_E.br (c := (I 69 1) = (-1 : Int32)) (tt := 12) (ff := 8) (L' := [.ref 69]) (S' := []) (σ' := (97, I, J, R)) rfl (fun hc_6 => ?_) (fun hc_6 => ?_)
    · rw [if_pos hc_6] at h
      refine az_E.sn 1 (pc' := 13) (L' := [.ref 69]) (S' := [.int (0 : Int32)]) (σ' := (97, I, J, R)) rfl ?_
      refine az_E.ret (v := some (.int (0 : Int32))) (σ' := (97, I, J, R)) rfl ?_
      show az_E az_F ex 1 61 14 [.ref 69, .int a1] [.int (0 : Int32)] (97, I, J, R) _
      refine az_E.br (c := (0 : Int32) = 0) (tt := 17) (ff := 20) (L' := [.ref 69, .int a1]) (S' := []) (σ' := (97, I, J, R)) rfl (fun _ => ?_) (fun hn => absurd (by decide) hn)
      refine az_E.sn 1 (pc' := 19) (L' := [.ref 69, .int a1]) (S' := [.int (-12 : Int32)]) (σ' := (97, I, J, R)) rfl ?_
      have h := Option.some.inj h
      subst h
      exact az_E.ret (v := some (.int (-12 : Int32))) (σ' := (97, I, J, R)) rfl hQ
    · rw [if_neg hc_6] at h
      refine az_E.sn 2 (pc' := 13) (L' := [.ref 69]) (S' := [.int (1 : Int32)]) (σ' := (97, I, J, R)) rfl ?_
      refine az_E.ret (v := some (.int (1 : Int32))) (σ' := (97, I, J, R)) rfl ?_
      show az_E az_F ex 1 61 14 [.ref 69, .int a1] [.int (1 : Int32)] (97, I, J, R) _
      refine az_E.br (c := (1 : Int32) = 0) (tt := 17) (ff := 20) (L' := [.ref 69, .int a1]) (S' := []) (σ' := (97, I, J, R)) rfl (fun hn => absurd hn (by decide)) (fun _ => ?_)
      refine az_E.sn 6 (pc' := 28) (L' := [.ref 69, .int a1]) (S' := [.int ((I 69 2) - (1 : Int32)), .int (0 : Int32), .int a1]) (σ' := (97, I, J, R)) rfl ?_
      refine az_E.call (d := 0) (k' := 131) (vs := [.int a1, .int (0 : Int32), .int ((I 69 2) - (1 : Int32))]) (pc' := 31) (S' := []) rfl ?_ (fun _ _ hq => hq)
      show az_E az_F ex 0 131 0 [.int a1, .int (0 : Int32), .int ((I 69 2) - (1 : Int32))] [] (97, I, J, R) _
      refine az_E.sn 2 (pc' := 2) (L' := [.int a1, .int (0 : Int32), .int ((I 69 2) - (1 : Int32))]) (S' := [.int (0 : Int32), .int a1]) (σ' := (97, I, J, R)) rfl ?_
      refine az_E.br (c := a1 < (0 : Int32)) (tt := 14) (ff := 5) (L' := [.int a1, .int (0 : Int32), .int ((I 69 2) - (1 : Int32))]) (S' := []) (σ' := (97, I, J, R)) rfl (fun hc_7 => ?_) (fun hc_7 => ?_)
      · rw [if_pos hc_7] at h
        refine az_E.sn 1 (pc' := 15) (L' := [.int a1, .int (0 : Int32), .int ((I 69 2) - (1 : Int32))]) (S' := [.int (0 : Int32)]) (σ' := (97, I, J, R)) rfl ?_
        refine az_E.ret (v := some (.int (0 : Int32))) (σ' := (97, I, J, R)) rfl ?_
        show az_E az_F ex 1 61 31 [.ref 69, .int a1] [.int (0 : Int32)] (97, I, J, R) _
        refine az_E.br (c := (0 : Int32) = 0) (tt := 38) (ff := 34) (L' := [.ref 69, .int a1]) (S' := []) (σ' := (97, I, J, R)) rfl (fun _ => ?_) (fun hn => absurd (by decide) hn)
        refine az_E.sn 1 (pc' := 40) (L' := [.ref 69, .int a1]) (S' := [.int (-13 : Int32)]) (σ' := (97, I, J, R)) rfl ?_
        have h := Option.some.inj h
        subst h
        exact az_E.ret (v := some (.int (-13 : Int32))) (σ' := (97, I, J, R)) rfl hQ
      · rw [if_neg hc_7] at h
        refine az_E.sn 2 (pc' := 7) (L' := [.int a1, .int (0 : Int32), .int ((I 69 2) - (1 : Int32))]) (S' := [.int ((I 69 2) - (1 : Int32)), .int a1]) (σ' := (97, I, J, R)) rfl ?_
        refine az_E.br (c := ((I 69 2) - (1 : Int32)) < a1) (tt := 14) (ff := 10) (L' := [.int a1, .int (0 : Int32), .int ((I 69 2) - (1 : Int32))]) (S' := []) (σ' := (97, I, J, R)) rfl (fun hc_8 => ?_) (fun hc_8 => ?_)
        · rw [if_pos hc_8] at h
          refine az_E.sn 1 (pc' := 15) (L' := [.int a1, .int (0 : Int32), .int ((I 69 2) - (1 : Int32))]) (S' := [.int (0 : Int32)]) (σ' := (97, I, J, R)) rfl ?_
          refine az_E.ret (v := some (.int (0 : Int32))) (σ' := (97, I, J, R)) rfl ?_
          show az_E az_F ex 1 61 31 [.ref 69, .int a1] [.int (0 : Int32)] (97, I, J, R) _
          refine az_E.br (c := (0 : Int32) = 0) (tt := 38) (ff := 34) (L' := [.ref 69, .int a1]) (S' := []) (σ' := (97, I, J, R)) rfl (fun _ => ?_) (fun hn => absurd (by decide) hn)
          refine az_E.sn 1 (pc' := 40) (L' := [.ref 69, .int a1]) (S' := [.int (-13 : Int32)]) (σ' := (97, I, J, R)) rfl ?_
          have h := Option.some.inj h
          subst h
          exact az_E.ret (v := some (.int (-13 : Int32))) (σ' := (97, I, J, R)) rfl hQ
        · rw [if_neg hc_8] at h
          refine az_E.sn 2 (pc' := 15) (L' := [.int a1, .int (0 : Int32), .int ((I 69 2) - (1 : Int32))]) (S' := [.int (1 : Int32)]) (σ' := (97, I, J, R)) rfl ?_
          refine az_E.ret (v := some (.int (1 : Int32))) (σ' := (97, I, J, R)) rfl ?_
          show az_E az_F ex 1 61 31 [.ref 69, .int a1] [.int (1 : Int32)] (97, I, J, R) _
          refine az_E.br (c := (1 : Int32) = 0) (tt := 38) (ff := 34) (L' := [.ref 69, .int a1]) (S' := []) (σ' := (97, I, J, R)) rfl (fun hn => absurd hn (by decide)) (fun _ => ?_)
          refine az_E.sn 2 (pc' := 40) (L' := [.ref 69, .int a1]) (S' := [.int (0 : Int32)]) (σ' := (97, I, J, R)) rfl ?_
          have h := Option.some.inj h
          subst h
          exact az_E.ret (v := some (.int (0 : Int32))) (σ' := (97, I, J, R)) rfl hQ
set_option maxRecDepth 100000 in
set_option maxHeartbeats 4000000 in
theorem re_Sh_refusalAt_71 {ex : az_X} {I : Nat → Nat → Int32} {J : Nat → Nat → Int64} {R : Nat → Nat → Option Nat} {a1 : Int32} {o : Int32} (h : rs_Sh_refusalAt 71 I a1 = some o) {Q : Option Value → az_S → Prop} (hQ : Q (some (.int o)) (97, I, J, R)) : az_E az_F ex 1 61 0 [.ref 71, .int a1] [] (97, I, J, R) Q := by
  unfold rs_Sh_refusalAt at h
  refine az_E.sn 1 (pc' := 1) (L' := [.ref 71, .int a1]) (S' := [.ref 71]) (σ' := (97, I, J, R)) rfl ?_
  refine az_E.call (d := 0) (k' := 54) (vs := [.ref 71]) (pc' := 4) (S' := []) rfl ?_ (fun _ _ hq => hq)
  show az_E az_F ex 0 54 0 [.ref 71] [] (97, I, J, R) _
  refine az_E.sn 3 (pc' := 5) (L' := [.ref 71]) (S' := [.int (-1 : Int32), .int (I 71 0)]) (σ' := (97, I, J, R)) rfl ?_
  refine az_E.br (c := (I 71 0) = (-1 : Int32)) (tt := 8) (ff := 20) (L' := [.ref 71]) (S' := []) (σ' := (97, I, J, R)) rfl (fun hc_1 => ?_) (fun hc_1 => ?_)
  · rw [if_pos hc_1] at h
    refine az_E.sn 3 (pc' := 13) (L' := [.ref 71]) (S' := [.int (-1 : Int32), .int (I 71 1)]) (σ' := (97, I, J, R)) rfl ?_
    refine az_E.br (c := (I 71 1) = (-1 : Int32)) (tt := 16) (ff := 20) (L' := [.ref 71]) (S' := []) (σ' := (97, I, J, R)) rfl (fun hc_2 => ?_) (fun hc_2 => ?_)
    · rw [if_pos hc_2] at h
      refine az_E.sn 2 (pc' := 21) (L' := [.ref 71]) (S' := [.int (1 : Int32)]) (σ' := (97, I, J, R)) rfl ?_
      refine az_E.ret (v := some (.int (1 : Int32))) (σ' := (97, I, J, R)) rfl ?_
      show az_E az_F ex 1 61 4 [.ref 71, .int a1] [.int (1 : Int32)] (97, I, J, R) _
      refine az_E.br (c := (1 : Int32) = 0) (tt := 10) (ff := 7) (L' := [.ref 71, .int a1]) (S' := []) (σ' := (97, I, J, R)) rfl (fun hn => absurd hn (by decide)) (fun _ => ?_)
      refine az_E.sn 1 (pc' := 9) (L' := [.ref 71, .int a1]) (S' := [.int (-11 : Int32)]) (σ' := (97, I, J, R)) rfl ?_
      have h := Option.some.inj h
      subst h
      exact az_E.ret (v := some (.int (-11 : Int32))) (σ' := (97, I, J, R)) rfl hQ
    · rw [if_neg hc_2] at h
      refine az_E.sn 1 (pc' := 21) (L' := [.ref 71]) (S' := [.int (0 : Int32)]) (σ' := (97, I, J, R)) rfl ?_
      refine az_E.ret (v := some (.int (0 : Int32))) (σ' := (97, I, J, R)) rfl ?_
      show az_E az_F ex 1 61 4 [.ref 71, .int a1] [.int (0 : Int32)] (97, I, J, R) _
      refine az_E.br (c := (0 : Int32) = 0) (tt := 10) (ff := 7) (L' := [.ref 71, .int a1]) (S' := []) (σ' := (97, I, J, R)) rfl (fun _ => ?_) (fun hn => absurd (by decide) hn)
      refine az_E.sn 1 (pc' := 11) (L' := [.ref 71, .int a1]) (S' := [.ref 71]) (σ' := (97, I, J, R)) rfl ?_
      refine az_E.call (d := 0) (k' := 55) (vs := [.ref 71]) (pc' := 14) (S' := []) rfl ?_ (fun _ _ hq => hq)
      show az_E az_F ex 0 55 0 [.ref 71] [] (97, I, J, R) _
      refine az_E.sn 3 (pc' := 5) (L' := [.ref 71]) (S' := [.int (-1 : Int32), .int (I 71 1)]) (σ' := (97, I, J, R)) rfl ?_
      refine az_E.br (c := (I 71 1) = (-1 : Int32)) (tt := 12) (ff := 8) (L' := [.ref 71]) (S' := []) (σ' := (97, I, J, R)) rfl (fun hc_3 => ?_) (fun hc_3 => ?_)
      · rw [if_pos hc_3] at h
        refine az_E.sn 1 (pc' := 13) (L' := [.ref 71]) (S' := [.int (0 : Int32)]) (σ' := (97, I, J, R)) rfl ?_
        refine az_E.ret (v := some (.int (0 : Int32))) (σ' := (97, I, J, R)) rfl ?_
        show az_E az_F ex 1 61 14 [.ref 71, .int a1] [.int (0 : Int32)] (97, I, J, R) _
        refine az_E.br (c := (0 : Int32) = 0) (tt := 17) (ff := 20) (L' := [.ref 71, .int a1]) (S' := []) (σ' := (97, I, J, R)) rfl (fun _ => ?_) (fun hn => absurd (by decide) hn)
        refine az_E.sn 1 (pc' := 19) (L' := [.ref 71, .int a1]) (S' := [.int (-12 : Int32)]) (σ' := (97, I, J, R)) rfl ?_
        have h := Option.some.inj h
        subst h
        exact az_E.ret (v := some (.int (-12 : Int32))) (σ' := (97, I, J, R)) rfl hQ
      · rw [if_neg hc_3] at h
        refine az_E.sn 2 (pc' := 13) (L' := [.ref 71]) (S' := [.int (1 : Int32)]) (σ' := (97, I, J, R)) rfl ?_
        refine az_E.ret (v := some (.int (1 : Int32))) (σ' := (97, I, J, R)) rfl ?_
        show az_E az_F ex 1 61 14 [.ref 71, .int a1] [.int (1 : Int32)] (97, I, J, R) _
        refine az_E.br (c := (1 : Int32) = 0) (tt := 17) (ff := 20) (L' := [.ref 71, .int a1]) (S' := []) (σ' := (97, I, J, R)) rfl (fun hn => absurd hn (by decide)) (fun _ => ?_)
        refine az_E.sn 6 (pc' := 28) (L' := [.ref 71, .int a1]) (S' := [.int ((I 71 2) - (1 : Int32)), .int (0 : Int32), .int a1]) (σ' := (97, I, J, R)) rfl ?_
        refine az_E.call (d := 0) (k' := 131) (vs := [.int a1, .int (0 : Int32), .int ((I 71 2) - (1 : Int32))]) (pc' := 31) (S' := []) rfl ?_ (fun _ _ hq => hq)
        show az_E az_F ex 0 131 0 [.int a1, .int (0 : Int32), .int ((I 71 2) - (1 : Int32))] [] (97, I, J, R) _
        refine az_E.sn 2 (pc' := 2) (L' := [.int a1, .int (0 : Int32), .int ((I 71 2) - (1 : Int32))]) (S' := [.int (0 : Int32), .int a1]) (σ' := (97, I, J, R)) rfl ?_
        refine az_E.br (c := a1 < (0 : Int32)) (tt := 14) (ff := 5) (L' := [.int a1, .int (0 : Int32), .int ((I 71 2) - (1 : Int32))]) (S' := []) (σ' := (97, I, J, R)) rfl (fun hc_4 => ?_) (fun hc_4 => ?_)
        · rw [if_pos hc_4] at h
          refine az_E.sn 1 (pc' := 15) (L' := [.int a1, .int (0 : Int32), .int ((I 71 2) - (1 : Int32))]) (S' := [.int (0 : Int32)]) (σ' := (97, I, J, R)) rfl ?_
          refine az_E.ret (v := some (.int (0 : Int32))) (σ' := (97, I, J, R)) rfl ?_
          show az_E az_F ex 1 61 31 [.ref 71, .int a1] [.int (0 : Int32)] (97, I, J, R) _
          refine az_E.br (c := (0 : Int32) = 0) (tt := 38) (ff := 34) (L' := [.ref 71, .int a1]) (S' := []) (σ' := (97, I, J, R)) rfl (fun _ => ?_) (fun hn => absurd (by decide) hn)
          refine az_E.sn 1 (pc' := 40) (L' := [.ref 71, .int a1]) (S' := [.int (-13 : Int32)]) (σ' := (97, I, J, R)) rfl ?_
          have h := Option.some.inj h
          subst h
          exact az_E.ret (v := some (.int (-13 : Int32))) (σ' := (97, I, J, R)) rfl hQ
        · rw [if_neg hc_4] at h
          refine az_E.sn 2 (pc' := 7) (L' := [.int a1, .int (0 : Int32), .int ((I 71 2) - (1 : Int32))]) (S' := [.int ((I 71 2) - (1 : Int32)), .int a1]) (σ' := (97, I, J, R)) rfl ?_
          refine az_E.br (c := ((I 71 2) - (1 : Int32)) < a1) (tt := 14) (ff := 10) (L' := [.int a1, .int (0 : Int32), .int ((I 71 2) - (1 : Int32))]) (S' := []) (σ' := (97, I, J, R)) rfl (fun hc_5 => ?_) (fun hc_5 => ?_)
          · rw [if_pos hc_5] at h
            refine az_E.sn 1 (pc' := 15) (L' := [.int a1, .int (0 : Int32), .int ((I 71 2) - (1 : Int32))]) (S' := [.int (0 : Int32)]) (σ' := (97, I, J, R)) rfl ?_
            refine az_E.ret (v := some (.int (0 : Int32))) (σ' := (97, I, J, R)) rfl ?_
            show az_E az_F ex 1 61 31 [.ref 71, .int a1] [.int (0 : Int32)] (97, I, J, R) _
            refine az_E.br (c := (0 : Int32) = 0) (tt := 38) (ff := 34) (L' := [.ref 71, .int a1]) (S' := []) (σ' := (97, I, J, R)) rfl (fun _ => ?_) (fun hn => absurd (by decide) hn)
            refine az_E.sn 1 (pc' := 40) (L' := [.ref 71, .int a1]) (S' := [.int (-13 : Int32)]) (σ' := (97, I, J, R)) rfl ?_
            have h := Option.some.inj h
            subst h
            exact az_E.ret (v := some (.int (-13 : Int32))) (σ' := (97, I, J, R)) rfl hQ
          · rw [if_neg hc_5] at h
            refine az_E.sn 2 (pc' := 15) (L' := [.int a1, .int (0 : Int32), .int ((I 71 2) - (1 : Int32))]) (S' := [.int (1 : Int32)]) (σ' := (97, I, J, R)) rfl ?_
            refine az_E.ret (v := some (.int (1 : Int32))) (σ' := (97, I, J, R)) rfl ?_
            show az_E az_F ex 1 61 31 [.ref 71, .int a1] [.int (1 : Int32)] (97, I, J, R) _
            refine az_E.br (c := (1 : Int32) = 0) (tt := 38) (ff := 34) (L' := [.ref 71, .int a1]) (S' := []) (σ' := (97, I, J, R)) rfl (fun hn => absurd hn (by decide)) (fun _ => ?_)
            refine az_E.sn 2 (pc' := 40) (L' := [.ref 71, .int a1]) (S' := [.int (0 : Int32)]) (σ' := (97, I, J, R)) rfl ?_
            have h := Option.some.inj h
            subst h
            exact az_E.ret (v := some (.int (0 : Int32))) (σ' := (97, I, J, R)) rfl hQ
  · rw [if_neg hc_1] at h
    refine az_E.sn 1 (pc' := 21) (L' := [.ref 71]) (S' := [.int (0 : Int32)]) (σ' := (97, I, J, R)) rfl ?_
    refine az_E.ret (v := some (.int (0 : Int32))) (σ' := (97, I, J, R)) rfl ?_
    show az_E az_F ex 1 61 4 [.ref 71, .int a1] [.int (0 : Int32)] (97, I, J, R) _
    refine az_E.br (c := (0 : Int32) = 0) (tt := 10) (ff := 7) (L' := [.ref 71, .int a1]) (S' := []) (σ' := (97, I, J, R)) rfl (fun _ => ?_) (fun hn => absurd (by decide) hn)
    refine az_E.sn 1 (pc' := 11) (L' := [.ref 71, .int a1]) (S' := [.ref 71]) (σ' := (97, I, J, R)) rfl ?_
    refine az_E.call (d := 0) (k' := 55) (vs := [.ref 71]) (pc' := 14) (S' := []) rfl ?_ (fun _ _ hq => hq)
    show az_E az_F ex 0 55 0 [.ref 71] [] (97, I, J, R) _
    refine az_E.sn 3 (pc' := 5) (L' := [.ref 71]) (S' := [.int (-1 : Int32), .int (I 71 1)]) (σ' := (97, I, J, R)) rfl ?_
    refine az_E.br (c := (I 71 1) = (-1 : Int32)) (tt := 12) (ff := 8) (L' := [.ref 71]) (S' := []) (σ' := (97, I, J, R)) rfl (fun hc_6 => ?_) (fun hc_6 => ?_)
    · rw [if_pos hc_6] at h
      refine az_E.sn 1 (pc' := 13) (L' := [.ref 71]) (S' := [.int (0 : Int32)]) (σ' := (97, I, J, R)) rfl ?_
      refine az_E.ret (v := some (.int (0 : Int32))) (σ' := (97, I, J, R)) rfl ?_
      show az_E az_F ex 1 61 14 [.ref 71, .int a1] [.int (0 : Int32)] (97, I, J, R) _
      refine az_E.br (c := (0 : Int32) = 0) (tt := 17) (ff := 20) (L' := [.ref 71, .int a1]) (S' := []) (σ' := (97, I, J, R)) rfl (fun _ => ?_) (fun hn => absurd (by decide) hn)
      refine az_E.sn 1 (pc' := 19) (L' := [.ref 71, .int a1]) (S' := [.int (-12 : Int32)]) (σ' := (97, I, J, R)) rfl ?_
      have h := Option.some.inj h
      subst h
      exact az_E.ret (v := some (.int (-12 : Int32))) (σ' := (97, I, J, R)) rfl hQ
    · rw [if_neg hc_6] at h
      refine az_E.sn 2 (pc' := 13) (L' := [.ref 71]) (S' := [.int (1 : Int32)]) (σ' := (97, I, J, R)) rfl ?_
      refine az_E.ret (v := some (.int (1 : Int32))) (σ' := (97, I, J, R)) rfl ?_
      show az_E az_F ex 1 61 14 [.ref 71, .int a1] [.int (1 : Int32)] (97, I, J, R) _
      refine az_E.br (c := (1 : Int32) = 0) (tt := 17) (ff := 20) (L' := [.ref 71, .int a1]) (S' := []) (σ' := (97, I, J, R)) rfl (fun hn => absurd hn (by decide)) (fun _ => ?_)
      refine az_E.sn 6 (pc' := 28) (L' := [.ref 71, .int a1]) (S' := [.int ((I 71 2) - (1 : Int32)), .int (0 : Int32), .int a1]) (σ' := (97, I, J, R)) rfl ?_
      refine az_E.call (d := 0) (k' := 131) (vs := [.int a1, .int (0 : Int32), .int ((I 71 2) - (1 : Int32))]) (pc' := 31) (S' := []) rfl ?_ (fun _ _ hq => hq)
      show az_E az_F ex 0 131 0 [.int a1, .int (0 : Int32), .int ((I 71 2) - (1 : Int32))] [] (97, I, J, R) _
      refine az_E.sn 2 (pc' := 2) (L' := [.int a1, .int (0 : Int32), .int ((I 71 2) - (1 : Int32))]) (S' := [.int (0 : Int32), .int a1]) (σ' := (97, I, J, R)) rfl ?_
      refine az_E.br (c := a1 < (0 : Int32)) (tt := 14) (ff := 5) (L' := [.int a1, .int (0 : Int32), .int ((I 71 2) - (1 : Int32))]) (S' := []) (σ' := (97, I, J, R)) rfl (fun hc_7 => ?_) (fun hc_7 => ?_)
      · rw [if_pos hc_7] at h
        refine az_E.sn 1 (pc' := 15) (L' := [.int a1, .int (0 : Int32), .int ((I 71 2) - (1 : Int32))]) (S' := [.int (0 : Int32)]) (σ' := (97, I, J, R)) rfl ?_
        refine az_E.ret (v := some (.int (0 : Int32))) (σ' := (97, I, J, R)) rfl ?_
        show az_E az_F ex 1 61 31 [.ref 71, .int a1] [.int (0 : Int32)] (97, I, J, R) _
        refine az_E.br (c := (0 : Int32) = 0) (tt := 38) (ff := 34) (L' := [.ref 71, .int a1]) (S' := []) (σ' := (97, I, J, R)) rfl (fun _ => ?_) (fun hn => absurd (by decide) hn)
        refine az_E.sn 1 (pc' := 40) (L' := [.ref 71, .int a1]) (S' := [.int (-13 : Int32)]) (σ' := (97, I, J, R)) rfl ?_
        have h := Option.some.inj h
        subst h
        exact az_E.ret (v := some (.int (-13 : Int32))) (σ' := (97, I, J, R)) rfl hQ
      · rw [if_neg hc_7] at h
        refine az_E.sn 2 (pc' := 7) (L' := [.int a1, .int (0 : Int32), .int ((I 71 2) - (1 : Int32))]) (S' := [.int ((I 71 2) - (1 : Int32)), .int a1]) (σ' := (97, I, J, R)) rfl ?_
        refine az_E.br (c := ((I 71 2) - (1 : Int32)) < a1) (tt := 14) (ff := 10) (L' := [.int a1, .int (0 : Int32), .int ((I 71 2) - (1 : Int32))]) (S' := []) (σ' := (97, I, J, R)) rfl (fun hc_8 => ?_) (fun hc_8 => ?_)
        · rw [if_pos hc_8] at h
          refine az_E.sn 1 (pc' := 15) (L' := [.int a1, .int (0 : Int32), .int ((I 71 2) - (1 : Int32))]) (S' := [.int (0 : Int32)]) (σ' := (97, I, J, R)) rfl ?_
          refine az_E.ret (v := some (.int (0 : Int32))) (σ' := (97, I, J, R)) rfl ?_
          show az_E az_F ex 1 61 31 [.ref 71, .int a1] [.int (0 : Int32)] (97, I, J, R) _
          refine az_E.br (c := (0 : Int32) = 0) (tt := 38) (ff := 34) (L' := [.ref 71, .int a1]) (S' := []) (σ' := (97, I, J, R)) rfl (fun _ => ?_) (fun hn => absurd (by decide) hn)
          refine az_E.sn 1 (pc' := 40) (L' := [.ref 71, .int a1]) (S' := [.int (-13 : Int32)]) (σ' := (97, I, J, R)) rfl ?_
          have h := Option.some.inj h
          subst h
          exact az_E.ret (v := some (.int (-13 : Int32))) (σ' := (97, I, J, R)) rfl hQ
        · rw [if_neg hc_8] at h
          refine az_E.sn 2 (pc' := 15) (L' := [.int a1, .int (0 : Int32), .int ((I 71 2) - (1 : Int32))]) (S' := [.int (1 : Int32)]) (σ' := (97, I, J, R)) rfl ?_
          refine az_E.ret (v := some (.int (1 : Int32))) (σ' := (97, I, J, R)) rfl ?_
          show az_E az_F ex 1 61 31 [.ref 71, .int a1] [.int (1 : Int32)] (97, I, J, R) _
          refine az_E.br (c := (1 : Int32) = 0) (tt := 38) (ff := 34) (L' := [.ref 71, .int a1]) (S' := []) (σ' := (97, I, J, R)) rfl (fun hn => absurd hn (by decide)) (fun _ => ?_)
          refine az_E.sn 2 (pc' := 40) (L' := [.ref 71, .int a1]) (S' := [.int (0 : Int32)]) (σ' := (97, I, J, R)) rfl ?_
          have h := Option.some.inj h
          subst h
          exact az_E.ret (v := some (.int (0 : Int32))) (σ' := (97, I, J, R)) rfl hQ
set_option maxRecDepth 100000 in
set_option maxHeartbeats 4000000 in
theorem re_X_put_45_61_61 {ex : az_X} {I : Nat → Nat → Int32} {J : Nat → Nat → Int64} {R : Nat → Nat → Option Nat} {v3 : Int64} {s1 : Int32} {x : Int32 × (Nat → Nat → Int64)} (h : rs_X_put_45 61 61 I J v3 s1 = some x) {Q : Option Value → az_S → Prop} (hQ : Q (some (.int x.1)) (97, I, x.2, R)) : az_E az_F ex 2 126 45 [.retAddr 0, .retAddr 0, .retAddr 0, .long v3, .retAddr 0, .retAddr 0] [.ref 61, .int s1, .ref (61 + 1)] (97, I, J, R) Q := by
  unfold rs_X_put_45 at h
  refine az_E.sn 1 (pc' := 46) (L' := [.retAddr 0, .retAddr 0, .retAddr 0, .long v3, .retAddr 0, .retAddr 0]) (S' := [.long v3, .ref 61, .int s1, .ref (61 + 1)]) (σ' := (97, I, J, R)) rfl ?_
  cases hx_10 : rs_Sh_lowestBits 61 I v3 with
  | none => rw [hx_10] at h; cases h
  | some x_9 =>
    rw [hx_10] at h
    dsimp only at h
    refine az_E.call (d := 1) (k' := 62) (vs := [.ref 61, .long v3]) (pc' := 49) (S' := [.int s1, .ref (61 + 1)]) (Q1 := fun v s => v = some (.long x_9) ∧ s = (97, I, J, R)) rfl (az_E.deep (by omega) (re_Sh_lowestBits_61 (J := J) (R := R)  hx_10 ⟨rfl, rfl⟩)) (fun v s hq => ?_)
    obtain ⟨rfl, rfl⟩ := hq
    show az_E az_F ex 2 126 49 [.retAddr 0, .retAddr 0, .retAddr 0, .long v3, .retAddr 0, .retAddr 0] [.long x_9, .int s1, .ref (61 + 1)] (97, I, J, R) _
    by_cases hc_11 : s1 < 0 ∨ 60 ≤ s1.toNatClampNeg
    · rw [if_pos hc_11] at h; cases h
    · rw [if_neg hc_11] at h
      refine az_E.o (o := az_sl az_F (97, I, J, R) (61 + 1) s1 x_9) (pc' := 50) (L' := [.retAddr 0, .retAddr 0, .retAddr 0, .long v3, .retAddr 0, .retAddr 0]) (S' := []) (x := (97, I, (az_u J (61 + 1) s1.toNatClampNeg x_9), R)) rfl (if_neg hc_11) ?_
      refine az_E.sn 1 (pc' := 51) (L' := [.retAddr 0, .retAddr 0, .retAddr 0, .long v3, .retAddr 0, .retAddr 0]) (S' := [.int (1 : Int32)]) (σ' := (97, I, (az_u J (61 + 1) s1.toNatClampNeg x_9), R)) rfl ?_
      have h := Option.some.inj h
      subst h
      exact az_E.ret (v := some (.int (1 : Int32))) (σ' := (97, I, (az_u J (61 + 1) s1.toNatClampNeg x_9), R)) rfl hQ
set_option maxRecDepth 100000 in
set_option maxHeartbeats 4000000 in
theorem re_X_put_45_61_63 {ex : az_X} {I : Nat → Nat → Int32} {J : Nat → Nat → Int64} {R : Nat → Nat → Option Nat} {v3 : Int64} {s1 : Int32} {x : Int32 × (Nat → Nat → Int64)} (h : rs_X_put_45 61 63 I J v3 s1 = some x) {Q : Option Value → az_S → Prop} (hQ : Q (some (.int x.1)) (97, I, x.2, R)) : az_E az_F ex 2 126 45 [.retAddr 0, .retAddr 0, .retAddr 0, .long v3, .retAddr 0, .retAddr 0] [.ref 63, .int s1, .ref (61 + 1)] (97, I, J, R) Q := by
  unfold rs_X_put_45 at h
  refine az_E.sn 1 (pc' := 46) (L' := [.retAddr 0, .retAddr 0, .retAddr 0, .long v3, .retAddr 0, .retAddr 0]) (S' := [.long v3, .ref 63, .int s1, .ref (61 + 1)]) (σ' := (97, I, J, R)) rfl ?_
  cases hx_13 : rs_Sh_lowestBits 63 I v3 with
  | none => rw [hx_13] at h; cases h
  | some x_12 =>
    rw [hx_13] at h
    dsimp only at h
    refine az_E.call (d := 1) (k' := 62) (vs := [.ref 63, .long v3]) (pc' := 49) (S' := [.int s1, .ref (61 + 1)]) (Q1 := fun v s => v = some (.long x_12) ∧ s = (97, I, J, R)) rfl (az_E.deep (by omega) (re_Sh_lowestBits_63 (J := J) (R := R)  hx_13 ⟨rfl, rfl⟩)) (fun v s hq => ?_)
    obtain ⟨rfl, rfl⟩ := hq
    show az_E az_F ex 2 126 49 [.retAddr 0, .retAddr 0, .retAddr 0, .long v3, .retAddr 0, .retAddr 0] [.long x_12, .int s1, .ref (61 + 1)] (97, I, J, R) _
    by_cases hc_14 : s1 < 0 ∨ 60 ≤ s1.toNatClampNeg
    · rw [if_pos hc_14] at h; cases h
    · rw [if_neg hc_14] at h
      refine az_E.o (o := az_sl az_F (97, I, J, R) (61 + 1) s1 x_12) (pc' := 50) (L' := [.retAddr 0, .retAddr 0, .retAddr 0, .long v3, .retAddr 0, .retAddr 0]) (S' := []) (x := (97, I, (az_u J (61 + 1) s1.toNatClampNeg x_12), R)) rfl (if_neg hc_14) ?_
      refine az_E.sn 1 (pc' := 51) (L' := [.retAddr 0, .retAddr 0, .retAddr 0, .long v3, .retAddr 0, .retAddr 0]) (S' := [.int (1 : Int32)]) (σ' := (97, I, (az_u J (61 + 1) s1.toNatClampNeg x_12), R)) rfl ?_
      have h := Option.some.inj h
      subst h
      exact az_E.ret (v := some (.int (1 : Int32))) (σ' := (97, I, (az_u J (61 + 1) s1.toNatClampNeg x_12), R)) rfl hQ
set_option maxRecDepth 100000 in
set_option maxHeartbeats 4000000 in
theorem re_X_put_45_61_65 {ex : az_X} {I : Nat → Nat → Int32} {J : Nat → Nat → Int64} {R : Nat → Nat → Option Nat} {v3 : Int64} {s1 : Int32} {x : Int32 × (Nat → Nat → Int64)} (h : rs_X_put_45 61 65 I J v3 s1 = some x) {Q : Option Value → az_S → Prop} (hQ : Q (some (.int x.1)) (97, I, x.2, R)) : az_E az_F ex 2 126 45 [.retAddr 0, .retAddr 0, .retAddr 0, .long v3, .retAddr 0, .retAddr 0] [.ref 65, .int s1, .ref (61 + 1)] (97, I, J, R) Q := by
  unfold rs_X_put_45 at h
  refine az_E.sn 1 (pc' := 46) (L' := [.retAddr 0, .retAddr 0, .retAddr 0, .long v3, .retAddr 0, .retAddr 0]) (S' := [.long v3, .ref 65, .int s1, .ref (61 + 1)]) (σ' := (97, I, J, R)) rfl ?_
  cases hx_16 : rs_Sh_lowestBits 65 I v3 with
  | none => rw [hx_16] at h; cases h
  | some x_15 =>
    rw [hx_16] at h
    dsimp only at h
    refine az_E.call (d := 1) (k' := 62) (vs := [.ref 65, .long v3]) (pc' := 49) (S' := [.int s1, .ref (61 + 1)]) (Q1 := fun v s => v = some (.long x_15) ∧ s = (97, I, J, R)) rfl (az_E.deep (by omega) (re_Sh_lowestBits_65 (J := J) (R := R)  hx_16 ⟨rfl, rfl⟩)) (fun v s hq => ?_)
    obtain ⟨rfl, rfl⟩ := hq
    show az_E az_F ex 2 126 49 [.retAddr 0, .retAddr 0, .retAddr 0, .long v3, .retAddr 0, .retAddr 0] [.long x_15, .int s1, .ref (61 + 1)] (97, I, J, R) _
    by_cases hc_17 : s1 < 0 ∨ 60 ≤ s1.toNatClampNeg
    · rw [if_pos hc_17] at h; cases h
    · rw [if_neg hc_17] at h
      refine az_E.o (o := az_sl az_F (97, I, J, R) (61 + 1) s1 x_15) (pc' := 50) (L' := [.retAddr 0, .retAddr 0, .retAddr 0, .long v3, .retAddr 0, .retAddr 0]) (S' := []) (x := (97, I, (az_u J (61 + 1) s1.toNatClampNeg x_15), R)) rfl (if_neg hc_17) ?_
      refine az_E.sn 1 (pc' := 51) (L' := [.retAddr 0, .retAddr 0, .retAddr 0, .long v3, .retAddr 0, .retAddr 0]) (S' := [.int (1 : Int32)]) (σ' := (97, I, (az_u J (61 + 1) s1.toNatClampNeg x_15), R)) rfl ?_
      have h := Option.some.inj h
      subst h
      exact az_E.ret (v := some (.int (1 : Int32))) (σ' := (97, I, (az_u J (61 + 1) s1.toNatClampNeg x_15), R)) rfl hQ
set_option maxRecDepth 100000 in
set_option maxHeartbeats 4000000 in
theorem re_X_put_45_61_67 {ex : az_X} {I : Nat → Nat → Int32} {J : Nat → Nat → Int64} {R : Nat → Nat → Option Nat} {v3 : Int64} {s1 : Int32} {x : Int32 × (Nat → Nat → Int64)} (h : rs_X_put_45 61 67 I J v3 s1 = some x) {Q : Option Value → az_S → Prop} (hQ : Q (some (.int x.1)) (97, I, x.2, R)) : az_E az_F ex 2 126 45 [.retAddr 0, .retAddr 0, .retAddr 0, .long v3, .retAddr 0, .retAddr 0] [.ref 67, .int s1, .ref (61 + 1)] (97, I, J, R) Q := by
  unfold rs_X_put_45 at h
  refine az_E.sn 1 (pc' := 46) (L' := [.retAddr 0, .retAddr 0, .retAddr 0, .long v3, .retAddr 0, .retAddr 0]) (S' := [.long v3, .ref 67, .int s1, .ref (61 + 1)]) (σ' := (97, I, J, R)) rfl ?_
  cases hx_19 : rs_Sh_lowestBits 67 I v3 with
  | none => rw [hx_19] at h; cases h
  | some x_18 =>
    rw [hx_19] at h
    dsimp only at h
    refine az_E.call (d := 1) (k' := 62) (vs := [.ref 67, .long v3]) (pc' := 49) (S' := [.int s1, .ref (61 + 1)]) (Q1 := fun v s => v = some (.long x_18) ∧ s = (97, I, J, R)) rfl (az_E.deep (by omega) (re_Sh_lowestBits_67 (J := J) (R := R)  hx_19 ⟨rfl, rfl⟩)) (fun v s hq => ?_)
    obtain ⟨rfl, rfl⟩ := hq
    show az_E az_F ex 2 126 49 [.retAddr 0, .retAddr 0, .retAddr 0, .long v3, .retAddr 0, .retAddr 0] [.long x_18, .int s1, .ref (61 + 1)] (97, I, J, R) _
    by_cases hc_20 : s1 < 0 ∨ 60 ≤ s1.toNatClampNeg
    · rw [if_pos hc_20] at h; cases h
    · rw [if_neg hc_20] at h
      refine az_E.o (o := az_sl az_F (97, I, J, R) (61 + 1) s1 x_18) (pc' := 50) (L' := [.retAddr 0, .retAddr 0, .retAddr 0, .long v3, .retAddr 0, .retAddr 0]) (S' := []) (x := (97, I, (az_u J (61 + 1) s1.toNatClampNeg x_18), R)) rfl (if_neg hc_20) ?_
      refine az_E.sn 1 (pc' := 51) (L' := [.retAddr 0, .retAddr 0, .retAddr 0, .long v3, .retAddr 0, .retAddr 0]) (S' := [.int (1 : Int32)]) (σ' := (97, I, (az_u J (61 + 1) s1.toNatClampNeg x_18), R)) rfl ?_
      have h := Option.some.inj h
      subst h
      exact az_E.ret (v := some (.int (1 : Int32))) (σ' := (97, I, (az_u J (61 + 1) s1.toNatClampNeg x_18), R)) rfl hQ
set_option maxRecDepth 100000 in
set_option maxHeartbeats 4000000 in
theorem re_X_put_45_61_69 {ex : az_X} {I : Nat → Nat → Int32} {J : Nat → Nat → Int64} {R : Nat → Nat → Option Nat} {v3 : Int64} {s1 : Int32} {x : Int32 × (Nat → Nat → Int64)} (h : rs_X_put_45 61 69 I J v3 s1 = some x) {Q : Option Value → az_S → Prop} (hQ : Q (some (.int x.1)) (97, I, x.2, R)) : az_E az_F ex 2 126 45 [.retAddr 0, .retAddr 0, .retAddr 0, .long v3, .retAddr 0, .retAddr 0] [.ref 69, .int s1, .ref (61 + 1)] (97, I, J, R) Q := by
  unfold rs_X_put_45 at h
  refine az_E.sn 1 (pc' := 46) (L' := [.retAddr 0, .retAddr 0, .retAddr 0, .long v3, .retAddr 0, .retAddr 0]) (S' := [.long v3, .ref 69, .int s1, .ref (61 + 1)]) (σ' := (97, I, J, R)) rfl ?_
  cases hx_22 : rs_Sh_lowestBits 69 I v3 with
  | none => rw [hx_22] at h; cases h
  | some x_21 =>
    rw [hx_22] at h
    dsimp only at h
    refine az_E.call (d := 1) (k' := 62) (vs := [.ref 69, .long v3]) (pc' := 49) (S' := [.int s1, .ref (61 + 1)]) (Q1 := fun v s => v = some (.long x_21) ∧ s = (97, I, J, R)) rfl (az_E.deep (by omega) (re_Sh_lowestBits_69 (J := J) (R := R)  hx_22 ⟨rfl, rfl⟩)) (fun v s hq => ?_)
    obtain ⟨rfl, rfl⟩ := hq
    show az_E az_F ex 2 126 49 [.retAddr 0, .retAddr 0, .retAddr 0, .long v3, .retAddr 0, .retAddr 0] [.long x_21, .int s1, .ref (61 + 1)] (97, I, J, R) _
    by_cases hc_23 : s1 < 0 ∨ 60 ≤ s1.toNatClampNeg
    · rw [if_pos hc_23] at h; cases h
    · rw [if_neg hc_23] at h
      refine az_E.o (o := az_sl az_F (97, I, J, R) (61 + 1) s1 x_21) (pc' := 50) (L' := [.retAddr 0, .retAddr 0, .retAddr 0, .long v3, .retAddr 0, .retAddr 0]) (S' := []) (x := (97, I, (az_u J (61 + 1) s1.toNatClampNeg x_21), R)) rfl (if_neg hc_23) ?_
      refine az_E.sn 1 (pc' := 51) (L' := [.retAddr 0, .retAddr 0, .retAddr 0, .long v3, .retAddr 0, .retAddr 0]) (S' := [.int (1 : Int32)]) (σ' := (97, I, (az_u J (61 + 1) s1.toNatClampNeg x_21), R)) rfl ?_
      have h := Option.some.inj h
      subst h
      exact az_E.ret (v := some (.int (1 : Int32))) (σ' := (97, I, (az_u J (61 + 1) s1.toNatClampNeg x_21), R)) rfl hQ
set_option maxRecDepth 100000 in
set_option maxHeartbeats 4000000 in
theorem re_X_put_45_61_71 {ex : az_X} {I : Nat → Nat → Int32} {J : Nat → Nat → Int64} {R : Nat → Nat → Option Nat} {v3 : Int64} {s1 : Int32} {x : Int32 × (Nat → Nat → Int64)} (h : rs_X_put_45 61 71 I J v3 s1 = some x) {Q : Option Value → az_S → Prop} (hQ : Q (some (.int x.1)) (97, I, x.2, R)) : az_E az_F ex 2 126 45 [.retAddr 0, .retAddr 0, .retAddr 0, .long v3, .retAddr 0, .retAddr 0] [.ref 71, .int s1, .ref (61 + 1)] (97, I, J, R) Q := by
  unfold rs_X_put_45 at h
  refine az_E.sn 1 (pc' := 46) (L' := [.retAddr 0, .retAddr 0, .retAddr 0, .long v3, .retAddr 0, .retAddr 0]) (S' := [.long v3, .ref 71, .int s1, .ref (61 + 1)]) (σ' := (97, I, J, R)) rfl ?_
  cases hx_25 : rs_Sh_lowestBits 71 I v3 with
  | none => rw [hx_25] at h; cases h
  | some x_24 =>
    rw [hx_25] at h
    dsimp only at h
    refine az_E.call (d := 1) (k' := 62) (vs := [.ref 71, .long v3]) (pc' := 49) (S' := [.int s1, .ref (61 + 1)]) (Q1 := fun v s => v = some (.long x_24) ∧ s = (97, I, J, R)) rfl (az_E.deep (by omega) (re_Sh_lowestBits_71 (J := J) (R := R)  hx_25 ⟨rfl, rfl⟩)) (fun v s hq => ?_)
    obtain ⟨rfl, rfl⟩ := hq
    show az_E az_F ex 2 126 49 [.retAddr 0, .retAddr 0, .retAddr 0, .long v3, .retAddr 0, .retAddr 0] [.long x_24, .int s1, .ref (61 + 1)] (97, I, J, R) _
    by_cases hc_26 : s1 < 0 ∨ 60 ≤ s1.toNatClampNeg
    · rw [if_pos hc_26] at h; cases h
    · rw [if_neg hc_26] at h
      refine az_E.o (o := az_sl az_F (97, I, J, R) (61 + 1) s1 x_24) (pc' := 50) (L' := [.retAddr 0, .retAddr 0, .retAddr 0, .long v3, .retAddr 0, .retAddr 0]) (S' := []) (x := (97, I, (az_u J (61 + 1) s1.toNatClampNeg x_24), R)) rfl (if_neg hc_26) ?_
      refine az_E.sn 1 (pc' := 51) (L' := [.retAddr 0, .retAddr 0, .retAddr 0, .long v3, .retAddr 0, .retAddr 0]) (S' := [.int (1 : Int32)]) (σ' := (97, I, (az_u J (61 + 1) s1.toNatClampNeg x_24), R)) rfl ?_
      have h := Option.some.inj h
      subst h
      exact az_E.ret (v := some (.int (1 : Int32))) (σ' := (97, I, (az_u J (61 + 1) s1.toNatClampNeg x_24), R)) rfl hQ
set_option maxRecDepth 100000 in
set_option maxHeartbeats 4000000 in
theorem re_X_put_35_61 {ex : az_X} {I : Nat → Nat → Int32} {J : Nat → Nat → Int64} {R : Nat → Nat → Option Nat} {v1 : Int32} {v2 : Int32} {v3 : Int64} {x : Int32 × (Nat → Nat → Int64)} (h : rs_X_put_35 61 I J v1 v2 v3 = some x) {Q : Option Value → az_S → Prop} (hQ : Q (some (.int x.1)) (97, I, x.2, R)) : az_E az_F ex 2 126 35 [.ref 3, .int v1, .int v2, .long v3, .retAddr 0, .retAddr 0] [.ref 61] (97, I, J, R) Q := by
  unfold rs_X_put_35 at h
  refine az_E.sn 5 (pc' := 44) (L' := [.ref 3, .int v1, .int v2, .long v3, .retAddr 0, .retAddr 0]) (S' := [.int v1, .ref 58, .int v2, .ref (61 + 1)]) (σ' := (97, I, J, R)) rfl ?_
  by_cases hc_8 : v1 < 0 ∨ 6 ≤ v1.toNatClampNeg
  · rw [if_pos hc_8] at h; cases h
  · rw [if_neg hc_8] at h
    rcases az_six hc_8 with ehc_8 | ehc_8 | ehc_8 | ehc_8 | ehc_8 | ehc_8
    · rw [ehc_8] at h ⊢; (try rw [ehc_8] at hQ)
      refine az_E.ov (pc' := 45) (L' := [.ref 3, .int (0 : Int32), .int v2, .long v3, .retAddr 0, .retAddr 0]) (S' := [.int v2, .ref (61 + 1)]) (σ' := (97, I, J, R)) (x := .ref 61) (o := az_aa az_F (97, I, J, R) 58 (0 : Int32)) rfl rfl ?_
      exact az_E.forget (L := [.retAddr 0, .retAddr 0, .retAddr 0, .long v3, .retAddr 0, .retAddr 0]) ⟨trivial, trivial, trivial, rfl, trivial, trivial, trivial⟩ (re_X_put_45_61_61 (I := I) (J := J) (R := R)  h hQ)
    · rw [ehc_8] at h ⊢; (try rw [ehc_8] at hQ)
      refine az_E.ov (pc' := 45) (L' := [.ref 3, .int (1 : Int32), .int v2, .long v3, .retAddr 0, .retAddr 0]) (S' := [.int v2, .ref (61 + 1)]) (σ' := (97, I, J, R)) (x := .ref 63) (o := az_aa az_F (97, I, J, R) 58 (1 : Int32)) rfl rfl ?_
      exact az_E.forget (L := [.retAddr 0, .retAddr 0, .retAddr 0, .long v3, .retAddr 0, .retAddr 0]) ⟨trivial, trivial, trivial, rfl, trivial, trivial, trivial⟩ (re_X_put_45_61_63 (I := I) (J := J) (R := R)  h hQ)
    · rw [ehc_8] at h ⊢; (try rw [ehc_8] at hQ)
      refine az_E.ov (pc' := 45) (L' := [.ref 3, .int (2 : Int32), .int v2, .long v3, .retAddr 0, .retAddr 0]) (S' := [.int v2, .ref (61 + 1)]) (σ' := (97, I, J, R)) (x := .ref 65) (o := az_aa az_F (97, I, J, R) 58 (2 : Int32)) rfl rfl ?_
      exact az_E.forget (L := [.retAddr 0, .retAddr 0, .retAddr 0, .long v3, .retAddr 0, .retAddr 0]) ⟨trivial, trivial, trivial, rfl, trivial, trivial, trivial⟩ (re_X_put_45_61_65 (I := I) (J := J) (R := R)  h hQ)
    · rw [ehc_8] at h ⊢; (try rw [ehc_8] at hQ)
      refine az_E.ov (pc' := 45) (L' := [.ref 3, .int (3 : Int32), .int v2, .long v3, .retAddr 0, .retAddr 0]) (S' := [.int v2, .ref (61 + 1)]) (σ' := (97, I, J, R)) (x := .ref 67) (o := az_aa az_F (97, I, J, R) 58 (3 : Int32)) rfl rfl ?_
      exact az_E.forget (L := [.retAddr 0, .retAddr 0, .retAddr 0, .long v3, .retAddr 0, .retAddr 0]) ⟨trivial, trivial, trivial, rfl, trivial, trivial, trivial⟩ (re_X_put_45_61_67 (I := I) (J := J) (R := R)  h hQ)
    · rw [ehc_8] at h ⊢; (try rw [ehc_8] at hQ)
      refine az_E.ov (pc' := 45) (L' := [.ref 3, .int (4 : Int32), .int v2, .long v3, .retAddr 0, .retAddr 0]) (S' := [.int v2, .ref (61 + 1)]) (σ' := (97, I, J, R)) (x := .ref 69) (o := az_aa az_F (97, I, J, R) 58 (4 : Int32)) rfl rfl ?_
      exact az_E.forget (L := [.retAddr 0, .retAddr 0, .retAddr 0, .long v3, .retAddr 0, .retAddr 0]) ⟨trivial, trivial, trivial, rfl, trivial, trivial, trivial⟩ (re_X_put_45_61_69 (I := I) (J := J) (R := R)  h hQ)
    · rw [ehc_8] at h ⊢; (try rw [ehc_8] at hQ)
      refine az_E.ov (pc' := 45) (L' := [.ref 3, .int (5 : Int32), .int v2, .long v3, .retAddr 0, .retAddr 0]) (S' := [.int v2, .ref (61 + 1)]) (σ' := (97, I, J, R)) (x := .ref 71) (o := az_aa az_F (97, I, J, R) 58 (5 : Int32)) rfl rfl ?_
      exact az_E.forget (L := [.retAddr 0, .retAddr 0, .retAddr 0, .long v3, .retAddr 0, .retAddr 0]) ⟨trivial, trivial, trivial, rfl, trivial, trivial, trivial⟩ (re_X_put_45_61_71 (I := I) (J := J) (R := R)  h hQ)
set_option maxRecDepth 100000 in
set_option maxHeartbeats 4000000 in
theorem re_X_put_45_63_61 {ex : az_X} {I : Nat → Nat → Int32} {J : Nat → Nat → Int64} {R : Nat → Nat → Option Nat} {v3 : Int64} {s1 : Int32} {x : Int32 × (Nat → Nat → Int64)} (h : rs_X_put_45 63 61 I J v3 s1 = some x) {Q : Option Value → az_S → Prop} (hQ : Q (some (.int x.1)) (97, I, x.2, R)) : az_E az_F ex 2 126 45 [.retAddr 0, .retAddr 0, .retAddr 0, .long v3, .retAddr 0, .retAddr 0] [.ref 61, .int s1, .ref (63 + 1)] (97, I, J, R) Q := by
  unfold rs_X_put_45 at h
  refine az_E.sn 1 (pc' := 46) (L' := [.retAddr 0, .retAddr 0, .retAddr 0, .long v3, .retAddr 0, .retAddr 0]) (S' := [.long v3, .ref 61, .int s1, .ref (63 + 1)]) (σ' := (97, I, J, R)) rfl ?_
  cases hx_29 : rs_Sh_lowestBits 61 I v3 with
  | none => rw [hx_29] at h; cases h
  | some x_28 =>
    rw [hx_29] at h
    dsimp only at h
    refine az_E.call (d := 1) (k' := 62) (vs := [.ref 61, .long v3]) (pc' := 49) (S' := [.int s1, .ref (63 + 1)]) (Q1 := fun v s => v = some (.long x_28) ∧ s = (97, I, J, R)) rfl (az_E.deep (by omega) (re_Sh_lowestBits_61 (J := J) (R := R)  hx_29 ⟨rfl, rfl⟩)) (fun v s hq => ?_)
    obtain ⟨rfl, rfl⟩ := hq
    show az_E az_F ex 2 126 49 [.retAddr 0, .retAddr 0, .retAddr 0, .long v3, .retAddr 0, .retAddr 0] [.long x_28, .int s1, .ref (63 + 1)] (97, I, J, R) _
    by_cases hc_30 : s1 < 0 ∨ 60 ≤ s1.toNatClampNeg
    · rw [if_pos hc_30] at h; cases h
    · rw [if_neg hc_30] at h
      refine az_E.o (o := az_sl az_F (97, I, J, R) (63 + 1) s1 x_28) (pc' := 50) (L' := [.retAddr 0, .retAddr 0, .retAddr 0, .long v3, .retAddr 0, .retAddr 0]) (S' := []) (x := (97, I, (az_u J (63 + 1) s1.toNatClampNeg x_28), R)) rfl (if_neg hc_30) ?_
      refine az_E.sn 1 (pc' := 51) (L' := [.retAddr 0, .retAddr 0, .retAddr 0, .long v3, .retAddr 0, .retAddr 0]) (S' := [.int (1 : Int32)]) (σ' := (97, I, (az_u J (63 + 1) s1.toNatClampNeg x_28), R)) rfl ?_
      have h := Option.some.inj h
      subst h
      exact az_E.ret (v := some (.int (1 : Int32))) (σ' := (97, I, (az_u J (63 + 1) s1.toNatClampNeg x_28), R)) rfl hQ
set_option maxRecDepth 100000 in
set_option maxHeartbeats 4000000 in
theorem re_X_put_45_63_63 {ex : az_X} {I : Nat → Nat → Int32} {J : Nat → Nat → Int64} {R : Nat → Nat → Option Nat} {v3 : Int64} {s1 : Int32} {x : Int32 × (Nat → Nat → Int64)} (h : rs_X_put_45 63 63 I J v3 s1 = some x) {Q : Option Value → az_S → Prop} (hQ : Q (some (.int x.1)) (97, I, x.2, R)) : az_E az_F ex 2 126 45 [.retAddr 0, .retAddr 0, .retAddr 0, .long v3, .retAddr 0, .retAddr 0] [.ref 63, .int s1, .ref (63 + 1)] (97, I, J, R) Q := by
  unfold rs_X_put_45 at h
  refine az_E.sn 1 (pc' := 46) (L' := [.retAddr 0, .retAddr 0, .retAddr 0, .long v3, .retAddr 0, .retAddr 0]) (S' := [.long v3, .ref 63, .int s1, .ref (63 + 1)]) (σ' := (97, I, J, R)) rfl ?_
  cases hx_32 : rs_Sh_lowestBits 63 I v3 with
  | none => rw [hx_32] at h; cases h
  | some x_31 =>
    rw [hx_32] at h
    dsimp only at h
    refine az_E.call (d := 1) (k' := 62) (vs := [.ref 63, .long v3]) (pc' := 49) (S' := [.int s1, .ref (63 + 1)]) (Q1 := fun v s => v = some (.long x_31) ∧ s = (97, I, J, R)) rfl (az_E.deep (by omega) (re_Sh_lowestBits_63 (J := J) (R := R)  hx_32 ⟨rfl, rfl⟩)) (fun v s hq => ?_)
    obtain ⟨rfl, rfl⟩ := hq
    show az_E az_F ex 2 126 49 [.retAddr 0, .retAddr 0, .retAddr 0, .long v3, .retAddr 0, .retAddr 0] [.long x_31, .int s1, .ref (63 + 1)] (97, I, J, R) _
    by_cases hc_33 : s1 < 0 ∨ 60 ≤ s1.toNatClampNeg
    · rw [if_pos hc_33] at h; cases h
    · rw [if_neg hc_33] at h
      refine az_E.o (o := az_sl az_F (97, I, J, R) (63 + 1) s1 x_31) (pc' := 50) (L' := [.retAddr 0, .retAddr 0, .retAddr 0, .long v3, .retAddr 0, .retAddr 0]) (S' := []) (x := (97, I, (az_u J (63 + 1) s1.toNatClampNeg x_31), R)) rfl (if_neg hc_33) ?_
      refine az_E.sn 1 (pc' := 51) (L' := [.retAddr 0, .retAddr 0, .retAddr 0, .long v3, .retAddr 0, .retAddr 0]) (S' := [.int (1 : Int32)]) (σ' := (97, I, (az_u J (63 + 1) s1.toNatClampNeg x_31), R)) rfl ?_
      have h := Option.some.inj h
      subst h
      exact az_E.ret (v := some (.int (1 : Int32))) (σ' := (97, I, (az_u J (63 + 1) s1.toNatClampNeg x_31), R)) rfl hQ
set_option maxRecDepth 100000 in
set_option maxHeartbeats 4000000 in
theorem re_X_put_45_63_65 {ex : az_X} {I : Nat → Nat → Int32} {J : Nat → Nat → Int64} {R : Nat → Nat → Option Nat} {v3 : Int64} {s1 : Int32} {x : Int32 × (Nat → Nat → Int64)} (h : rs_X_put_45 63 65 I J v3 s1 = some x) {Q : Option Value → az_S → Prop} (hQ : Q (some (.int x.1)) (97, I, x.2, R)) : az_E az_F ex 2 126 45 [.retAddr 0, .retAddr 0, .retAddr 0, .long v3, .retAddr 0, .retAddr 0] [.ref 65, .int s1, .ref (63 + 1)] (97, I, J, R) Q := by
  unfold rs_X_put_45 at h
  refine az_E.sn 1 (pc' := 46) (L' := [.retAddr 0, .retAddr 0, .retAddr 0, .long v3, .retAddr 0, .retAddr 0]) (S' := [.long v3, .ref 65, .int s1, .ref (63 + 1)]) (σ' := (97, I, J, R)) rfl ?_
  cases hx_35 : rs_Sh_lowestBits 65 I v3 with
  | none => rw [hx_35] at h; cases h
  | some x_34 =>
    rw [hx_35] at h
    dsimp only at h
    refine az_E.call (d := 1) (k' := 62) (vs := [.ref 65, .long v3]) (pc' := 49) (S' := [.int s1, .ref (63 + 1)]) (Q1 := fun v s => v = some (.long x_34) ∧ s = (97, I, J, R)) rfl (az_E.deep (by omega) (re_Sh_lowestBits_65 (J := J) (R := R)  hx_35 ⟨rfl, rfl⟩)) (fun v s hq => ?_)
    obtain ⟨rfl, rfl⟩ := hq
    show az_E az_F ex 2 126 49 [.retAddr 0, .retAddr 0, .retAddr 0, .long v3, .retAddr 0, .retAddr 0] [.long x_34, .int s1, .ref (63 + 1)] (97, I, J, R) _
    by_cases hc_36 : s1 < 0 ∨ 60 ≤ s1.toNatClampNeg
    · rw [if_pos hc_36] at h; cases h
    · rw [if_neg hc_36] at h
      refine az_E.o (o := az_sl az_F (97, I, J, R) (63 + 1) s1 x_34) (pc' := 50) (L' := [.retAddr 0, .retAddr 0, .retAddr 0, .long v3, .retAddr 0, .retAddr 0]) (S' := []) (x := (97, I, (az_u J (63 + 1) s1.toNatClampNeg x_34), R)) rfl (if_neg hc_36) ?_
      refine az_E.sn 1 (pc' := 51) (L' := [.retAddr 0, .retAddr 0, .retAddr 0, .long v3, .retAddr 0, .retAddr 0]) (S' := [.int (1 : Int32)]) (σ' := (97, I, (az_u J (63 + 1) s1.toNatClampNeg x_34), R)) rfl ?_
      have h := Option.some.inj h
      subst h
      exact az_E.ret (v := some (.int (1 : Int32))) (σ' := (97, I, (az_u J (63 + 1) s1.toNatClampNeg x_34), R)) rfl hQ
set_option maxRecDepth 100000 in
set_option maxHeartbeats 4000000 in
theorem re_X_put_45_63_67 {ex : az_X} {I : Nat → Nat → Int32} {J : Nat → Nat → Int64} {R : Nat → Nat → Option Nat} {v3 : Int64} {s1 : Int32} {x : Int32 × (Nat → Nat → Int64)} (h : rs_X_put_45 63 67 I J v3 s1 = some x) {Q : Option Value → az_S → Prop} (hQ : Q (some (.int x.1)) (97, I, x.2, R)) : az_E az_F ex 2 126 45 [.retAddr 0, .retAddr 0, .retAddr 0, .long v3, .retAddr 0, .retAddr 0] [.ref 67, .int s1, .ref (63 + 1)] (97, I, J, R) Q := by
  unfold rs_X_put_45 at h
  refine az_E.sn 1 (pc' := 46) (L' := [.retAddr 0, .retAddr 0, .retAddr 0, .long v3, .retAddr 0, .retAddr 0]) (S' := [.long v3, .ref 67, .int s1, .ref (63 + 1)]) (σ' := (97, I, J, R)) rfl ?_
  cases hx_38 : rs_Sh_lowestBits 67 I v3 with
  | none => rw [hx_38] at h; cases h
  | some x_37 =>
    rw [hx_38] at h
    dsimp only at h
    refine az_E.call (d := 1) (k' := 62) (vs := [.ref 67, .long v3]) (pc' := 49) (S' := [.int s1, .ref (63 + 1)]) (Q1 := fun v s => v = some (.long x_37) ∧ s = (97, I, J, R)) rfl (az_E.deep (by omega) (re_Sh_lowestBits_67 (J := J) (R := R)  hx_38 ⟨rfl, rfl⟩)) (fun v s hq => ?_)
    obtain ⟨rfl, rfl⟩ := hq
    show az_E az_F ex 2 126 49 [.retAddr 0, .retAddr 0, .retAddr 0, .long v3, .retAddr 0, .retAddr 0] [.long x_37, .int s1, .ref (63 + 1)] (97, I, J, R) _
    by_cases hc_39 : s1 < 0 ∨ 60 ≤ s1.toNatClampNeg
    · rw [if_pos hc_39] at h; cases h
    · rw [if_neg hc_39] at h
      refine az_E.o (o := az_sl az_F (97, I, J, R) (63 + 1) s1 x_37) (pc' := 50) (L' := [.retAddr 0, .retAddr 0, .retAddr 0, .long v3, .retAddr 0, .retAddr 0]) (S' := []) (x := (97, I, (az_u J (63 + 1) s1.toNatClampNeg x_37), R)) rfl (if_neg hc_39) ?_
      refine az_E.sn 1 (pc' := 51) (L' := [.retAddr 0, .retAddr 0, .retAddr 0, .long v3, .retAddr 0, .retAddr 0]) (S' := [.int (1 : Int32)]) (σ' := (97, I, (az_u J (63 + 1) s1.toNatClampNeg x_37), R)) rfl ?_
      have h := Option.some.inj h
      subst h
      exact az_E.ret (v := some (.int (1 : Int32))) (σ' := (97, I, (az_u J (63 + 1) s1.toNatClampNeg x_37), R)) rfl hQ
set_option maxRecDepth 100000 in
set_option maxHeartbeats 4000000 in
theorem re_X_put_45_63_69 {ex : az_X} {I : Nat → Nat → Int32} {J : Nat → Nat → Int64} {R : Nat → Nat → Option Nat} {v3 : Int64} {s1 : Int32} {x : Int32 × (Nat → Nat → Int64)} (h : rs_X_put_45 63 69 I J v3 s1 = some x) {Q : Option Value → az_S → Prop} (hQ : Q (some (.int x.1)) (97, I, x.2, R)) : az_E az_F ex 2 126 45 [.retAddr 0, .retAddr 0, .retAddr 0, .long v3, .retAddr 0, .retAddr 0] [.ref 69, .int s1, .ref (63 + 1)] (97, I, J, R) Q := by
  unfold rs_X_put_45 at h
  refine az_E.sn 1 (pc' := 46) (L' := [.retAddr 0, .retAddr 0, .retAddr 0, .long v3, .retAddr 0, .retAddr 0]) (S' := [.long v3, .ref 69, .int s1, .ref (63 + 1)]) (σ' := (97, I, J, R)) rfl ?_
  cases hx_41 : rs_Sh_lowestBits 69 I v3 with
  | none => rw [hx_41] at h; cases h
  | some x_40 =>
    rw [hx_41] at h
    dsimp only at h
    refine az_E.call (d := 1) (k' := 62) (vs := [.ref 69, .long v3]) (pc' := 49) (S' := [.int s1, .ref (63 + 1)]) (Q1 := fun v s => v = some (.long x_40) ∧ s = (97, I, J, R)) rfl (az_E.deep (by omega) (re_Sh_lowestBits_69 (J := J) (R := R)  hx_41 ⟨rfl, rfl⟩)) (fun v s hq => ?_)
    obtain ⟨rfl, rfl⟩ := hq
    show az_E az_F ex 2 126 49 [.retAddr 0, .retAddr 0, .retAddr 0, .long v3, .retAddr 0, .retAddr 0] [.long x_40, .int s1, .ref (63 + 1)] (97, I, J, R) _
    by_cases hc_42 : s1 < 0 ∨ 60 ≤ s1.toNatClampNeg
    · rw [if_pos hc_42] at h; cases h
    · rw [if_neg hc_42] at h
      refine az_E.o (o := az_sl az_F (97, I, J, R) (63 + 1) s1 x_40) (pc' := 50) (L' := [.retAddr 0, .retAddr 0, .retAddr 0, .long v3, .retAddr 0, .retAddr 0]) (S' := []) (x := (97, I, (az_u J (63 + 1) s1.toNatClampNeg x_40), R)) rfl (if_neg hc_42) ?_
      refine az_E.sn 1 (pc' := 51) (L' := [.retAddr 0, .retAddr 0, .retAddr 0, .long v3, .retAddr 0, .retAddr 0]) (S' := [.int (1 : Int32)]) (σ' := (97, I, (az_u J (63 + 1) s1.toNatClampNeg x_40), R)) rfl ?_
      have h := Option.some.inj h
      subst h
      exact az_E.ret (v := some (.int (1 : Int32))) (σ' := (97, I, (az_u J (63 + 1) s1.toNatClampNeg x_40), R)) rfl hQ
set_option maxRecDepth 100000 in
set_option maxHeartbeats 4000000 in
theorem re_X_put_45_63_71 {ex : az_X} {I : Nat → Nat → Int32} {J : Nat → Nat → Int64} {R : Nat → Nat → Option Nat} {v3 : Int64} {s1 : Int32} {x : Int32 × (Nat → Nat → Int64)} (h : rs_X_put_45 63 71 I J v3 s1 = some x) {Q : Option Value → az_S → Prop} (hQ : Q (some (.int x.1)) (97, I, x.2, R)) : az_E az_F ex 2 126 45 [.retAddr 0, .retAddr 0, .retAddr 0, .long v3, .retAddr 0, .retAddr 0] [.ref 71, .int s1, .ref (63 + 1)] (97, I, J, R) Q := by
  unfold rs_X_put_45 at h
  refine az_E.sn 1 (pc' := 46) (L' := [.retAddr 0, .retAddr 0, .retAddr 0, .long v3, .retAddr 0, .retAddr 0]) (S' := [.long v3, .ref 71, .int s1, .ref (63 + 1)]) (σ' := (97, I, J, R)) rfl ?_
  cases hx_44 : rs_Sh_lowestBits 71 I v3 with
  | none => rw [hx_44] at h; cases h
  | some x_43 =>
    rw [hx_44] at h
    dsimp only at h
    refine az_E.call (d := 1) (k' := 62) (vs := [.ref 71, .long v3]) (pc' := 49) (S' := [.int s1, .ref (63 + 1)]) (Q1 := fun v s => v = some (.long x_43) ∧ s = (97, I, J, R)) rfl (az_E.deep (by omega) (re_Sh_lowestBits_71 (J := J) (R := R)  hx_44 ⟨rfl, rfl⟩)) (fun v s hq => ?_)
    obtain ⟨rfl, rfl⟩ := hq
    show az_E az_F ex 2 126 49 [.retAddr 0, .retAddr 0, .retAddr 0, .long v3, .retAddr 0, .retAddr 0] [.long x_43, .int s1, .ref (63 + 1)] (97, I, J, R) _
    by_cases hc_45 : s1 < 0 ∨ 60 ≤ s1.toNatClampNeg
    · rw [if_pos hc_45] at h; cases h
    · rw [if_neg hc_45] at h
      refine az_E.o (o := az_sl az_F (97, I, J, R) (63 + 1) s1 x_43) (pc' := 50) (L' := [.retAddr 0, .retAddr 0, .retAddr 0, .long v3, .retAddr 0, .retAddr 0]) (S' := []) (x := (97, I, (az_u J (63 + 1) s1.toNatClampNeg x_43), R)) rfl (if_neg hc_45) ?_
      refine az_E.sn 1 (pc' := 51) (L' := [.retAddr 0, .retAddr 0, .retAddr 0, .long v3, .retAddr 0, .retAddr 0]) (S' := [.int (1 : Int32)]) (σ' := (97, I, (az_u J (63 + 1) s1.toNatClampNeg x_43), R)) rfl ?_
      have h := Option.some.inj h
      subst h
      exact az_E.ret (v := some (.int (1 : Int32))) (σ' := (97, I, (az_u J (63 + 1) s1.toNatClampNeg x_43), R)) rfl hQ
set_option maxRecDepth 100000 in
set_option maxHeartbeats 4000000 in
theorem re_X_put_35_63 {ex : az_X} {I : Nat → Nat → Int32} {J : Nat → Nat → Int64} {R : Nat → Nat → Option Nat} {v1 : Int32} {v2 : Int32} {v3 : Int64} {x : Int32 × (Nat → Nat → Int64)} (h : rs_X_put_35 63 I J v1 v2 v3 = some x) {Q : Option Value → az_S → Prop} (hQ : Q (some (.int x.1)) (97, I, x.2, R)) : az_E az_F ex 2 126 35 [.ref 3, .int v1, .int v2, .long v3, .retAddr 0, .retAddr 0] [.ref 63] (97, I, J, R) Q := by
  unfold rs_X_put_35 at h
  refine az_E.sn 5 (pc' := 44) (L' := [.ref 3, .int v1, .int v2, .long v3, .retAddr 0, .retAddr 0]) (S' := [.int v1, .ref 58, .int v2, .ref (63 + 1)]) (σ' := (97, I, J, R)) rfl ?_
  by_cases hc_27 : v1 < 0 ∨ 6 ≤ v1.toNatClampNeg
  · rw [if_pos hc_27] at h; cases h
  · rw [if_neg hc_27] at h
    rcases az_six hc_27 with ehc_27 | ehc_27 | ehc_27 | ehc_27 | ehc_27 | ehc_27
    · rw [ehc_27] at h ⊢; (try rw [ehc_27] at hQ)
      refine az_E.ov (pc' := 45) (L' := [.ref 3, .int (0 : Int32), .int v2, .long v3, .retAddr 0, .retAddr 0]) (S' := [.int v2, .ref (63 + 1)]) (σ' := (97, I, J, R)) (x := .ref 61) (o := az_aa az_F (97, I, J, R) 58 (0 : Int32)) rfl rfl ?_
      exact az_E.forget (L := [.retAddr 0, .retAddr 0, .retAddr 0, .long v3, .retAddr 0, .retAddr 0]) ⟨trivial, trivial, trivial, rfl, trivial, trivial, trivial⟩ (re_X_put_45_63_61 (I := I) (J := J) (R := R)  h hQ)
    · rw [ehc_27] at h ⊢; (try rw [ehc_27] at hQ)
      refine az_E.ov (pc' := 45) (L' := [.ref 3, .int (1 : Int32), .int v2, .long v3, .retAddr 0, .retAddr 0]) (S' := [.int v2, .ref (63 + 1)]) (σ' := (97, I, J, R)) (x := .ref 63) (o := az_aa az_F (97, I, J, R) 58 (1 : Int32)) rfl rfl ?_
      exact az_E.forget (L := [.retAddr 0, .retAddr 0, .retAddr 0, .long v3, .retAddr 0, .retAddr 0]) ⟨trivial, trivial, trivial, rfl, trivial, trivial, trivial⟩ (re_X_put_45_63_63 (I := I) (J := J) (R := R)  h hQ)
    · rw [ehc_27] at h ⊢; (try rw [ehc_27] at hQ)
      refine az_E.ov (pc' := 45) (L' := [.ref 3, .int (2 : Int32), .int v2, .long v3, .retAddr 0, .retAddr 0]) (S' := [.int v2, .ref (63 + 1)]) (σ' := (97, I, J, R)) (x := .ref 65) (o := az_aa az_F (97, I, J, R) 58 (2 : Int32)) rfl rfl ?_
      exact az_E.forget (L := [.retAddr 0, .retAddr 0, .retAddr 0, .long v3, .retAddr 0, .retAddr 0]) ⟨trivial, trivial, trivial, rfl, trivial, trivial, trivial⟩ (re_X_put_45_63_65 (I := I) (J := J) (R := R)  h hQ)
    · rw [ehc_27] at h ⊢; (try rw [ehc_27] at hQ)
      refine az_E.ov (pc' := 45) (L' := [.ref 3, .int (3 : Int32), .int v2, .long v3, .retAddr 0, .retAddr 0]) (S' := [.int v2, .ref (63 + 1)]) (σ' := (97, I, J, R)) (x := .ref 67) (o := az_aa az_F (97, I, J, R) 58 (3 : Int32)) rfl rfl ?_
      exact az_E.forget (L := [.retAddr 0, .retAddr 0, .retAddr 0, .long v3, .retAddr 0, .retAddr 0]) ⟨trivial, trivial, trivial, rfl, trivial, trivial, trivial⟩ (re_X_put_45_63_67 (I := I) (J := J) (R := R)  h hQ)
    · rw [ehc_27] at h ⊢; (try rw [ehc_27] at hQ)
      refine az_E.ov (pc' := 45) (L' := [.ref 3, .int (4 : Int32), .int v2, .long v3, .retAddr 0, .retAddr 0]) (S' := [.int v2, .ref (63 + 1)]) (σ' := (97, I, J, R)) (x := .ref 69) (o := az_aa az_F (97, I, J, R) 58 (4 : Int32)) rfl rfl ?_
      exact az_E.forget (L := [.retAddr 0, .retAddr 0, .retAddr 0, .long v3, .retAddr 0, .retAddr 0]) ⟨trivial, trivial, trivial, rfl, trivial, trivial, trivial⟩ (re_X_put_45_63_69 (I := I) (J := J) (R := R)  h hQ)
    · rw [ehc_27] at h ⊢; (try rw [ehc_27] at hQ)
      refine az_E.ov (pc' := 45) (L' := [.ref 3, .int (5 : Int32), .int v2, .long v3, .retAddr 0, .retAddr 0]) (S' := [.int v2, .ref (63 + 1)]) (σ' := (97, I, J, R)) (x := .ref 71) (o := az_aa az_F (97, I, J, R) 58 (5 : Int32)) rfl rfl ?_
      exact az_E.forget (L := [.retAddr 0, .retAddr 0, .retAddr 0, .long v3, .retAddr 0, .retAddr 0]) ⟨trivial, trivial, trivial, rfl, trivial, trivial, trivial⟩ (re_X_put_45_63_71 (I := I) (J := J) (R := R)  h hQ)
set_option maxRecDepth 100000 in
set_option maxHeartbeats 4000000 in
theorem re_X_put_45_65_61 {ex : az_X} {I : Nat → Nat → Int32} {J : Nat → Nat → Int64} {R : Nat → Nat → Option Nat} {v3 : Int64} {s1 : Int32} {x : Int32 × (Nat → Nat → Int64)} (h : rs_X_put_45 65 61 I J v3 s1 = some x) {Q : Option Value → az_S → Prop} (hQ : Q (some (.int x.1)) (97, I, x.2, R)) : az_E az_F ex 2 126 45 [.retAddr 0, .retAddr 0, .retAddr 0, .long v3, .retAddr 0, .retAddr 0] [.ref 61, .int s1, .ref (65 + 1)] (97, I, J, R) Q := by
  unfold rs_X_put_45 at h
  refine az_E.sn 1 (pc' := 46) (L' := [.retAddr 0, .retAddr 0, .retAddr 0, .long v3, .retAddr 0, .retAddr 0]) (S' := [.long v3, .ref 61, .int s1, .ref (65 + 1)]) (σ' := (97, I, J, R)) rfl ?_
  cases hx_48 : rs_Sh_lowestBits 61 I v3 with
  | none => rw [hx_48] at h; cases h
  | some x_47 =>
    rw [hx_48] at h
    dsimp only at h
    refine az_E.call (d := 1) (k' := 62) (vs := [.ref 61, .long v3]) (pc' := 49) (S' := [.int s1, .ref (65 + 1)]) (Q1 := fun v s => v = some (.long x_47) ∧ s = (97, I, J, R)) rfl (az_E.deep (by omega) (re_Sh_lowestBits_61 (J := J) (R := R)  hx_48 ⟨rfl, rfl⟩)) (fun v s hq => ?_)
    obtain ⟨rfl, rfl⟩ := hq
    show az_E az_F ex 2 126 49 [.retAddr 0, .retAddr 0, .retAddr 0, .long v3, .retAddr 0, .retAddr 0] [.long x_47, .int s1, .ref (65 + 1)] (97, I, J, R) _
    by_cases hc_49 : s1 < 0 ∨ 60 ≤ s1.toNatClampNeg
    · rw [if_pos hc_49] at h; cases h
    · rw [if_neg hc_49] at h
      refine az_E.o (o := az_sl az_F (97, I, J, R) (65 + 1) s1 x_47) (pc' := 50) (L' := [.retAddr 0, .retAddr 0, .retAddr 0, .long v3, .retAddr 0, .retAddr 0]) (S' := []) (x := (97, I, (az_u J (65 + 1) s1.toNatClampNeg x_47), R)) rfl (if_neg hc_49) ?_
      refine az_E.sn 1 (pc' := 51) (L' := [.retAddr 0, .retAddr 0, .retAddr 0, .long v3, .retAddr 0, .retAddr 0]) (S' := [.int (1 : Int32)]) (σ' := (97, I, (az_u J (65 + 1) s1.toNatClampNeg x_47), R)) rfl ?_
      have h := Option.some.inj h
      subst h
      exact az_E.ret (v := some (.int (1 : Int32))) (σ' := (97, I, (az_u J (65 + 1) s1.toNatClampNeg x_47), R)) rfl hQ
set_option maxRecDepth 100000 in
set_option maxHeartbeats 4000000 in
theorem re_X_put_45_65_63 {ex : az_X} {I : Nat → Nat → Int32} {J : Nat → Nat → Int64} {R : Nat → Nat → Option Nat} {v3 : Int64} {s1 : Int32} {x : Int32 × (Nat → Nat → Int64)} (h : rs_X_put_45 65 63 I J v3 s1 = some x) {Q : Option Value → az_S → Prop} (hQ : Q (some (.int x.1)) (97, I, x.2, R)) : az_E az_F ex 2 126 45 [.retAddr 0, .retAddr 0, .retAddr 0, .long v3, .retAddr 0, .retAddr 0] [.ref 63, .int s1, .ref (65 + 1)] (97, I, J, R) Q := by
  unfold rs_X_put_45 at h
  refine az_E.sn 1 (pc' := 46) (L' := [.retAddr 0, .retAddr 0, .retAddr 0, .long v3, .retAddr 0, .retAddr 0]) (S' := [.long v3, .ref 63, .int s1, .ref (65 + 1)]) (σ' := (97, I, J, R)) rfl ?_
  cases hx_51 : rs_Sh_lowestBits 63 I v3 with
  | none => rw [hx_51] at h; cases h
  | some x_50 =>
    rw [hx_51] at h
    dsimp only at h
    refine az_E.call (d := 1) (k' := 62) (vs := [.ref 63, .long v3]) (pc' := 49) (S' := [.int s1, .ref (65 + 1)]) (Q1 := fun v s => v = some (.long x_50) ∧ s = (97, I, J, R)) rfl (az_E.deep (by omega) (re_Sh_lowestBits_63 (J := J) (R := R)  hx_51 ⟨rfl, rfl⟩)) (fun v s hq => ?_)
    obtain ⟨rfl, rfl⟩ := hq
    show az_E az_F ex 2 126 49 [.retAddr 0, .retAddr 0, .retAddr 0, .long v3, .retAddr 0, .retAddr 0] [.long x_50, .int s1, .ref (65 + 1)] (97, I, J, R) _
    by_cases hc_52 : s1 < 0 ∨ 60 ≤ s1.toNatClampNeg
    · rw [if_pos hc_52] at h; cases h
    · rw [if_neg hc_52] at h
      refine az_E.o (o := az_sl az_F (97, I, J, R) (65 + 1) s1 x_50) (pc' := 50) (L' := [.retAddr 0, .retAddr 0, .retAddr 0, .long v3, .retAddr 0, .retAddr 0]) (S' := []) (x := (97, I, (az_u J (65 + 1) s1.toNatClampNeg x_50), R)) rfl (if_neg hc_52) ?_
      refine az_E.sn 1 (pc' := 51) (L' := [.retAddr 0, .retAddr 0, .retAddr 0, .long v3, .retAddr 0, .retAddr 0]) (S' := [.int (1 : Int32)]) (σ' := (97, I, (az_u J (65 + 1) s1.toNatClampNeg x_50), R)) rfl ?_
      have h := Option.some.inj h
      subst h
      exact az_E.ret (v := some (.int (1 : Int32))) (σ' := (97, I, (az_u J (65 + 1) s1.toNatClampNeg x_50), R)) rfl hQ
set_option maxRecDepth 100000 in
set_option maxHeartbeats 4000000 in
theorem re_X_put_45_65_65 {ex : az_X} {I : Nat → Nat → Int32} {J : Nat → Nat → Int64} {R : Nat → Nat → Option Nat} {v3 : Int64} {s1 : Int32} {x : Int32 × (Nat → Nat → Int64)} (h : rs_X_put_45 65 65 I J v3 s1 = some x) {Q : Option Value → az_S → Prop} (hQ : Q (some (.int x.1)) (97, I, x.2, R)) : az_E az_F ex 2 126 45 [.retAddr 0, .retAddr 0, .retAddr 0, .long v3, .retAddr 0, .retAddr 0] [.ref 65, .int s1, .ref (65 + 1)] (97, I, J, R) Q := by
  unfold rs_X_put_45 at h
  refine az_E.sn 1 (pc' := 46) (L' := [.retAddr 0, .retAddr 0, .retAddr 0, .long v3, .retAddr 0, .retAddr 0]) (S' := [.long v3, .ref 65, .int s1, .ref (65 + 1)]) (σ' := (97, I, J, R)) rfl ?_
  cases hx_54 : rs_Sh_lowestBits 65 I v3 with
  | none => rw [hx_54] at h; cases h
  | some x_53 =>
    rw [hx_54] at h
    dsimp only at h
    refine az_E.call (d := 1) (k' := 62) (vs := [.ref 65, .long v3]) (pc' := 49) (S' := [.int s1, .ref (65 + 1)]) (Q1 := fun v s => v = some (.long x_53) ∧ s = (97, I, J, R)) rfl (az_E.deep (by omega) (re_Sh_lowestBits_65 (J := J) (R := R)  hx_54 ⟨rfl, rfl⟩)) (fun v s hq => ?_)
    obtain ⟨rfl, rfl⟩ := hq
    show az_E az_F ex 2 126 49 [.retAddr 0, .retAddr 0, .retAddr 0, .long v3, .retAddr 0, .retAddr 0] [.long x_53, .int s1, .ref (65 + 1)] (97, I, J, R) _
    by_cases hc_55 : s1 < 0 ∨ 60 ≤ s1.toNatClampNeg
    · rw [if_pos hc_55] at h; cases h
    · rw [if_neg hc_55] at h
      refine az_E.o (o := az_sl az_F (97, I, J, R) (65 + 1) s1 x_53) (pc' := 50) (L' := [.retAddr 0, .retAddr 0, .retAddr 0, .long v3, .retAddr 0, .retAddr 0]) (S' := []) (x := (97, I, (az_u J (65 + 1) s1.toNatClampNeg x_53), R)) rfl (if_neg hc_55) ?_
      refine az_E.sn 1 (pc' := 51) (L' := [.retAddr 0, .retAddr 0, .retAddr 0, .long v3, .retAddr 0, .retAddr 0]) (S' := [.int (1 : Int32)]) (σ' := (97, I, (az_u J (65 + 1) s1.toNatClampNeg x_53), R)) rfl ?_
      have h := Option.some.inj h
      subst h
      exact az_E.ret (v := some (.int (1 : Int32))) (σ' := (97, I, (az_u J (65 + 1) s1.toNatClampNeg x_53), R)) rfl hQ
set_option maxRecDepth 100000 in
set_option maxHeartbeats 4000000 in
theorem re_X_put_45_65_67 {ex : az_X} {I : Nat → Nat → Int32} {J : Nat → Nat → Int64} {R : Nat → Nat → Option Nat} {v3 : Int64} {s1 : Int32} {x : Int32 × (Nat → Nat → Int64)} (h : rs_X_put_45 65 67 I J v3 s1 = some x) {Q : Option Value → az_S → Prop} (hQ : Q (some (.int x.1)) (97, I, x.2, R)) : az_E az_F ex 2 126 45 [.retAddr 0, .retAddr 0, .retAddr 0, .long v3, .retAddr 0, .retAddr 0] [.ref 67, .int s1, .ref (65 + 1)] (97, I, J, R) Q := by
  unfold rs_X_put_45 at h
  refine az_E.sn 1 (pc' := 46) (L' := [.retAddr 0, .retAddr 0, .retAddr 0, .long v3, .retAddr 0, .retAddr 0]) (S' := [.long v3, .ref 67, .int s1, .ref (65 + 1)]) (σ' := (97, I, J, R)) rfl ?_
  cases hx_57 : rs_Sh_lowestBits 67 I v3 with
  | none => rw [hx_57] at h; cases h
  | some x_56 =>
    rw [hx_57] at h
    dsimp only at h
    refine az_E.call (d := 1) (k' := 62) (vs := [.ref 67, .long v3]) (pc' := 49) (S' := [.int s1, .ref (65 + 1)]) (Q1 := fun v s => v = some (.long x_56) ∧ s = (97, I, J, R)) rfl (az_E.deep (by omega) (re_Sh_lowestBits_67 (J := J) (R := R)  hx_57 ⟨rfl, rfl⟩)) (fun v s hq => ?_)
    obtain ⟨rfl, rfl⟩ := hq
    show az_E az_F ex 2 126 49 [.retAddr 0, .retAddr 0, .retAddr 0, .long v3, .retAddr 0, .retAddr 0] [.long x_56, .int s1, .ref (65 + 1)] (97, I, J, R) _
    by_cases hc_58 : s1 < 0 ∨ 60 ≤ s1.toNatClampNeg
    · rw [if_pos hc_58] at h; cases h
    · rw [if_neg hc_58] at h
      refine az_E.o (o := az_sl az_F (97, I, J, R) (65 + 1) s1 x_56) (pc' := 50) (L' := [.retAddr 0, .retAddr 0, .retAddr 0, .long v3, .retAddr 0, .retAddr 0]) (S' := []) (x := (97, I, (az_u J (65 + 1) s1.toNatClampNeg x_56), R)) rfl (if_neg hc_58) ?_
      refine az_E.sn 1 (pc' := 51) (L' := [.retAddr 0, .retAddr 0, .retAddr 0, .long v3, .retAddr 0, .retAddr 0]) (S' := [.int (1 : Int32)]) (σ' := (97, I, (az_u J (65 + 1) s1.toNatClampNeg x_56), R)) rfl ?_
      have h := Option.some.inj h
      subst h
      exact az_E.ret (v := some (.int (1 : Int32))) (σ' := (97, I, (az_u J (65 + 1) s1.toNatClampNeg x_56), R)) rfl hQ
set_option maxRecDepth 100000 in
set_option maxHeartbeats 4000000 in
theorem re_X_put_45_65_69 {ex : az_X} {I : Nat → Nat → Int32} {J : Nat → Nat → Int64} {R : Nat → Nat → Option Nat} {v3 : Int64} {s1 : Int32} {x : Int32 × (Nat → Nat → Int64)} (h : rs_X_put_45 65 69 I J v3 s1 = some x) {Q : Option Value → az_S → Prop} (hQ : Q (some (.int x.1)) (97, I, x.2, R)) : az_E az_F ex 2 126 45 [.retAddr 0, .retAddr 0, .retAddr 0, .long v3, .retAddr 0, .retAddr 0] [.ref 69, .int s1, .ref (65 + 1)] (97, I, J, R) Q := by
  unfold rs_X_put_45 at h
  refine az_E.sn 1 (pc' := 46) (L' := [.retAddr 0, .retAddr 0, .retAddr 0, .long v3, .retAddr 0, .retAddr 0]) (S' := [.long v3, .ref 69, .int s1, .ref (65 + 1)]) (σ' := (97, I, J, R)) rfl ?_
  cases hx_60 : rs_Sh_lowestBits 69 I v3 with
  | none => rw [hx_60] at h; cases h
  | some x_59 =>
    rw [hx_60] at h
    dsimp only at h
    refine az_E.call (d := 1) (k' := 62) (vs := [.ref 69, .long v3]) (pc' := 49) (S' := [.int s1, .ref (65 + 1)]) (Q1 := fun v s => v = some (.long x_59) ∧ s = (97, I, J, R)) rfl (az_E.deep (by omega) (re_Sh_lowestBits_69 (J := J) (R := R)  hx_60 ⟨rfl, rfl⟩)) (fun v s hq => ?_)
    obtain ⟨rfl, rfl⟩ := hq
    show az_E az_F ex 2 126 49 [.retAddr 0, .retAddr 0, .retAddr 0, .long v3, .retAddr 0, .retAddr 0] [.long x_59, .int s1, .ref (65 + 1)] (97, I, J, R) _
    by_cases hc_61 : s1 < 0 ∨ 60 ≤ s1.toNatClampNeg
    · rw [if_pos hc_61] at h; cases h
    · rw [if_neg hc_61] at h
      refine az_E.o (o := az_sl az_F (97, I, J, R) (65 + 1) s1 x_59) (pc' := 50) (L' := [.retAddr 0, .retAddr 0, .retAddr 0, .long v3, .retAddr 0, .retAddr 0]) (S' := []) (x := (97, I, (az_u J (65 + 1) s1.toNatClampNeg x_59), R)) rfl (if_neg hc_61) ?_
      refine az_E.sn 1 (pc' := 51) (L' := [.retAddr 0, .retAddr 0, .retAddr 0, .long v3, .retAddr 0, .retAddr 0]) (S' := [.int (1 : Int32)]) (σ' := (97, I, (az_u J (65 + 1) s1.toNatClampNeg x_59), R)) rfl ?_
      have h := Option.some.inj h
      subst h
      exact az_E.ret (v := some (.int (1 : Int32))) (σ' := (97, I, (az_u J (65 + 1) s1.toNatClampNeg x_59), R)) rfl hQ
set_option maxRecDepth 100000 in
set_option maxHeartbeats 4000000 in
theorem re_X_put_45_65_71 {ex : az_X} {I : Nat → Nat → Int32} {J : Nat → Nat → Int64} {R : Nat → Nat → Option Nat} {v3 : Int64} {s1 : Int32} {x : Int32 × (Nat → Nat → Int64)} (h : rs_X_put_45 65 71 I J v3 s1 = some x) {Q : Option Value → az_S → Prop} (hQ : Q (some (.int x.1)) (97, I, x.2, R)) : az_E az_F ex 2 126 45 [.retAddr 0, .retAddr 0, .retAddr 0, .long v3, .retAddr 0, .retAddr 0] [.ref 71, .int s1, .ref (65 + 1)] (97, I, J, R) Q := by
  unfold rs_X_put_45 at h
  refine az_E.sn 1 (pc' := 46) (L' := [.retAddr 0, .retAddr 0, .retAddr 0, .long v3, .retAddr 0, .retAddr 0]) (S' := [.long v3, .ref 71, .int s1, .ref (65 + 1)]) (σ' := (97, I, J, R)) rfl ?_
  cases hx_63 : rs_Sh_lowestBits 71 I v3 with
  | none => rw [hx_63] at h; cases h
  | some x_62 =>
    rw [hx_63] at h
    dsimp only at h
    refine az_E.call (d := 1) (k' := 62) (vs := [.ref 71, .long v3]) (pc' := 49) (S' := [.int s1, .ref (65 + 1)]) (Q1 := fun v s => v = some (.long x_62) ∧ s = (97, I, J, R)) rfl (az_E.deep (by omega) (re_Sh_lowestBits_71 (J := J) (R := R)  hx_63 ⟨rfl, rfl⟩)) (fun v s hq => ?_)
    obtain ⟨rfl, rfl⟩ := hq
    show az_E az_F ex 2 126 49 [.retAddr 0, .retAddr 0, .retAddr 0, .long v3, .retAddr 0, .retAddr 0] [.long x_62, .int s1, .ref (65 + 1)] (97, I, J, R) _
    by_cases hc_64 : s1 < 0 ∨ 60 ≤ s1.toNatClampNeg
    · rw [if_pos hc_64] at h; cases h
    · rw [if_neg hc_64] at h
      refine az_E.o (o := az_sl az_F (97, I, J, R) (65 + 1) s1 x_62) (pc' := 50) (L' := [.retAddr 0, .retAddr 0, .retAddr 0, .long v3, .retAddr 0, .retAddr 0]) (S' := []) (x := (97, I, (az_u J (65 + 1) s1.toNatClampNeg x_62), R)) rfl (if_neg hc_64) ?_
      refine az_E.sn 1 (pc' := 51) (L' := [.retAddr 0, .retAddr 0, .retAddr 0, .long v3, .retAddr 0, .retAddr 0]) (S' := [.int (1 : Int32)]) (σ' := (97, I, (az_u J (65 + 1) s1.toNatClampNeg x_62), R)) rfl ?_
      have h := Option.some.inj h
      subst h
      exact az_E.ret (v := some (.int (1 : Int32))) (σ' := (97, I, (az_u J (65 + 1) s1.toNatClampNeg x_62), R)) rfl hQ
set_option maxRecDepth 100000 in
set_option maxHeartbeats 4000000 in
theorem re_X_put_35_65 {ex : az_X} {I : Nat → Nat → Int32} {J : Nat → Nat → Int64} {R : Nat → Nat → Option Nat} {v1 : Int32} {v2 : Int32} {v3 : Int64} {x : Int32 × (Nat → Nat → Int64)} (h : rs_X_put_35 65 I J v1 v2 v3 = some x) {Q : Option Value → az_S → Prop} (hQ : Q (some (.int x.1)) (97, I, x.2, R)) : az_E az_F ex 2 126 35 [.ref 3, .int v1, .int v2, .long v3, .retAddr 0, .retAddr 0] [.ref 65] (97, I, J, R) Q := by
  unfold rs_X_put_35 at h
  refine az_E.sn 5 (pc' := 44) (L' := [.ref 3, .int v1, .int v2, .long v3, .retAddr 0, .retAddr 0]) (S' := [.int v1, .ref 58, .int v2, .ref (65 + 1)]) (σ' := (97, I, J, R)) rfl ?_
  by_cases hc_46 : v1 < 0 ∨ 6 ≤ v1.toNatClampNeg
  · rw [if_pos hc_46] at h; cases h
  · rw [if_neg hc_46] at h
    rcases az_six hc_46 with ehc_46 | ehc_46 | ehc_46 | ehc_46 | ehc_46 | ehc_46
    · rw [ehc_46] at h ⊢; (try rw [ehc_46] at hQ)
      refine az_E.ov (pc' := 45) (L' := [.ref 3, .int (0 : Int32), .int v2, .long v3, .retAddr 0, .retAddr 0]) (S' := [.int v2, .ref (65 + 1)]) (σ' := (97, I, J, R)) (x := .ref 61) (o := az_aa az_F (97, I, J, R) 58 (0 : Int32)) rfl rfl ?_
      exact az_E.forget (L := [.retAddr 0, .retAddr 0, .retAddr 0, .long v3, .retAddr 0, .retAddr 0]) ⟨trivial, trivial, trivial, rfl, trivial, trivial, trivial⟩ (re_X_put_45_65_61 (I := I) (J := J) (R := R)  h hQ)
    · rw [ehc_46] at h ⊢; (try rw [ehc_46] at hQ)
      refine az_E.ov (pc' := 45) (L' := [.ref 3, .int (1 : Int32), .int v2, .long v3, .retAddr 0, .retAddr 0]) (S' := [.int v2, .ref (65 + 1)]) (σ' := (97, I, J, R)) (x := .ref 63) (o := az_aa az_F (97, I, J, R) 58 (1 : Int32)) rfl rfl ?_
      exact az_E.forget (L := [.retAddr 0, .retAddr 0, .retAddr 0, .long v3, .retAddr 0, .retAddr 0]) ⟨trivial, trivial, trivial, rfl, trivial, trivial, trivial⟩ (re_X_put_45_65_63 (I := I) (J := J) (R := R)  h hQ)
    · rw [ehc_46] at h ⊢; (try rw [ehc_46] at hQ)
      refine az_E.ov (pc' := 45) (L' := [.ref 3, .int (2 : Int32), .int v2, .long v3, .retAddr 0, .retAddr 0]) (S' := [.int v2, .ref (65 + 1)]) (σ' := (97, I, J, R)) (x := .ref 65) (o := az_aa az_F (97, I, J, R) 58 (2 : Int32)) rfl rfl ?_
      exact az_E.forget (L := [.retAddr 0, .retAddr 0, .retAddr 0, .long v3, .retAddr 0, .retAddr 0]) ⟨trivial, trivial, trivial, rfl, trivial, trivial, trivial⟩ (re_X_put_45_65_65 (I := I) (J := J) (R := R)  h hQ)
    · rw [ehc_46] at h ⊢; (try rw [ehc_46] at hQ)
      refine az_E.ov (pc' := 45) (L' := [.ref 3, .int (3 : Int32), .int v2, .long v3, .retAddr 0, .retAddr 0]) (S' := [.int v2, .ref (65 + 1)]) (σ' := (97, I, J, R)) (x := .ref 67) (o := az_aa az_F (97, I, J, R) 58 (3 : Int32)) rfl rfl ?_
      exact az_E.forget (L := [.retAddr 0, .retAddr 0, .retAddr 0, .long v3, .retAddr 0, .retAddr 0]) ⟨trivial, trivial, trivial, rfl, trivial, trivial, trivial⟩ (re_X_put_45_65_67 (I := I) (J := J) (R := R)  h hQ)
    · rw [ehc_46] at h ⊢; (try rw [ehc_46] at hQ)
      refine az_E.ov (pc' := 45) (L' := [.ref 3, .int (4 : Int32), .int v2, .long v3, .retAddr 0, .retAddr 0]) (S' := [.int v2, .ref (65 + 1)]) (σ' := (97, I, J, R)) (x := .ref 69) (o := az_aa az_F (97, I, J, R) 58 (4 : Int32)) rfl rfl ?_
      exact az_E.forget (L := [.retAddr 0, .retAddr 0, .retAddr 0, .long v3, .retAddr 0, .retAddr 0]) ⟨trivial, trivial, trivial, rfl, trivial, trivial, trivial⟩ (re_X_put_45_65_69 (I := I) (J := J) (R := R)  h hQ)
    · rw [ehc_46] at h ⊢; (try rw [ehc_46] at hQ)
      refine az_E.ov (pc' := 45) (L' := [.ref 3, .int (5 : Int32), .int v2, .long v3, .retAddr 0, .retAddr 0]) (S' := [.int v2, .ref (65 + 1)]) (σ' := (97, I, J, R)) (x := .ref 71) (o := az_aa az_F (97, I, J, R) 58 (5 : Int32)) rfl rfl ?_
      exact az_E.forget (L := [.retAddr 0, .retAddr 0, .retAddr 0, .long v3, .retAddr 0, .retAddr 0]) ⟨trivial, trivial, trivial, rfl, trivial, trivial, trivial⟩ (re_X_put_45_65_71 (I := I) (J := J) (R := R)  h hQ)
set_option maxRecDepth 100000 in
set_option maxHeartbeats 4000000 in
theorem re_X_put_45_67_61 {ex : az_X} {I : Nat → Nat → Int32} {J : Nat → Nat → Int64} {R : Nat → Nat → Option Nat} {v3 : Int64} {s1 : Int32} {x : Int32 × (Nat → Nat → Int64)} (h : rs_X_put_45 67 61 I J v3 s1 = some x) {Q : Option Value → az_S → Prop} (hQ : Q (some (.int x.1)) (97, I, x.2, R)) : az_E az_F ex 2 126 45 [.retAddr 0, .retAddr 0, .retAddr 0, .long v3, .retAddr 0, .retAddr 0] [.ref 61, .int s1, .ref (67 + 1)] (97, I, J, R) Q := by
  unfold rs_X_put_45 at h
  refine az_E.sn 1 (pc' := 46) (L' := [.retAddr 0, .retAddr 0, .retAddr 0, .long v3, .retAddr 0, .retAddr 0]) (S' := [.long v3, .ref 61, .int s1, .ref (67 + 1)]) (σ' := (97, I, J, R)) rfl ?_
  cases hx_67 : rs_Sh_lowestBits 61 I v3 with
  | none => rw [hx_67] at h; cases h
  | some x_66 =>
    rw [hx_67] at h
    dsimp only at h
    refine az_E.call (d := 1) (k' := 62) (vs := [.ref 61, .long v3]) (pc' := 49) (S' := [.int s1, .ref (67 + 1)]) (Q1 := fun v s => v = some (.long x_66) ∧ s = (97, I, J, R)) rfl (az_E.deep (by omega) (re_Sh_lowestBits_61 (J := J) (R := R)  hx_67 ⟨rfl, rfl⟩)) (fun v s hq => ?_)
    obtain ⟨rfl, rfl⟩ := hq
    show az_E az_F ex 2 126 49 [.retAddr 0, .retAddr 0, .retAddr 0, .long v3, .retAddr 0, .retAddr 0] [.long x_66, .int s1, .ref (67 + 1)] (97, I, J, R) _
    by_cases hc_68 : s1 < 0 ∨ 60 ≤ s1.toNatClampNeg
    · rw [if_pos hc_68] at h; cases h
    · rw [if_neg hc_68] at h
      refine az_E.o (o := az_sl az_F (97, I, J, R) (67 + 1) s1 x_66) (pc' := 50) (L' := [.retAddr 0, .retAddr 0, .retAddr 0, .long v3, .retAddr 0, .retAddr 0]) (S' := []) (x := (97, I, (az_u J (67 + 1) s1.toNatClampNeg x_66), R)) rfl (if_neg hc_68) ?_
      refine az_E.sn 1 (pc' := 51) (L' := [.retAddr 0, .retAddr 0, .retAddr 0, .long v3, .retAddr 0, .retAddr 0]) (S' := [.int (1 : Int32)]) (σ' := (97, I, (az_u J (67 + 1) s1.toNatClampNeg x_66), R)) rfl ?_
      have h := Option.some.inj h
      subst h
      exact az_E.ret (v := some (.int (1 : Int32))) (σ' := (97, I, (az_u J (67 + 1) s1.toNatClampNeg x_66), R)) rfl hQ
set_option maxRecDepth 100000 in
set_option maxHeartbeats 4000000 in
theorem re_X_put_45_67_63 {ex : az_X} {I : Nat → Nat → Int32} {J : Nat → Nat → Int64} {R : Nat → Nat → Option Nat} {v3 : Int64} {s1 : Int32} {x : Int32 × (Nat → Nat → Int64)} (h : rs_X_put_45 67 63 I J v3 s1 = some x) {Q : Option Value → az_S → Prop} (hQ : Q (some (.int x.1)) (97, I, x.2, R)) : az_E az_F ex 2 126 45 [.retAddr 0, .retAddr 0, .retAddr 0, .long v3, .retAddr 0, .retAddr 0] [.ref 63, .int s1, .ref (67 + 1)] (97, I, J, R) Q := by
  unfold rs_X_put_45 at h
  refine az_E.sn 1 (pc' := 46) (L' := [.retAddr 0, .retAddr 0, .retAddr 0, .long v3, .retAddr 0, .retAddr 0]) (S' := [.long v3, .ref 63, .int s1, .ref (67 + 1)]) (σ' := (97, I, J, R)) rfl ?_
  cases hx_70 : rs_Sh_lowestBits 63 I v3 with
  | none => rw [hx_70] at h; cases h
  | some x_69 =>
    rw [hx_70] at h
    dsimp only at h
    refine az_E.call (d := 1) (k' := 62) (vs := [.ref 63, .long v3]) (pc' := 49) (S' := [.int s1, .ref (67 + 1)]) (Q1 := fun v s => v = some (.long x_69) ∧ s = (97, I, J, R)) rfl (az_E.deep (by omega) (re_Sh_lowestBits_63 (J := J) (R := R)  hx_70 ⟨rfl, rfl⟩)) (fun v s hq => ?_)
    obtain ⟨rfl, rfl⟩ := hq
    show az_E az_F ex 2 126 49 [.retAddr 0, .retAddr 0, .retAddr 0, .long v3, .retAddr 0, .retAddr 0] [.long x_69, .int s1, .ref (67 + 1)] (97, I, J, R) _
    by_cases hc_71 : s1 < 0 ∨ 60 ≤ s1.toNatClampNeg
    · rw [if_pos hc_71] at h; cases h
    · rw [if_neg hc_71] at h
      refine az_E.o (o := az_sl az_F (97, I, J, R) (67 + 1) s1 x_69) (pc' := 50) (L' := [.retAddr 0, .retAddr 0, .retAddr 0, .long v3, .retAddr 0, .retAddr 0]) (S' := []) (x := (97, I, (az_u J (67 + 1) s1.toNatClampNeg x_69), R)) rfl (if_neg hc_71) ?_
      refine az_E.sn 1 (pc' := 51) (L' := [.retAddr 0, .retAddr 0, .retAddr 0, .long v3, .retAddr 0, .retAddr 0]) (S' := [.int (1 : Int32)]) (σ' := (97, I, (az_u J (67 + 1) s1.toNatClampNeg x_69), R)) rfl ?_
      have h := Option.some.inj h
      subst h
      exact az_E.ret (v := some (.int (1 : Int32))) (σ' := (97, I, (az_u J (67 + 1) s1.toNatClampNeg x_69), R)) rfl hQ
set_option maxRecDepth 100000 in
set_option maxHeartbeats 4000000 in
theorem re_X_put_45_67_65 {ex : az_X} {I : Nat → Nat → Int32} {J : Nat → Nat → Int64} {R : Nat → Nat → Option Nat} {v3 : Int64} {s1 : Int32} {x : Int32 × (Nat → Nat → Int64)} (h : rs_X_put_45 67 65 I J v3 s1 = some x) {Q : Option Value → az_S → Prop} (hQ : Q (some (.int x.1)) (97, I, x.2, R)) : az_E az_F ex 2 126 45 [.retAddr 0, .retAddr 0, .retAddr 0, .long v3, .retAddr 0, .retAddr 0] [.ref 65, .int s1, .ref (67 + 1)] (97, I, J, R) Q := by
  unfold rs_X_put_45 at h
  refine az_E.sn 1 (pc' := 46) (L' := [.retAddr 0, .retAddr 0, .retAddr 0, .long v3, .retAddr 0, .retAddr 0]) (S' := [.long v3, .ref 65, .int s1, .ref (67 + 1)]) (σ' := (97, I, J, R)) rfl ?_
  cases hx_73 : rs_Sh_lowestBits 65 I v3 with
  | none => rw [hx_73] at h; cases h
  | some x_72 =>
    rw [hx_73] at h
    dsimp only at h
    refine az_E.call (d := 1) (k' := 62) (vs := [.ref 65, .long v3]) (pc' := 49) (S' := [.int s1, .ref (67 + 1)]) (Q1 := fun v s => v = some (.long x_72) ∧ s = (97, I, J, R)) rfl (az_E.deep (by omega) (re_Sh_lowestBits_65 (J := J) (R := R)  hx_73 ⟨rfl, rfl⟩)) (fun v s hq => ?_)
    obtain ⟨rfl, rfl⟩ := hq
    show az_E az_F ex 2 126 49 [.retAddr 0, .retAddr 0, .retAddr 0, .long v3, .retAddr 0, .retAddr 0] [.long x_72, .int s1, .ref (67 + 1)] (97, I, J, R) _
    by_cases hc_74 : s1 < 0 ∨ 60 ≤ s1.toNatClampNeg
    · rw [if_pos hc_74] at h; cases h
    · rw [if_neg hc_74] at h
      refine az_E.o (o := az_sl az_F (97, I, J, R) (67 + 1) s1 x_72) (pc' := 50) (L' := [.retAddr 0, .retAddr 0, .retAddr 0, .long v3, .retAddr 0, .retAddr 0]) (S' := []) (x := (97, I, (az_u J (67 + 1) s1.toNatClampNeg x_72), R)) rfl (if_neg hc_74) ?_
      refine az_E.sn 1 (pc' := 51) (L' := [.retAddr 0, .retAddr 0, .retAddr 0, .long v3, .retAddr 0, .retAddr 0]) (S' := [.int (1 : Int32)]) (σ' := (97, I, (az_u J (67 + 1) s1.toNatClampNeg x_72), R)) rfl ?_
      have h := Option.some.inj h
      subst h
      exact az_E.ret (v := some (.int (1 : Int32))) (σ' := (97, I, (az_u J (67 + 1) s1.toNatClampNeg x_72), R)) rfl hQ
set_option maxRecDepth 100000 in
set_option maxHeartbeats 4000000 in
theorem re_X_put_45_67_67 {ex : az_X} {I : Nat → Nat → Int32} {J : Nat → Nat → Int64} {R : Nat → Nat → Option Nat} {v3 : Int64} {s1 : Int32} {x : Int32 × (Nat → Nat → Int64)} (h : rs_X_put_45 67 67 I J v3 s1 = some x) {Q : Option Value → az_S → Prop} (hQ : Q (some (.int x.1)) (97, I, x.2, R)) : az_E az_F ex 2 126 45 [.retAddr 0, .retAddr 0, .retAddr 0, .long v3, .retAddr 0, .retAddr 0] [.ref 67, .int s1, .ref (67 + 1)] (97, I, J, R) Q := by
  unfold rs_X_put_45 at h
  refine az_E.sn 1 (pc' := 46) (L' := [.retAddr 0, .retAddr 0, .retAddr 0, .long v3, .retAddr 0, .retAddr 0]) (S' := [.long v3, .ref 67, .int s1, .ref (67 + 1)]) (σ' := (97, I, J, R)) rfl ?_
  cases hx_76 : rs_Sh_lowestBits 67 I v3 with
  | none => rw [hx_76] at h; cases h
  | some x_75 =>
    rw [hx_76] at h
    dsimp only at h
    refine az_E.call (d := 1) (k' := 62) (vs := [.ref 67, .long v3]) (pc' := 49) (S' := [.int s1, .ref (67 + 1)]) (Q1 := fun v s => v = some (.long x_75) ∧ s = (97, I, J, R)) rfl (az_E.deep (by omega) (re_Sh_lowestBits_67 (J := J) (R := R)  hx_76 ⟨rfl, rfl⟩)) (fun v s hq => ?_)
    obtain ⟨rfl, rfl⟩ := hq
    show az_E az_F ex 2 126 49 [.retAddr 0, .retAddr 0, .retAddr 0, .long v3, .retAddr 0, .retAddr 0] [.long x_75, .int s1, .ref (67 + 1)] (97, I, J, R) _
    by_cases hc_77 : s1 < 0 ∨ 60 ≤ s1.toNatClampNeg
    · rw [if_pos hc_77] at h; cases h
    · rw [if_neg hc_77] at h
      refine az_E.o (o := az_sl az_F (97, I, J, R) (67 + 1) s1 x_75) (pc' := 50) (L' := [.retAddr 0, .retAddr 0, .retAddr 0, .long v3, .retAddr 0, .retAddr 0]) (S' := []) (x := (97, I, (az_u J (67 + 1) s1.toNatClampNeg x_75), R)) rfl (if_neg hc_77) ?_
      refine az_E.sn 1 (pc' := 51) (L' := [.retAddr 0, .retAddr 0, .retAddr 0, .long v3, .retAddr 0, .retAddr 0]) (S' := [.int (1 : Int32)]) (σ' := (97, I, (az_u J (67 + 1) s1.toNatClampNeg x_75), R)) rfl ?_
      have h := Option.some.inj h
      subst h
      exact az_E.ret (v := some (.int (1 : Int32))) (σ' := (97, I, (az_u J (67 + 1) s1.toNatClampNeg x_75), R)) rfl hQ
set_option maxRecDepth 100000 in
set_option maxHeartbeats 4000000 in
theorem re_X_put_45_67_69 {ex : az_X} {I : Nat → Nat → Int32} {J : Nat → Nat → Int64} {R : Nat → Nat → Option Nat} {v3 : Int64} {s1 : Int32} {x : Int32 × (Nat → Nat → Int64)} (h : rs_X_put_45 67 69 I J v3 s1 = some x) {Q : Option Value → az_S → Prop} (hQ : Q (some (.int x.1)) (97, I, x.2, R)) : az_E az_F ex 2 126 45 [.retAddr 0, .retAddr 0, .retAddr 0, .long v3, .retAddr 0, .retAddr 0] [.ref 69, .int s1, .ref (67 + 1)] (97, I, J, R) Q := by
  unfold rs_X_put_45 at h
  refine az_E.sn 1 (pc' := 46) (L' := [.retAddr 0, .retAddr 0, .retAddr 0, .long v3, .retAddr 0, .retAddr 0]) (S' := [.long v3, .ref 69, .int s1, .ref (67 + 1)]) (σ' := (97, I, J, R)) rfl ?_
  cases hx_79 : rs_Sh_lowestBits 69 I v3 with
  | none => rw [hx_79] at h; cases h
  | some x_78 =>
    rw [hx_79] at h
    dsimp only at h
    refine az_E.call (d := 1) (k' := 62) (vs := [.ref 69, .long v3]) (pc' := 49) (S' := [.int s1, .ref (67 + 1)]) (Q1 := fun v s => v = some (.long x_78) ∧ s = (97, I, J, R)) rfl (az_E.deep (by omega) (re_Sh_lowestBits_69 (J := J) (R := R)  hx_79 ⟨rfl, rfl⟩)) (fun v s hq => ?_)
    obtain ⟨rfl, rfl⟩ := hq
    show az_E az_F ex 2 126 49 [.retAddr 0, .retAddr 0, .retAddr 0, .long v3, .retAddr 0, .retAddr 0] [.long x_78, .int s1, .ref (67 + 1)] (97, I, J, R) _
    by_cases hc_80 : s1 < 0 ∨ 60 ≤ s1.toNatClampNeg
    · rw [if_pos hc_80] at h; cases h
    · rw [if_neg hc_80] at h
      refine az_E.o (o := az_sl az_F (97, I, J, R) (67 + 1) s1 x_78) (pc' := 50) (L' := [.retAddr 0, .retAddr 0, .retAddr 0, .long v3, .retAddr 0, .retAddr 0]) (S' := []) (x := (97, I, (az_u J (67 + 1) s1.toNatClampNeg x_78), R)) rfl (if_neg hc_80) ?_
      refine az_E.sn 1 (pc' := 51) (L' := [.retAddr 0, .retAddr 0, .retAddr 0, .long v3, .retAddr 0, .retAddr 0]) (S' := [.int (1 : Int32)]) (σ' := (97, I, (az_u J (67 + 1) s1.toNatClampNeg x_78), R)) rfl ?_
      have h := Option.some.inj h
      subst h
      exact az_E.ret (v := some (.int (1 : Int32))) (σ' := (97, I, (az_u J (67 + 1) s1.toNatClampNeg x_78), R)) rfl hQ
set_option maxRecDepth 100000 in
set_option maxHeartbeats 4000000 in
theorem re_X_put_45_67_71 {ex : az_X} {I : Nat → Nat → Int32} {J : Nat → Nat → Int64} {R : Nat → Nat → Option Nat} {v3 : Int64} {s1 : Int32} {x : Int32 × (Nat → Nat → Int64)} (h : rs_X_put_45 67 71 I J v3 s1 = some x) {Q : Option Value → az_S → Prop} (hQ : Q (some (.int x.1)) (97, I, x.2, R)) : az_E az_F ex 2 126 45 [.retAddr 0, .retAddr 0, .retAddr 0, .long v3, .retAddr 0, .retAddr 0] [.ref 71, .int s1, .ref (67 + 1)] (97, I, J, R) Q := by
  unfold rs_X_put_45 at h
  refine az_E.sn 1 (pc' := 46) (L' := [.retAddr 0, .retAddr 0, .retAddr 0, .long v3, .retAddr 0, .retAddr 0]) (S' := [.long v3, .ref 71, .int s1, .ref (67 + 1)]) (σ' := (97, I, J, R)) rfl ?_
  cases hx_82 : rs_Sh_lowestBits 71 I v3 with
  | none => rw [hx_82] at h; cases h
  | some x_81 =>
    rw [hx_82] at h
    dsimp only at h
    refine az_E.call (d := 1) (k' := 62) (vs := [.ref 71, .long v3]) (pc' := 49) (S' := [.int s1, .ref (67 + 1)]) (Q1 := fun v s => v = some (.long x_81) ∧ s = (97, I, J, R)) rfl (az_E.deep (by omega) (re_Sh_lowestBits_71 (J := J) (R := R)  hx_82 ⟨rfl, rfl⟩)) (fun v s hq => ?_)
    obtain ⟨rfl, rfl⟩ := hq
    show az_E az_F ex 2 126 49 [.retAddr 0, .retAddr 0, .retAddr 0, .long v3, .retAddr 0, .retAddr 0] [.long x_81, .int s1, .ref (67 + 1)] (97, I, J, R) _
    by_cases hc_83 : s1 < 0 ∨ 60 ≤ s1.toNatClampNeg
    · rw [if_pos hc_83] at h; cases h
    · rw [if_neg hc_83] at h
      refine az_E.o (o := az_sl az_F (97, I, J, R) (67 + 1) s1 x_81) (pc' := 50) (L' := [.retAddr 0, .retAddr 0, .retAddr 0, .long v3, .retAddr 0, .retAddr 0]) (S' := []) (x := (97, I, (az_u J (67 + 1) s1.toNatClampNeg x_81), R)) rfl (if_neg hc_83) ?_
      refine az_E.sn 1 (pc' := 51) (L' := [.retAddr 0, .retAddr 0, .retAddr 0, .long v3, .retAddr 0, .retAddr 0]) (S' := [.int (1 : Int32)]) (σ' := (97, I, (az_u J (67 + 1) s1.toNatClampNeg x_81), R)) rfl ?_
      have h := Option.some.inj h
      subst h
      exact az_E.ret (v := some (.int (1 : Int32))) (σ' := (97, I, (az_u J (67 + 1) s1.toNatClampNeg x_81), R)) rfl hQ
set_option maxRecDepth 100000 in
set_option maxHeartbeats 4000000 in
theorem re_X_put_35_67 {ex : az_X} {I : Nat → Nat → Int32} {J : Nat → Nat → Int64} {R : Nat → Nat → Option Nat} {v1 : Int32} {v2 : Int32} {v3 : Int64} {x : Int32 × (Nat → Nat → Int64)} (h : rs_X_put_35 67 I J v1 v2 v3 = some x) {Q : Option Value → az_S → Prop} (hQ : Q (some (.int x.1)) (97, I, x.2, R)) : az_E az_F ex 2 126 35 [.ref 3, .int v1, .int v2, .long v3, .retAddr 0, .retAddr 0] [.ref 67] (97, I, J, R) Q := by
  unfold rs_X_put_35 at h
  refine az_E.sn 5 (pc' := 44) (L' := [.ref 3, .int v1, .int v2, .long v3, .retAddr 0, .retAddr 0]) (S' := [.int v1, .ref 58, .int v2, .ref (67 + 1)]) (σ' := (97, I, J, R)) rfl ?_
  by_cases hc_65 : v1 < 0 ∨ 6 ≤ v1.toNatClampNeg
  · rw [if_pos hc_65] at h; cases h
  · rw [if_neg hc_65] at h
    rcases az_six hc_65 with ehc_65 | ehc_65 | ehc_65 | ehc_65 | ehc_65 | ehc_65
    · rw [ehc_65] at h ⊢; (try rw [ehc_65] at hQ)
      refine az_E.ov (pc' := 45) (L' := [.ref 3, .int (0 : Int32), .int v2, .long v3, .retAddr 0, .retAddr 0]) (S' := [.int v2, .ref (67 + 1)]) (σ' := (97, I, J, R)) (x := .ref 61) (o := az_aa az_F (97, I, J, R) 58 (0 : Int32)) rfl rfl ?_
      exact az_E.forget (L := [.retAddr 0, .retAddr 0, .retAddr 0, .long v3, .retAddr 0, .retAddr 0]) ⟨trivial, trivial, trivial, rfl, trivial, trivial, trivial⟩ (re_X_put_45_67_61 (I := I) (J := J) (R := R)  h hQ)
    · rw [ehc_65] at h ⊢; (try rw [ehc_65] at hQ)
      refine az_E.ov (pc' := 45) (L' := [.ref 3, .int (1 : Int32), .int v2, .long v3, .retAddr 0, .retAddr 0]) (S' := [.int v2, .ref (67 + 1)]) (σ' := (97, I, J, R)) (x := .ref 63) (o := az_aa az_F (97, I, J, R) 58 (1 : Int32)) rfl rfl ?_
      exact az_E.forget (L := [.retAddr 0, .retAddr 0, .retAddr 0, .long v3, .retAddr 0, .retAddr 0]) ⟨trivial, trivial, trivial, rfl, trivial, trivial, trivial⟩ (re_X_put_45_67_63 (I := I) (J := J) (R := R)  h hQ)
    · rw [ehc_65] at h ⊢; (try rw [ehc_65] at hQ)
      refine az_E.ov (pc' := 45) (L' := [.ref 3, .int (2 : Int32), .int v2, .long v3, .retAddr 0, .retAddr 0]) (S' := [.int v2, .ref (67 + 1)]) (σ' := (97, I, J, R)) (x := .ref 65) (o := az_aa az_F (97, I, J, R) 58 (2 : Int32)) rfl rfl ?_
      exact az_E.forget (L := [.retAddr 0, .retAddr 0, .retAddr 0, .long v3, .retAddr 0, .retAddr 0]) ⟨trivial, trivial, trivial, rfl, trivial, trivial, trivial⟩ (re_X_put_45_67_65 (I := I) (J := J) (R := R)  h hQ)
    · rw [ehc_65] at h ⊢; (try rw [ehc_65] at hQ)
      refine az_E.ov (pc' := 45) (L' := [.ref 3, .int (3 : Int32), .int v2, .long v3, .retAddr 0, .retAddr 0]) (S' := [.int v2, .ref (67 + 1)]) (σ' := (97, I, J, R)) (x := .ref 67) (o := az_aa az_F (97, I, J, R) 58 (3 : Int32)) rfl rfl ?_
      exact az_E.forget (L := [.retAddr 0, .retAddr 0, .retAddr 0, .long v3, .retAddr 0, .retAddr 0]) ⟨trivial, trivial, trivial, rfl, trivial, trivial, trivial⟩ (re_X_put_45_67_67 (I := I) (J := J) (R := R)  h hQ)
    · rw [ehc_65] at h ⊢; (try rw [ehc_65] at hQ)
      refine az_E.ov (pc' := 45) (L' := [.ref 3, .int (4 : Int32), .int v2, .long v3, .retAddr 0, .retAddr 0]) (S' := [.int v2, .ref (67 + 1)]) (σ' := (97, I, J, R)) (x := .ref 69) (o := az_aa az_F (97, I, J, R) 58 (4 : Int32)) rfl rfl ?_
      exact az_E.forget (L := [.retAddr 0, .retAddr 0, .retAddr 0, .long v3, .retAddr 0, .retAddr 0]) ⟨trivial, trivial, trivial, rfl, trivial, trivial, trivial⟩ (re_X_put_45_67_69 (I := I) (J := J) (R := R)  h hQ)
    · rw [ehc_65] at h ⊢; (try rw [ehc_65] at hQ)
      refine az_E.ov (pc' := 45) (L' := [.ref 3, .int (5 : Int32), .int v2, .long v3, .retAddr 0, .retAddr 0]) (S' := [.int v2, .ref (67 + 1)]) (σ' := (97, I, J, R)) (x := .ref 71) (o := az_aa az_F (97, I, J, R) 58 (5 : Int32)) rfl rfl ?_
      exact az_E.forget (L := [.retAddr 0, .retAddr 0, .retAddr 0, .long v3, .retAddr 0, .retAddr 0]) ⟨trivial, trivial, trivial, rfl, trivial, trivial, trivial⟩ (re_X_put_45_67_71 (I := I) (J := J) (R := R)  h hQ)
set_option maxRecDepth 100000 in
set_option maxHeartbeats 4000000 in
theorem re_X_put_45_69_61 {ex : az_X} {I : Nat → Nat → Int32} {J : Nat → Nat → Int64} {R : Nat → Nat → Option Nat} {v3 : Int64} {s1 : Int32} {x : Int32 × (Nat → Nat → Int64)} (h : rs_X_put_45 69 61 I J v3 s1 = some x) {Q : Option Value → az_S → Prop} (hQ : Q (some (.int x.1)) (97, I, x.2, R)) : az_E az_F ex 2 126 45 [.retAddr 0, .retAddr 0, .retAddr 0, .long v3, .retAddr 0, .retAddr 0] [.ref 61, .int s1, .ref (69 + 1)] (97, I, J, R) Q := by
  unfold rs_X_put_45 at h
  refine az_E.sn 1 (pc' := 46) (L' := [.retAddr 0, .retAddr 0, .retAddr 0, .long v3, .retAddr 0, .retAddr 0]) (S' := [.long v3, .ref 61, .int s1, .ref (69 + 1)]) (σ' := (97, I, J, R)) rfl ?_
  cases hx_86 : rs_Sh_lowestBits 61 I v3 with
  | none => rw [hx_86] at h; cases h
  | some x_85 =>
    rw [hx_86] at h
    dsimp only at h
    refine az_E.call (d := 1) (k' := 62) (vs := [.ref 61, .long v3]) (pc' := 49) (S' := [.int s1, .ref (69 + 1)]) (Q1 := fun v s => v = some (.long x_85) ∧ s = (97, I, J, R)) rfl (az_E.deep (by omega) (re_Sh_lowestBits_61 (J := J) (R := R)  hx_86 ⟨rfl, rfl⟩)) (fun v s hq => ?_)
    obtain ⟨rfl, rfl⟩ := hq
    show az_E az_F ex 2 126 49 [.retAddr 0, .retAddr 0, .retAddr 0, .long v3, .retAddr 0, .retAddr 0] [.long x_85, .int s1, .ref (69 + 1)] (97, I, J, R) _
    by_cases hc_87 : s1 < 0 ∨ 60 ≤ s1.toNatClampNeg
    · rw [if_pos hc_87] at h; cases h
    · rw [if_neg hc_87] at h
      refine az_E.o (o := az_sl az_F (97, I, J, R) (69 + 1) s1 x_85) (pc' := 50) (L' := [.retAddr 0, .retAddr 0, .retAddr 0, .long v3, .retAddr 0, .retAddr 0]) (S' := []) (x := (97, I, (az_u J (69 + 1) s1.toNatClampNeg x_85), R)) rfl (if_neg hc_87) ?_
      refine az_E.sn 1 (pc' := 51) (L' := [.retAddr 0, .retAddr 0, .retAddr 0, .long v3, .retAddr 0, .retAddr 0]) (S' := [.int (1 : Int32)]) (σ' := (97, I, (az_u J (69 + 1) s1.toNatClampNeg x_85), R)) rfl ?_
      have h := Option.some.inj h
      subst h
      exact az_E.ret (v := some (.int (1 : Int32))) (σ' := (97, I, (az_u J (69 + 1) s1.toNatClampNeg x_85), R)) rfl hQ
set_option maxRecDepth 100000 in
set_option maxHeartbeats 4000000 in
theorem re_X_put_45_69_63 {ex : az_X} {I : Nat → Nat → Int32} {J : Nat → Nat → Int64} {R : Nat → Nat → Option Nat} {v3 : Int64} {s1 : Int32} {x : Int32 × (Nat → Nat → Int64)} (h : rs_X_put_45 69 63 I J v3 s1 = some x) {Q : Option Value → az_S → Prop} (hQ : Q (some (.int x.1)) (97, I, x.2, R)) : az_E az_F ex 2 126 45 [.retAddr 0, .retAddr 0, .retAddr 0, .long v3, .retAddr 0, .retAddr 0] [.ref 63, .int s1, .ref (69 + 1)] (97, I, J, R) Q := by
  unfold rs_X_put_45 at h
  refine az_E.sn 1 (pc' := 46) (L' := [.retAddr 0, .retAddr 0, .retAddr 0, .long v3, .retAddr 0, .retAddr 0]) (S' := [.long v3, .ref 63, .int s1, .ref (69 + 1)]) (σ' := (97, I, J, R)) rfl ?_
  cases hx_89 : rs_Sh_lowestBits 63 I v3 with
  | none => rw [hx_89] at h; cases h
  | some x_88 =>
    rw [hx_89] at h
    dsimp only at h
    refine az_E.call (d := 1) (k' := 62) (vs := [.ref 63, .long v3]) (pc' := 49) (S' := [.int s1, .ref (69 + 1)]) (Q1 := fun v s => v = some (.long x_88) ∧ s = (97, I, J, R)) rfl (az_E.deep (by omega) (re_Sh_lowestBits_63 (J := J) (R := R)  hx_89 ⟨rfl, rfl⟩)) (fun v s hq => ?_)
    obtain ⟨rfl, rfl⟩ := hq
    show az_E az_F ex 2 126 49 [.retAddr 0, .retAddr 0, .retAddr 0, .long v3, .retAddr 0, .retAddr 0] [.long x_88, .int s1, .ref (69 + 1)] (97, I, J, R) _
    by_cases hc_90 : s1 < 0 ∨ 60 ≤ s1.toNatClampNeg
    · rw [if_pos hc_90] at h; cases h
    · rw [if_neg hc_90] at h
      refine az_E.o (o := az_sl az_F (97, I, J, R) (69 + 1) s1 x_88) (pc' := 50) (L' := [.retAddr 0, .retAddr 0, .retAddr 0, .long v3, .retAddr 0, .retAddr 0]) (S' := []) (x := (97, I, (az_u J (69 + 1) s1.toNatClampNeg x_88), R)) rfl (if_neg hc_90) ?_
      refine az_E.sn 1 (pc' := 51) (L' := [.retAddr 0, .retAddr 0, .retAddr 0, .long v3, .retAddr 0, .retAddr 0]) (S' := [.int (1 : Int32)]) (σ' := (97, I, (az_u J (69 + 1) s1.toNatClampNeg x_88), R)) rfl ?_
      have h := Option.some.inj h
      subst h
      exact az_E.ret (v := some (.int (1 : Int32))) (σ' := (97, I, (az_u J (69 + 1) s1.toNatClampNeg x_88), R)) rfl hQ
set_option maxRecDepth 100000 in
set_option maxHeartbeats 4000000 in
theorem re_X_put_45_69_65 {ex : az_X} {I : Nat → Nat → Int32} {J : Nat → Nat → Int64} {R : Nat → Nat → Option Nat} {v3 : Int64} {s1 : Int32} {x : Int32 × (Nat → Nat → Int64)} (h : rs_X_put_45 69 65 I J v3 s1 = some x) {Q : Option Value → az_S → Prop} (hQ : Q (some (.int x.1)) (97, I, x.2, R)) : az_E az_F ex 2 126 45 [.retAddr 0, .retAddr 0, .retAddr 0, .long v3, .retAddr 0, .retAddr 0] [.ref 65, .int s1, .ref (69 + 1)] (97, I, J, R) Q := by
  unfold rs_X_put_45 at h
  refine az_E.sn 1 (pc' := 46) (L' := [.retAddr 0, .retAddr 0, .retAddr 0, .long v3, .retAddr 0, .retAddr 0]) (S' := [.long v3, .ref 65, .int s1, .ref (69 + 1)]) (σ' := (97, I, J, R)) rfl ?_
  cases hx_92 : rs_Sh_lowestBits 65 I v3 with
  | none => rw [hx_92] at h; cases h
  | some x_91 =>
    rw [hx_92] at h
    dsimp only at h
    refine az_E.call (d := 1) (k' := 62) (vs := [.ref 65, .long v3]) (pc' := 49) (S' := [.int s1, .ref (69 + 1)]) (Q1 := fun v s => v = some (.long x_91) ∧ s = (97, I, J, R)) rfl (az_E.deep (by omega) (re_Sh_lowestBits_65 (J := J) (R := R)  hx_92 ⟨rfl, rfl⟩)) (fun v s hq => ?_)
    obtain ⟨rfl, rfl⟩ := hq
    show az_E az_F ex 2 126 49 [.retAddr 0, .retAddr 0, .retAddr 0, .long v3, .retAddr 0, .retAddr 0] [.long x_91, .int s1, .ref (69 + 1)] (97, I, J, R) _
    by_cases hc_93 : s1 < 0 ∨ 60 ≤ s1.toNatClampNeg
    · rw [if_pos hc_93] at h; cases h
    · rw [if_neg hc_93] at h
      refine az_E.o (o := az_sl az_F (97, I, J, R) (69 + 1) s1 x_91) (pc' := 50) (L' := [.retAddr 0, .retAddr 0, .retAddr 0, .long v3, .retAddr 0, .retAddr 0]) (S' := []) (x := (97, I, (az_u J (69 + 1) s1.toNatClampNeg x_91), R)) rfl (if_neg hc_93) ?_
      refine az_E.sn 1 (pc' := 51) (L' := [.retAddr 0, .retAddr 0, .retAddr 0, .long v3, .retAddr 0, .retAddr 0]) (S' := [.int (1 : Int32)]) (σ' := (97, I, (az_u J (69 + 1) s1.toNatClampNeg x_91), R)) rfl ?_
      have h := Option.some.inj h
      subst h
      exact az_E.ret (v := some (.int (1 : Int32))) (σ' := (97, I, (az_u J (69 + 1) s1.toNatClampNeg x_91), R)) rfl hQ
set_option maxRecDepth 100000 in
set_option maxHeartbeats 4000000 in
theorem re_X_put_45_69_67 {ex : az_X} {I : Nat → Nat → Int32} {J : Nat → Nat → Int64} {R : Nat → Nat → Option Nat} {v3 : Int64} {s1 : Int32} {x : Int32 × (Nat → Nat → Int64)} (h : rs_X_put_45 69 67 I J v3 s1 = some x) {Q : Option Value → az_S → Prop} (hQ : Q (some (.int x.1)) (97, I, x.2, R)) : az_E az_F ex 2 126 45 [.retAddr 0, .retAddr 0, .retAddr 0, .long v3, .retAddr 0, .retAddr 0] [.ref 67, .int s1, .ref (69 + 1)] (97, I, J, R) Q := by
  unfold rs_X_put_45 at h
  refine az_E.sn 1 (pc' := 46) (L' := [.retAddr 0, .retAddr 0, .retAddr 0, .long v3, .retAddr 0, .retAddr 0]) (S' := [.long v3, .ref 67, .int s1, .ref (69 + 1)]) (σ' := (97, I, J, R)) rfl ?_
  cases hx_95 : rs_Sh_lowestBits 67 I v3 with
  | none => rw [hx_95] at h; cases h
  | some x_94 =>
    rw [hx_95] at h
    dsimp only at h
    refine az_E.call (d := 1) (k' := 62) (vs := [.ref 67, .long v3]) (pc' := 49) (S' := [.int s1, .ref (69 + 1)]) (Q1 := fun v s => v = some (.long x_94) ∧ s = (97, I, J, R)) rfl (az_E.deep (by omega) (re_Sh_lowestBits_67 (J := J) (R := R)  hx_95 ⟨rfl, rfl⟩)) (fun v s hq => ?_)
    obtain ⟨rfl, rfl⟩ := hq
    show az_E az_F ex 2 126 49 [.retAddr 0, .retAddr 0, .retAddr 0, .long v3, .retAddr 0, .retAddr 0] [.long x_94, .int s1, .ref (69 + 1)] (97, I, J, R) _
    by_cases hc_96 : s1 < 0 ∨ 60 ≤ s1.toNatClampNeg
    · rw [if_pos hc_96] at h; cases h
    · rw [if_neg hc_96] at h
      refine az_E.o (o := az_sl az_F (97, I, J, R) (69 + 1) s1 x_94) (pc' := 50) (L' := [.retAddr 0, .retAddr 0, .retAddr 0, .long v3, .retAddr 0, .retAddr 0]) (S' := []) (x := (97, I, (az_u J (69 + 1) s1.toNatClampNeg x_94), R)) rfl (if_neg hc_96) ?_
      refine az_E.sn 1 (pc' := 51) (L' := [.retAddr 0, .retAddr 0, .retAddr 0, .long v3, .retAddr 0, .retAddr 0]) (S' := [.int (1 : Int32)]) (σ' := (97, I, (az_u J (69 + 1) s1.toNatClampNeg x_94), R)) rfl ?_
      have h := Option.some.inj h
      subst h
      exact az_E.ret (v := some (.int (1 : Int32))) (σ' := (97, I, (az_u J (69 + 1) s1.toNatClampNeg x_94), R)) rfl hQ
set_option maxRecDepth 100000 in
set_option maxHeartbeats 4000000 in
theorem re_X_put_45_69_69 {ex : az_X} {I : Nat → Nat → Int32} {J : Nat → Nat → Int64} {R : Nat → Nat → Option Nat} {v3 : Int64} {s1 : Int32} {x : Int32 × (Nat → Nat → Int64)} (h : rs_X_put_45 69 69 I J v3 s1 = some x) {Q : Option Value → az_S → Prop} (hQ : Q (some (.int x.1)) (97, I, x.2, R)) : az_E az_F ex 2 126 45 [.retAddr 0, .retAddr 0, .retAddr 0, .long v3, .retAddr 0, .retAddr 0] [.ref 69, .int s1, .ref (69 + 1)] (97, I, J, R) Q := by
  unfold rs_X_put_45 at h
  refine az_E.sn 1 (pc' := 46) (L' := [.retAddr 0, .retAddr 0, .retAddr 0, .long v3, .retAddr 0, .retAddr 0]) (S' := [.long v3, .ref 69, .int s1, .ref (69 + 1)]) (σ' := (97, I, J, R)) rfl ?_
  cases hx_98 : rs_Sh_lowestBits 69 I v3 with
  | none => rw [hx_98] at h; cases h
  | some x_97 =>
    rw [hx_98] at h
    dsimp only at h
    refine az_E.call (d := 1) (k' := 62) (vs := [.ref 69, .long v3]) (pc' := 49) (S' := [.int s1, .ref (69 + 1)]) (Q1 := fun v s => v = some (.long x_97) ∧ s = (97, I, J, R)) rfl (az_E.deep (by omega) (re_Sh_lowestBits_69 (J := J) (R := R)  hx_98 ⟨rfl, rfl⟩)) (fun v s hq => ?_)
    obtain ⟨rfl, rfl⟩ := hq
    show az_E az_F ex 2 126 49 [.retAddr 0, .retAddr 0, .retAddr 0, .long v3, .retAddr 0, .retAddr 0] [.long x_97, .int s1, .ref (69 + 1)] (97, I, J, R) _
    by_cases hc_99 : s1 < 0 ∨ 60 ≤ s1.toNatClampNeg
    · rw [if_pos hc_99] at h; cases h
    · rw [if_neg hc_99] at h
      refine az_E.o (o := az_sl az_F (97, I, J, R) (69 + 1) s1 x_97) (pc' := 50) (L' := [.retAddr 0, .retAddr 0, .retAddr 0, .long v3, .retAddr 0, .retAddr 0]) (S' := []) (x := (97, I, (az_u J (69 + 1) s1.toNatClampNeg x_97), R)) rfl (if_neg hc_99) ?_
      refine az_E.sn 1 (pc' := 51) (L' := [.retAddr 0, .retAddr 0, .retAddr 0, .long v3, .retAddr 0, .retAddr 0]) (S' := [.int (1 : Int32)]) (σ' := (97, I, (az_u J (69 + 1) s1.toNatClampNeg x_97), R)) rfl ?_
      have h := Option.some.inj h
      subst h
      exact az_E.ret (v := some (.int (1 : Int32))) (σ' := (97, I, (az_u J (69 + 1) s1.toNatClampNeg x_97), R)) rfl hQ
set_option maxRecDepth 100000 in
set_option maxHeartbeats 4000000 in
theorem re_X_put_45_69_71 {ex : az_X} {I : Nat → Nat → Int32} {J : Nat → Nat → Int64} {R : Nat → Nat → Option Nat} {v3 : Int64} {s1 : Int32} {x : Int32 × (Nat → Nat → Int64)} (h : rs_X_put_45 69 71 I J v3 s1 = some x) {Q : Option Value → az_S → Prop} (hQ : Q (some (.int x.1)) (97, I, x.2, R)) : az_E az_F ex 2 126 45 [.retAddr 0, .retAddr 0, .retAddr 0, .long v3, .retAddr 0, .retAddr 0] [.ref 71, .int s1, .ref (69 + 1)] (97, I, J, R) Q := by
  unfold rs_X_put_45 at h
  refine az_E.sn 1 (pc' := 46) (L' := [.retAddr 0, .retAddr 0, .retAddr 0, .long v3, .retAddr 0, .retAddr 0]) (S' := [.long v3, .ref 71, .int s1, .ref (69 + 1)]) (σ' := (97, I, J, R)) rfl ?_
  cases hx_101 : rs_Sh_lowestBits 71 I v3 with
  | none => rw [hx_101] at h; cases h
  | some x_100 =>
    rw [hx_101] at h
    dsimp only at h
    refine az_E.call (d := 1) (k' := 62) (vs := [.ref 71, .long v3]) (pc' := 49) (S' := [.int s1, .ref (69 + 1)]) (Q1 := fun v s => v = some (.long x_100) ∧ s = (97, I, J, R)) rfl (az_E.deep (by omega) (re_Sh_lowestBits_71 (J := J) (R := R)  hx_101 ⟨rfl, rfl⟩)) (fun v s hq => ?_)
    obtain ⟨rfl, rfl⟩ := hq
    show az_E az_F ex 2 126 49 [.retAddr 0, .retAddr 0, .retAddr 0, .long v3, .retAddr 0, .retAddr 0] [.long x_100, .int s1, .ref (69 + 1)] (97, I, J, R) _
    by_cases hc_102 : s1 < 0 ∨ 60 ≤ s1.toNatClampNeg
    · rw [if_pos hc_102] at h; cases h
    · rw [if_neg hc_102] at h
      refine az_E.o (o := az_sl az_F (97, I, J, R) (69 + 1) s1 x_100) (pc' := 50) (L' := [.retAddr 0, .retAddr 0, .retAddr 0, .long v3, .retAddr 0, .retAddr 0]) (S' := []) (x := (97, I, (az_u J (69 + 1) s1.toNatClampNeg x_100), R)) rfl (if_neg hc_102) ?_
      refine az_E.sn 1 (pc' := 51) (L' := [.retAddr 0, .retAddr 0, .retAddr 0, .long v3, .retAddr 0, .retAddr 0]) (S' := [.int (1 : Int32)]) (σ' := (97, I, (az_u J (69 + 1) s1.toNatClampNeg x_100), R)) rfl ?_
      have h := Option.some.inj h
      subst h
      exact az_E.ret (v := some (.int (1 : Int32))) (σ' := (97, I, (az_u J (69 + 1) s1.toNatClampNeg x_100), R)) rfl hQ
set_option maxRecDepth 100000 in
set_option maxHeartbeats 4000000 in
theorem re_X_put_35_69 {ex : az_X} {I : Nat → Nat → Int32} {J : Nat → Nat → Int64} {R : Nat → Nat → Option Nat} {v1 : Int32} {v2 : Int32} {v3 : Int64} {x : Int32 × (Nat → Nat → Int64)} (h : rs_X_put_35 69 I J v1 v2 v3 = some x) {Q : Option Value → az_S → Prop} (hQ : Q (some (.int x.1)) (97, I, x.2, R)) : az_E az_F ex 2 126 35 [.ref 3, .int v1, .int v2, .long v3, .retAddr 0, .retAddr 0] [.ref 69] (97, I, J, R) Q := by
  unfold rs_X_put_35 at h
  refine az_E.sn 5 (pc' := 44) (L' := [.ref 3, .int v1, .int v2, .long v3, .retAddr 0, .retAddr 0]) (S' := [.int v1, .ref 58, .int v2, .ref (69 + 1)]) (σ' := (97, I, J, R)) rfl ?_
  by_cases hc_84 : v1 < 0 ∨ 6 ≤ v1.toNatClampNeg
  · rw [if_pos hc_84] at h; cases h
  · rw [if_neg hc_84] at h
    rcases az_six hc_84 with ehc_84 | ehc_84 | ehc_84 | ehc_84 | ehc_84 | ehc_84
    · rw [ehc_84] at h ⊢; (try rw [ehc_84] at hQ)
      refine az_E.ov (pc' := 45) (L' := [.ref 3, .int (0 : Int32), .int v2, .long v3, .retAddr 0, .retAddr 0]) (S' := [.int v2, .ref (69 + 1)]) (σ' := (97, I, J, R)) (x := .ref 61) (o := az_aa az_F (97, I, J, R) 58 (0 : Int32)) rfl rfl ?_
      exact az_E.forget (L := [.retAddr 0, .retAddr 0, .retAddr 0, .long v3, .retAddr 0, .retAddr 0]) ⟨trivial, trivial, trivial, rfl, trivial, trivial, trivial⟩ (re_X_put_45_69_61 (I := I) (J := J) (R := R)  h hQ)
    · rw [ehc_84] at h ⊢; (try rw [ehc_84] at hQ)
      refine az_E.ov (pc' := 45) (L' := [.ref 3, .int (1 : Int32), .int v2, .long v3, .retAddr 0, .retAddr 0]) (S' := [.int v2, .ref (69 + 1)]) (σ' := (97, I, J, R)) (x := .ref 63) (o := az_aa az_F (97, I, J, R) 58 (1 : Int32)) rfl rfl ?_
      exact az_E.forget (L := [.retAddr 0, .retAddr 0, .retAddr 0, .long v3, .retAddr 0, .retAddr 0]) ⟨trivial, trivial, trivial, rfl, trivial, trivial, trivial⟩ (re_X_put_45_69_63 (I := I) (J := J) (R := R)  h hQ)
    · rw [ehc_84] at h ⊢; (try rw [ehc_84] at hQ)
      refine az_E.ov (pc' := 45) (L' := [.ref 3, .int (2 : Int32), .int v2, .long v3, .retAddr 0, .retAddr 0]) (S' := [.int v2, .ref (69 + 1)]) (σ' := (97, I, J, R)) (x := .ref 65) (o := az_aa az_F (97, I, J, R) 58 (2 : Int32)) rfl rfl ?_
      exact az_E.forget (L := [.retAddr 0, .retAddr 0, .retAddr 0, .long v3, .retAddr 0, .retAddr 0]) ⟨trivial, trivial, trivial, rfl, trivial, trivial, trivial⟩ (re_X_put_45_69_65 (I := I) (J := J) (R := R)  h hQ)
    · rw [ehc_84] at h ⊢; (try rw [ehc_84] at hQ)
      refine az_E.ov (pc' := 45) (L' := [.ref 3, .int (3 : Int32), .int v2, .long v3, .retAddr 0, .retAddr 0]) (S' := [.int v2, .ref (69 + 1)]) (σ' := (97, I, J, R)) (x := .ref 67) (o := az_aa az_F (97, I, J, R) 58 (3 : Int32)) rfl rfl ?_
      exact az_E.forget (L := [.retAddr 0, .retAddr 0, .retAddr 0, .long v3, .retAddr 0, .retAddr 0]) ⟨trivial, trivial, trivial, rfl, trivial, trivial, trivial⟩ (re_X_put_45_69_67 (I := I) (J := J) (R := R)  h hQ)
    · rw [ehc_84] at h ⊢; (try rw [ehc_84] at hQ)
      refine az_E.ov (pc' := 45) (L' := [.ref 3, .int (4 : Int32), .int v2, .long v3, .retAddr 0, .retAddr 0]) (S' := [.int v2, .ref (69 + 1)]) (σ' := (97, I, J, R)) (x := .ref 69) (o := az_aa az_F (97, I, J, R) 58 (4 : Int32)) rfl rfl ?_
      exact az_E.forget (L := [.retAddr 0, .retAddr 0, .retAddr 0, .long v3, .retAddr 0, .retAddr 0]) ⟨trivial, trivial, trivial, rfl, trivial, trivial, trivial⟩ (re_X_put_45_69_69 (I := I) (J := J) (R := R)  h hQ)
    · rw [ehc_84] at h ⊢; (try rw [ehc_84] at hQ)
      refine az_E.ov (pc' := 45) (L' := [.ref 3, .int (5 : Int32), .int v2, .long v3, .retAddr 0, .retAddr 0]) (S' := [.int v2, .ref (69 + 1)]) (σ' := (97, I, J, R)) (x := .ref 71) (o := az_aa az_F (97, I, J, R) 58 (5 : Int32)) rfl rfl ?_
      exact az_E.forget (L := [.retAddr 0, .retAddr 0, .retAddr 0, .long v3, .retAddr 0, .retAddr 0]) ⟨trivial, trivial, trivial, rfl, trivial, trivial, trivial⟩ (re_X_put_45_69_71 (I := I) (J := J) (R := R)  h hQ)
set_option maxRecDepth 100000 in
set_option maxHeartbeats 4000000 in
theorem re_X_put_45_71_61 {ex : az_X} {I : Nat → Nat → Int32} {J : Nat → Nat → Int64} {R : Nat → Nat → Option Nat} {v3 : Int64} {s1 : Int32} {x : Int32 × (Nat → Nat → Int64)} (h : rs_X_put_45 71 61 I J v3 s1 = some x) {Q : Option Value → az_S → Prop} (hQ : Q (some (.int x.1)) (97, I, x.2, R)) : az_E az_F ex 2 126 45 [.retAddr 0, .retAddr 0, .retAddr 0, .long v3, .retAddr 0, .retAddr 0] [.ref 61, .int s1, .ref (71 + 1)] (97, I, J, R) Q := by
  unfold rs_X_put_45 at h
  refine az_E.sn 1 (pc' := 46) (L' := [.retAddr 0, .retAddr 0, .retAddr 0, .long v3, .retAddr 0, .retAddr 0]) (S' := [.long v3, .ref 61, .int s1, .ref (71 + 1)]) (σ' := (97, I, J, R)) rfl ?_
  cases hx_105 : rs_Sh_lowestBits 61 I v3 with
  | none => rw [hx_105] at h; cases h
  | some x_104 =>
    rw [hx_105] at h
    dsimp only at h
    refine az_E.call (d := 1) (k' := 62) (vs := [.ref 61, .long v3]) (pc' := 49) (S' := [.int s1, .ref (71 + 1)]) (Q1 := fun v s => v = some (.long x_104) ∧ s = (97, I, J, R)) rfl (az_E.deep (by omega) (re_Sh_lowestBits_61 (J := J) (R := R)  hx_105 ⟨rfl, rfl⟩)) (fun v s hq => ?_)
    obtain ⟨rfl, rfl⟩ := hq
    show az_E az_F ex 2 126 49 [.retAddr 0, .retAddr 0, .retAddr 0, .long v3, .retAddr 0, .retAddr 0] [.long x_104, .int s1, .ref (71 + 1)] (97, I, J, R) _
    by_cases hc_106 : s1 < 0 ∨ 60 ≤ s1.toNatClampNeg
    · rw [if_pos hc_106] at h; cases h
    · rw [if_neg hc_106] at h
      refine az_E.o (o := az_sl az_F (97, I, J, R) (71 + 1) s1 x_104) (pc' := 50) (L' := [.retAddr 0, .retAddr 0, .retAddr 0, .long v3, .retAddr 0, .retAddr 0]) (S' := []) (x := (97, I, (az_u J (71 + 1) s1.toNatClampNeg x_104), R)) rfl (if_neg hc_106) ?_
      refine az_E.sn 1 (pc' := 51) (L' := [.retAddr 0, .retAddr 0, .retAddr 0, .long v3, .retAddr 0, .retAddr 0]) (S' := [.int (1 : Int32)]) (σ' := (97, I, (az_u J (71 + 1) s1.toNatClampNeg x_104), R)) rfl ?_
      have h := Option.some.inj h
      subst h
      exact az_E.ret (v := some (.int (1 : Int32))) (σ' := (97, I, (az_u J (71 + 1) s1.toNatClampNeg x_104), R)) rfl hQ
set_option maxRecDepth 100000 in
set_option maxHeartbeats 4000000 in
theorem re_X_put_45_71_63 {ex : az_X} {I : Nat → Nat → Int32} {J : Nat → Nat → Int64} {R : Nat → Nat → Option Nat} {v3 : Int64} {s1 : Int32} {x : Int32 × (Nat → Nat → Int64)} (h : rs_X_put_45 71 63 I J v3 s1 = some x) {Q : Option Value → az_S → Prop} (hQ : Q (some (.int x.1)) (97, I, x.2, R)) : az_E az_F ex 2 126 45 [.retAddr 0, .retAddr 0, .retAddr 0, .long v3, .retAddr 0, .retAddr 0] [.ref 63, .int s1, .ref (71 + 1)] (97, I, J, R) Q := by
  unfold rs_X_put_45 at h
  refine az_E.sn 1 (pc' := 46) (L' := [.retAddr 0, .retAddr 0, .retAddr 0, .long v3, .retAddr 0, .retAddr 0]) (S' := [.long v3, .ref 63, .int s1, .ref (71 + 1)]) (σ' := (97, I, J, R)) rfl ?_
  cases hx_108 : rs_Sh_lowestBits 63 I v3 with
  | none => rw [hx_108] at h; cases h
  | some x_107 =>
    rw [hx_108] at h
    dsimp only at h
    refine az_E.call (d := 1) (k' := 62) (vs := [.ref 63, .long v3]) (pc' := 49) (S' := [.int s1, .ref (71 + 1)]) (Q1 := fun v s => v = some (.long x_107) ∧ s = (97, I, J, R)) rfl (az_E.deep (by omega) (re_Sh_lowestBits_63 (J := J) (R := R)  hx_108 ⟨rfl, rfl⟩)) (fun v s hq => ?_)
    obtain ⟨rfl, rfl⟩ := hq
    show az_E az_F ex 2 126 49 [.retAddr 0, .retAddr 0, .retAddr 0, .long v3, .retAddr 0, .retAddr 0] [.long x_107, .int s1, .ref (71 + 1)] (97, I, J, R) _
    by_cases hc_109 : s1 < 0 ∨ 60 ≤ s1.toNatClampNeg
    · rw [if_pos hc_109] at h; cases h
    · rw [if_neg hc_109] at h
      refine az_E.o (o := az_sl az_F (97, I, J, R) (71 + 1) s1 x_107) (pc' := 50) (L' := [.retAddr 0, .retAddr 0, .retAddr 0, .long v3, .retAddr 0, .retAddr 0]) (S' := []) (x := (97, I, (az_u J (71 + 1) s1.toNatClampNeg x_107), R)) rfl (if_neg hc_109) ?_
      refine az_E.sn 1 (pc' := 51) (L' := [.retAddr 0, .retAddr 0, .retAddr 0, .long v3, .retAddr 0, .retAddr 0]) (S' := [.int (1 : Int32)]) (σ' := (97, I, (az_u J (71 + 1) s1.toNatClampNeg x_107), R)) rfl ?_
      have h := Option.some.inj h
      subst h
      exact az_E.ret (v := some (.int (1 : Int32))) (σ' := (97, I, (az_u J (71 + 1) s1.toNatClampNeg x_107), R)) rfl hQ
set_option maxRecDepth 100000 in
set_option maxHeartbeats 4000000 in
theorem re_X_put_45_71_65 {ex : az_X} {I : Nat → Nat → Int32} {J : Nat → Nat → Int64} {R : Nat → Nat → Option Nat} {v3 : Int64} {s1 : Int32} {x : Int32 × (Nat → Nat → Int64)} (h : rs_X_put_45 71 65 I J v3 s1 = some x) {Q : Option Value → az_S → Prop} (hQ : Q (some (.int x.1)) (97, I, x.2, R)) : az_E az_F ex 2 126 45 [.retAddr 0, .retAddr 0, .retAddr 0, .long v3, .retAddr 0, .retAddr 0] [.ref 65, .int s1, .ref (71 + 1)] (97, I, J, R) Q := by
  unfold rs_X_put_45 at h
  refine az_E.sn 1 (pc' := 46) (L' := [.retAddr 0, .retAddr 0, .retAddr 0, .long v3, .retAddr 0, .retAddr 0]) (S' := [.long v3, .ref 65, .int s1, .ref (71 + 1)]) (σ' := (97, I, J, R)) rfl ?_
  cases hx_111 : rs_Sh_lowestBits 65 I v3 with
  | none => rw [hx_111] at h; cases h
  | some x_110 =>
    rw [hx_111] at h
    dsimp only at h
    refine az_E.call (d := 1) (k' := 62) (vs := [.ref 65, .long v3]) (pc' := 49) (S' := [.int s1, .ref (71 + 1)]) (Q1 := fun v s => v = some (.long x_110) ∧ s = (97, I, J, R)) rfl (az_E.deep (by omega) (re_Sh_lowestBits_65 (J := J) (R := R)  hx_111 ⟨rfl, rfl⟩)) (fun v s hq => ?_)
    obtain ⟨rfl, rfl⟩ := hq
    show az_E az_F ex 2 126 49 [.retAddr 0, .retAddr 0, .retAddr 0, .long v3, .retAddr 0, .retAddr 0] [.long x_110, .int s1, .ref (71 + 1)] (97, I, J, R) _
    by_cases hc_112 : s1 < 0 ∨ 60 ≤ s1.toNatClampNeg
    · rw [if_pos hc_112] at h; cases h
    · rw [if_neg hc_112] at h
      refine az_E.o (o := az_sl az_F (97, I, J, R) (71 + 1) s1 x_110) (pc' := 50) (L' := [.retAddr 0, .retAddr 0, .retAddr 0, .long v3, .retAddr 0, .retAddr 0]) (S' := []) (x := (97, I, (az_u J (71 + 1) s1.toNatClampNeg x_110), R)) rfl (if_neg hc_112) ?_
      refine az_E.sn 1 (pc' := 51) (L' := [.retAddr 0, .retAddr 0, .retAddr 0, .long v3, .retAddr 0, .retAddr 0]) (S' := [.int (1 : Int32)]) (σ' := (97, I, (az_u J (71 + 1) s1.toNatClampNeg x_110), R)) rfl ?_
      have h := Option.some.inj h
      subst h
      exact az_E.ret (v := some (.int (1 : Int32))) (σ' := (97, I, (az_u J (71 + 1) s1.toNatClampNeg x_110), R)) rfl hQ
set_option maxRecDepth 100000 in
set_option maxHeartbeats 4000000 in
theorem re_X_put_45_71_67 {ex : az_X} {I : Nat → Nat → Int32} {J : Nat → Nat → Int64} {R : Nat → Nat → Option Nat} {v3 : Int64} {s1 : Int32} {x : Int32 × (Nat → Nat → Int64)} (h : rs_X_put_45 71 67 I J v3 s1 = some x) {Q : Option Value → az_S → Prop} (hQ : Q (some (.int x.1)) (97, I, x.2, R)) : az_E az_F ex 2 126 45 [.retAddr 0, .retAddr 0, .retAddr 0, .long v3, .retAddr 0, .retAddr 0] [.ref 67, .int s1, .ref (71 + 1)] (97, I, J, R) Q := by
  unfold rs_X_put_45 at h
  refine az_E.sn 1 (pc' := 46) (L' := [.retAddr 0, .retAddr 0, .retAddr 0, .long v3, .retAddr 0, .retAddr 0]) (S' := [.long v3, .ref 67, .int s1, .ref (71 + 1)]) (σ' := (97, I, J, R)) rfl ?_
  cases hx_114 : rs_Sh_lowestBits 67 I v3 with
  | none => rw [hx_114] at h; cases h
  | some x_113 =>
    rw [hx_114] at h
    dsimp only at h
    refine az_E.call (d := 1) (k' := 62) (vs := [.ref 67, .long v3]) (pc' := 49) (S' := [.int s1, .ref (71 + 1)]) (Q1 := fun v s => v = some (.long x_113) ∧ s = (97, I, J, R)) rfl (az_E.deep (by omega) (re_Sh_lowestBits_67 (J := J) (R := R)  hx_114 ⟨rfl, rfl⟩)) (fun v s hq => ?_)
    obtain ⟨rfl, rfl⟩ := hq
    show az_E az_F ex 2 126 49 [.retAddr 0, .retAddr 0, .retAddr 0, .long v3, .retAddr 0, .retAddr 0] [.long x_113, .int s1, .ref (71 + 1)] (97, I, J, R) _
    by_cases hc_115 : s1 < 0 ∨ 60 ≤ s1.toNatClampNeg
    · rw [if_pos hc_115] at h; cases h
    · rw [if_neg hc_115] at h
      refine az_E.o (o := az_sl az_F (97, I, J, R) (71 + 1) s1 x_113) (pc' := 50) (L' := [.retAddr 0, .retAddr 0, .retAddr 0, .long v3, .retAddr 0, .retAddr 0]) (S' := []) (x := (97, I, (az_u J (71 + 1) s1.toNatClampNeg x_113), R)) rfl (if_neg hc_115) ?_
      refine az_E.sn 1 (pc' := 51) (L' := [.retAddr 0, .retAddr 0, .retAddr 0, .long v3, .retAddr 0, .retAddr 0]) (S' := [.int (1 : Int32)]) (σ' := (97, I, (az_u J (71 + 1) s1.toNatClampNeg x_113), R)) rfl ?_
      have h := Option.some.inj h
      subst h
      exact az_E.ret (v := some (.int (1 : Int32))) (σ' := (97, I, (az_u J (71 + 1) s1.toNatClampNeg x_113), R)) rfl hQ
set_option maxRecDepth 100000 in
set_option maxHeartbeats 4000000 in
theorem re_X_put_45_71_69 {ex : az_X} {I : Nat → Nat → Int32} {J : Nat → Nat → Int64} {R : Nat → Nat → Option Nat} {v3 : Int64} {s1 : Int32} {x : Int32 × (Nat → Nat → Int64)} (h : rs_X_put_45 71 69 I J v3 s1 = some x) {Q : Option Value → az_S → Prop} (hQ : Q (some (.int x.1)) (97, I, x.2, R)) : az_E az_F ex 2 126 45 [.retAddr 0, .retAddr 0, .retAddr 0, .long v3, .retAddr 0, .retAddr 0] [.ref 69, .int s1, .ref (71 + 1)] (97, I, J, R) Q := by
  unfold rs_X_put_45 at h
  refine az_E.sn 1 (pc' := 46) (L' := [.retAddr 0, .retAddr 0, .retAddr 0, .long v3, .retAddr 0, .retAddr 0]) (S' := [.long v3, .ref 69, .int s1, .ref (71 + 1)]) (σ' := (97, I, J, R)) rfl ?_
  cases hx_117 : rs_Sh_lowestBits 69 I v3 with
  | none => rw [hx_117] at h; cases h
  | some x_116 =>
    rw [hx_117] at h
    dsimp only at h
    refine az_E.call (d := 1) (k' := 62) (vs := [.ref 69, .long v3]) (pc' := 49) (S' := [.int s1, .ref (71 + 1)]) (Q1 := fun v s => v = some (.long x_116) ∧ s = (97, I, J, R)) rfl (az_E.deep (by omega) (re_Sh_lowestBits_69 (J := J) (R := R)  hx_117 ⟨rfl, rfl⟩)) (fun v s hq => ?_)
    obtain ⟨rfl, rfl⟩ := hq
    show az_E az_F ex 2 126 49 [.retAddr 0, .retAddr 0, .retAddr 0, .long v3, .retAddr 0, .retAddr 0] [.long x_116, .int s1, .ref (71 + 1)] (97, I, J, R) _
    by_cases hc_118 : s1 < 0 ∨ 60 ≤ s1.toNatClampNeg
    · rw [if_pos hc_118] at h; cases h
    · rw [if_neg hc_118] at h
      refine az_E.o (o := az_sl az_F (97, I, J, R) (71 + 1) s1 x_116) (pc' := 50) (L' := [.retAddr 0, .retAddr 0, .retAddr 0, .long v3, .retAddr 0, .retAddr 0]) (S' := []) (x := (97, I, (az_u J (71 + 1) s1.toNatClampNeg x_116), R)) rfl (if_neg hc_118) ?_
      refine az_E.sn 1 (pc' := 51) (L' := [.retAddr 0, .retAddr 0, .retAddr 0, .long v3, .retAddr 0, .retAddr 0]) (S' := [.int (1 : Int32)]) (σ' := (97, I, (az_u J (71 + 1) s1.toNatClampNeg x_116), R)) rfl ?_
      have h := Option.some.inj h
      subst h
      exact az_E.ret (v := some (.int (1 : Int32))) (σ' := (97, I, (az_u J (71 + 1) s1.toNatClampNeg x_116), R)) rfl hQ
set_option maxRecDepth 100000 in
set_option maxHeartbeats 4000000 in
theorem re_X_put_45_71_71 {ex : az_X} {I : Nat → Nat → Int32} {J : Nat → Nat → Int64} {R : Nat → Nat → Option Nat} {v3 : Int64} {s1 : Int32} {x : Int32 × (Nat → Nat → Int64)} (h : rs_X_put_45 71 71 I J v3 s1 = some x) {Q : Option Value → az_S → Prop} (hQ : Q (some (.int x.1)) (97, I, x.2, R)) : az_E az_F ex 2 126 45 [.retAddr 0, .retAddr 0, .retAddr 0, .long v3, .retAddr 0, .retAddr 0] [.ref 71, .int s1, .ref (71 + 1)] (97, I, J, R) Q := by
  unfold rs_X_put_45 at h
  refine az_E.sn 1 (pc' := 46) (L' := [.retAddr 0, .retAddr 0, .retAddr 0, .long v3, .retAddr 0, .retAddr 0]) (S' := [.long v3, .ref 71, .int s1, .ref (71 + 1)]) (σ' := (97, I, J, R)) rfl ?_
  cases hx_120 : rs_Sh_lowestBits 71 I v3 with
  | none => rw [hx_120] at h; cases h
  | some x_119 =>
    rw [hx_120] at h
    dsimp only at h
    refine az_E.call (d := 1) (k' := 62) (vs := [.ref 71, .long v3]) (pc' := 49) (S' := [.int s1, .ref (71 + 1)]) (Q1 := fun v s => v = some (.long x_119) ∧ s = (97, I, J, R)) rfl (az_E.deep (by omega) (re_Sh_lowestBits_71 (J := J) (R := R)  hx_120 ⟨rfl, rfl⟩)) (fun v s hq => ?_)
    obtain ⟨rfl, rfl⟩ := hq
    show az_E az_F ex 2 126 49 [.retAddr 0, .retAddr 0, .retAddr 0, .long v3, .retAddr 0, .retAddr 0] [.long x_119, .int s1, .ref (71 + 1)] (97, I, J, R) _
    by_cases hc_121 : s1 < 0 ∨ 60 ≤ s1.toNatClampNeg
    · rw [if_pos hc_121] at h; cases h
    · rw [if_neg hc_121] at h
      refine az_E.o (o := az_sl az_F (97, I, J, R) (71 + 1) s1 x_119) (pc' := 50) (L' := [.retAddr 0, .retAddr 0, .retAddr 0, .long v3, .retAddr 0, .retAddr 0]) (S' := []) (x := (97, I, (az_u J (71 + 1) s1.toNatClampNeg x_119), R)) rfl (if_neg hc_121) ?_
      refine az_E.sn 1 (pc' := 51) (L' := [.retAddr 0, .retAddr 0, .retAddr 0, .long v3, .retAddr 0, .retAddr 0]) (S' := [.int (1 : Int32)]) (σ' := (97, I, (az_u J (71 + 1) s1.toNatClampNeg x_119), R)) rfl ?_
      have h := Option.some.inj h
      subst h
      exact az_E.ret (v := some (.int (1 : Int32))) (σ' := (97, I, (az_u J (71 + 1) s1.toNatClampNeg x_119), R)) rfl hQ
set_option maxRecDepth 100000 in
set_option maxHeartbeats 4000000 in
theorem re_X_put_35_71 {ex : az_X} {I : Nat → Nat → Int32} {J : Nat → Nat → Int64} {R : Nat → Nat → Option Nat} {v1 : Int32} {v2 : Int32} {v3 : Int64} {x : Int32 × (Nat → Nat → Int64)} (h : rs_X_put_35 71 I J v1 v2 v3 = some x) {Q : Option Value → az_S → Prop} (hQ : Q (some (.int x.1)) (97, I, x.2, R)) : az_E az_F ex 2 126 35 [.ref 3, .int v1, .int v2, .long v3, .retAddr 0, .retAddr 0] [.ref 71] (97, I, J, R) Q := by
  unfold rs_X_put_35 at h
  refine az_E.sn 5 (pc' := 44) (L' := [.ref 3, .int v1, .int v2, .long v3, .retAddr 0, .retAddr 0]) (S' := [.int v1, .ref 58, .int v2, .ref (71 + 1)]) (σ' := (97, I, J, R)) rfl ?_
  by_cases hc_103 : v1 < 0 ∨ 6 ≤ v1.toNatClampNeg
  · rw [if_pos hc_103] at h; cases h
  · rw [if_neg hc_103] at h
    rcases az_six hc_103 with ehc_103 | ehc_103 | ehc_103 | ehc_103 | ehc_103 | ehc_103
    · rw [ehc_103] at h ⊢; (try rw [ehc_103] at hQ)
      refine az_E.ov (pc' := 45) (L' := [.ref 3, .int (0 : Int32), .int v2, .long v3, .retAddr 0, .retAddr 0]) (S' := [.int v2, .ref (71 + 1)]) (σ' := (97, I, J, R)) (x := .ref 61) (o := az_aa az_F (97, I, J, R) 58 (0 : Int32)) rfl rfl ?_
      exact az_E.forget (L := [.retAddr 0, .retAddr 0, .retAddr 0, .long v3, .retAddr 0, .retAddr 0]) ⟨trivial, trivial, trivial, rfl, trivial, trivial, trivial⟩ (re_X_put_45_71_61 (I := I) (J := J) (R := R)  h hQ)
    · rw [ehc_103] at h ⊢; (try rw [ehc_103] at hQ)
      refine az_E.ov (pc' := 45) (L' := [.ref 3, .int (1 : Int32), .int v2, .long v3, .retAddr 0, .retAddr 0]) (S' := [.int v2, .ref (71 + 1)]) (σ' := (97, I, J, R)) (x := .ref 63) (o := az_aa az_F (97, I, J, R) 58 (1 : Int32)) rfl rfl ?_
      exact az_E.forget (L := [.retAddr 0, .retAddr 0, .retAddr 0, .long v3, .retAddr 0, .retAddr 0]) ⟨trivial, trivial, trivial, rfl, trivial, trivial, trivial⟩ (re_X_put_45_71_63 (I := I) (J := J) (R := R)  h hQ)
    · rw [ehc_103] at h ⊢; (try rw [ehc_103] at hQ)
      refine az_E.ov (pc' := 45) (L' := [.ref 3, .int (2 : Int32), .int v2, .long v3, .retAddr 0, .retAddr 0]) (S' := [.int v2, .ref (71 + 1)]) (σ' := (97, I, J, R)) (x := .ref 65) (o := az_aa az_F (97, I, J, R) 58 (2 : Int32)) rfl rfl ?_
      exact az_E.forget (L := [.retAddr 0, .retAddr 0, .retAddr 0, .long v3, .retAddr 0, .retAddr 0]) ⟨trivial, trivial, trivial, rfl, trivial, trivial, trivial⟩ (re_X_put_45_71_65 (I := I) (J := J) (R := R)  h hQ)
    · rw [ehc_103] at h ⊢; (try rw [ehc_103] at hQ)
      refine az_E.ov (pc' := 45) (L' := [.ref 3, .int (3 : Int32), .int v2, .long v3, .retAddr 0, .retAddr 0]) (S' := [.int v2, .ref (71 + 1)]) (σ' := (97, I, J, R)) (x := .ref 67) (o := az_aa az_F (97, I, J, R) 58 (3 : Int32)) rfl rfl ?_
      exact az_E.forget (L := [.retAddr 0, .retAddr 0, .retAddr 0, .long v3, .retAddr 0, .retAddr 0]) ⟨trivial, trivial, trivial, rfl, trivial, trivial, trivial⟩ (re_X_put_45_71_67 (I := I) (J := J) (R := R)  h hQ)
    · rw [ehc_103] at h ⊢; (try rw [ehc_103] at hQ)
      refine az_E.ov (pc' := 45) (L' := [.ref 3, .int (4 : Int32), .int v2, .long v3, .retAddr 0, .retAddr 0]) (S' := [.int v2, .ref (71 + 1)]) (σ' := (97, I, J, R)) (x := .ref 69) (o := az_aa az_F (97, I, J, R) 58 (4 : Int32)) rfl rfl ?_
      exact az_E.forget (L := [.retAddr 0, .retAddr 0, .retAddr 0, .long v3, .retAddr 0, .retAddr 0]) ⟨trivial, trivial, trivial, rfl, trivial, trivial, trivial⟩ (re_X_put_45_71_69 (I := I) (J := J) (R := R)  h hQ)
    · rw [ehc_103] at h ⊢; (try rw [ehc_103] at hQ)
      refine az_E.ov (pc' := 45) (L' := [.ref 3, .int (5 : Int32), .int v2, .long v3, .retAddr 0, .retAddr 0]) (S' := [.int v2, .ref (71 + 1)]) (σ' := (97, I, J, R)) (x := .ref 71) (o := az_aa az_F (97, I, J, R) 58 (5 : Int32)) rfl rfl ?_
      exact az_E.forget (L := [.retAddr 0, .retAddr 0, .retAddr 0, .long v3, .retAddr 0, .retAddr 0]) ⟨trivial, trivial, trivial, rfl, trivial, trivial, trivial⟩ (re_X_put_45_71_71 (I := I) (J := J) (R := R)  h hQ)
set_option maxRecDepth 100000 in
set_option maxHeartbeats 4000000 in
theorem re_X_put_15_61 {ex : az_X} {I : Nat → Nat → Int32} {J : Nat → Nat → Int64} {R : Nat → Nat → Option Nat} {v1 : Int32} {v2 : Int32} {v3 : Int64} {x : Int32 × (Nat → Nat → Int64)} (h : rs_X_put_15 61 I J v1 v2 v3 = some x) {Q : Option Value → az_S → Prop} (hQ : Q (some (.int x.1)) (97, I, x.2, R)) : az_E az_F ex 2 126 15 [.ref 3, .int v1, .int v2, .long v3, .retAddr 0, .retAddr 0] [.ref 61] (97, I, J, R) Q := by
  unfold rs_X_put_15 at h
  refine az_E.sn 1 (pc' := 16) (L' := [.ref 3, .int v1, .int v2, .long v3, .retAddr 0, .retAddr 0]) (S' := [.int v2, .ref 61]) (σ' := (97, I, J, R)) rfl ?_
  cases hx_5 : rs_Sh_refusalAt 61 I v2 with
  | none => rw [hx_5] at h; cases h
  | some x_4 =>
    rw [hx_5] at h
    dsimp only at h
    refine az_E.call (d := 1) (k' := 61) (vs := [.ref 61, .int v2]) (pc' := 19) (S' := []) (Q1 := fun v s => v = some (.int x_4) ∧ s = (97, I, J, R)) rfl (az_E.deep (by omega) (re_Sh_refusalAt_61 (J := J) (R := R)  hx_5 ⟨rfl, rfl⟩)) (fun v s hq => ?_)
    obtain ⟨rfl, rfl⟩ := hq
    show az_E az_F ex 2 126 19 [.ref 3, .int v1, .int v2, .long v3, .retAddr 0, .retAddr 0] [.int x_4] (97, I, J, R) _
    refine az_E.sn 2 (pc' := 23) (L' := [.ref 3, .int v1, .int v2, .long v3, .retAddr 0, .int x_4]) (S' := [.int x_4]) (σ' := (97, I, J, R)) rfl ?_
    refine az_E.br (c := x_4 = 0) (tt := 29) (ff := 26) (L' := [.ref 3, .int v1, .int v2, .long v3, .retAddr 0, .int x_4]) (S' := []) (σ' := (97, I, J, R)) rfl (fun hc_6 => ?_) (fun hc_6 => ?_)
    · rw [if_pos hc_6] at h
      refine az_E.sn 3 (pc' := 34) (L' := [.ref 3, .int v1, .int v2, .long v3, .retAddr 0, .int x_4]) (S' := [.int v1, .ref 58]) (σ' := (97, I, J, R)) rfl ?_
      by_cases hc_7 : v1 < 0 ∨ 6 ≤ v1.toNatClampNeg
      · rw [if_pos hc_7] at h; cases h
      · rw [if_neg hc_7] at h
        rcases az_six hc_7 with ehc_7 | ehc_7 | ehc_7 | ehc_7 | ehc_7 | ehc_7
        · rw [ehc_7] at h ⊢; (try rw [ehc_7] at hQ)
          refine az_E.ov (pc' := 35) (L' := [.ref 3, .int (0 : Int32), .int v2, .long v3, .retAddr 0, .int x_4]) (S' := []) (σ' := (97, I, J, R)) (x := .ref 61) (o := az_aa az_F (97, I, J, R) 58 (0 : Int32)) rfl rfl ?_
          exact az_E.forget (L := [.ref 3, .int (0 : Int32), .int v2, .long v3, .retAddr 0, .retAddr 0]) ⟨rfl, rfl, rfl, rfl, trivial, trivial, trivial⟩ (re_X_put_35_61 (I := I) (J := J) (R := R)  h hQ)
        · rw [ehc_7] at h ⊢; (try rw [ehc_7] at hQ)
          refine az_E.ov (pc' := 35) (L' := [.ref 3, .int (1 : Int32), .int v2, .long v3, .retAddr 0, .int x_4]) (S' := []) (σ' := (97, I, J, R)) (x := .ref 63) (o := az_aa az_F (97, I, J, R) 58 (1 : Int32)) rfl rfl ?_
          exact az_E.forget (L := [.ref 3, .int (1 : Int32), .int v2, .long v3, .retAddr 0, .retAddr 0]) ⟨rfl, rfl, rfl, rfl, trivial, trivial, trivial⟩ (re_X_put_35_63 (I := I) (J := J) (R := R)  h hQ)
        · rw [ehc_7] at h ⊢; (try rw [ehc_7] at hQ)
          refine az_E.ov (pc' := 35) (L' := [.ref 3, .int (2 : Int32), .int v2, .long v3, .retAddr 0, .int x_4]) (S' := []) (σ' := (97, I, J, R)) (x := .ref 65) (o := az_aa az_F (97, I, J, R) 58 (2 : Int32)) rfl rfl ?_
          exact az_E.forget (L := [.ref 3, .int (2 : Int32), .int v2, .long v3, .retAddr 0, .retAddr 0]) ⟨rfl, rfl, rfl, rfl, trivial, trivial, trivial⟩ (re_X_put_35_65 (I := I) (J := J) (R := R)  h hQ)
        · rw [ehc_7] at h ⊢; (try rw [ehc_7] at hQ)
          refine az_E.ov (pc' := 35) (L' := [.ref 3, .int (3 : Int32), .int v2, .long v3, .retAddr 0, .int x_4]) (S' := []) (σ' := (97, I, J, R)) (x := .ref 67) (o := az_aa az_F (97, I, J, R) 58 (3 : Int32)) rfl rfl ?_
          exact az_E.forget (L := [.ref 3, .int (3 : Int32), .int v2, .long v3, .retAddr 0, .retAddr 0]) ⟨rfl, rfl, rfl, rfl, trivial, trivial, trivial⟩ (re_X_put_35_67 (I := I) (J := J) (R := R)  h hQ)
        · rw [ehc_7] at h ⊢; (try rw [ehc_7] at hQ)
          refine az_E.ov (pc' := 35) (L' := [.ref 3, .int (4 : Int32), .int v2, .long v3, .retAddr 0, .int x_4]) (S' := []) (σ' := (97, I, J, R)) (x := .ref 69) (o := az_aa az_F (97, I, J, R) 58 (4 : Int32)) rfl rfl ?_
          exact az_E.forget (L := [.ref 3, .int (4 : Int32), .int v2, .long v3, .retAddr 0, .retAddr 0]) ⟨rfl, rfl, rfl, rfl, trivial, trivial, trivial⟩ (re_X_put_35_69 (I := I) (J := J) (R := R)  h hQ)
        · rw [ehc_7] at h ⊢; (try rw [ehc_7] at hQ)
          refine az_E.ov (pc' := 35) (L' := [.ref 3, .int (5 : Int32), .int v2, .long v3, .retAddr 0, .int x_4]) (S' := []) (σ' := (97, I, J, R)) (x := .ref 71) (o := az_aa az_F (97, I, J, R) 58 (5 : Int32)) rfl rfl ?_
          exact az_E.forget (L := [.ref 3, .int (5 : Int32), .int v2, .long v3, .retAddr 0, .retAddr 0]) ⟨rfl, rfl, rfl, rfl, trivial, trivial, trivial⟩ (re_X_put_35_71 (I := I) (J := J) (R := R)  h hQ)
    · rw [if_neg hc_6] at h
      refine az_E.sn 1 (pc' := 28) (L' := [.ref 3, .int v1, .int v2, .long v3, .retAddr 0, .int x_4]) (S' := [.int x_4]) (σ' := (97, I, J, R)) rfl ?_
      have h := Option.some.inj h
      subst h
      exact az_E.ret (v := some (.int x_4)) (σ' := (97, I, J, R)) rfl hQ
set_option maxRecDepth 100000 in
set_option maxHeartbeats 4000000 in
theorem re_X_put_15_63 {ex : az_X} {I : Nat → Nat → Int32} {J : Nat → Nat → Int64} {R : Nat → Nat → Option Nat} {v1 : Int32} {v2 : Int32} {v3 : Int64} {x : Int32 × (Nat → Nat → Int64)} (h : rs_X_put_15 63 I J v1 v2 v3 = some x) {Q : Option Value → az_S → Prop} (hQ : Q (some (.int x.1)) (97, I, x.2, R)) : az_E az_F ex 2 126 15 [.ref 3, .int v1, .int v2, .long v3, .retAddr 0, .retAddr 0] [.ref 63] (97, I, J, R) Q := by
  unfold rs_X_put_15 at h
  refine az_E.sn 1 (pc' := 16) (L' := [.ref 3, .int v1, .int v2, .long v3, .retAddr 0, .retAddr 0]) (S' := [.int v2, .ref 63]) (σ' := (97, I, J, R)) rfl ?_
  cases hx_123 : rs_Sh_refusalAt 63 I v2 with
  | none => rw [hx_123] at h; cases h
  | some x_122 =>
    rw [hx_123] at h
    dsimp only at h
    refine az_E.call (d := 1) (k' := 61) (vs := [.ref 63, .int v2]) (pc' := 19) (S' := []) (Q1 := fun v s => v = some (.int x_122) ∧ s = (97, I, J, R)) rfl (az_E.deep (by omega) (re_Sh_refusalAt_63 (J := J) (R := R)  hx_123 ⟨rfl, rfl⟩)) (fun v s hq => ?_)
    obtain ⟨rfl, rfl⟩ := hq
    show az_E az_F ex 2 126 19 [.ref 3, .int v1, .int v2, .long v3, .retAddr 0, .retAddr 0] [.int x_122] (97, I, J, R) _
    refine az_E.sn 2 (pc' := 23) (L' := [.ref 3, .int v1, .int v2, .long v3, .retAddr 0, .int x_122]) (S' := [.int x_122]) (σ' := (97, I, J, R)) rfl ?_
    refine az_E.br (c := x_122 = 0) (tt := 29) (ff := 26) (L' := [.ref 3, .int v1, .int v2, .long v3, .retAddr 0, .int x_122]) (S' := []) (σ' := (97, I, J, R)) rfl (fun hc_124 => ?_) (fun hc_124 => ?_)
    · rw [if_pos hc_124] at h
      refine az_E.sn 3 (pc' := 34) (L' := [.ref 3, .int v1, .int v2, .long v3, .retAddr 0, .int x_122]) (S' := [.int v1, .ref 58]) (σ' := (97, I, J, R)) rfl ?_
      by_cases hc_125 : v1 < 0 ∨ 6 ≤ v1.toNatClampNeg
      · rw [if_pos hc_125] at h; cases h
      · rw [if_neg hc_125] at h
        rcases az_six hc_125 with ehc_125 | ehc_125 | ehc_125 | ehc_125 | ehc_125 | ehc_125
        · rw [ehc_125] at h ⊢; (try rw [ehc_125] at hQ)
          refine az_E.ov (pc' := 35) (L' := [.ref 3, .int (0 : Int32), .int v2, .long v3, .retAddr 0, .int x_122]) (S' := []) (σ' := (97, I, J, R)) (x := .ref 61) (o := az_aa az_F (97, I, J, R) 58 (0 : Int32)) rfl rfl ?_
          exact az_E.forget (L := [.ref 3, .int (0 : Int32), .int v2, .long v3, .retAddr 0, .retAddr 0]) ⟨rfl, rfl, rfl, rfl, trivial, trivial, trivial⟩ (re_X_put_35_61 (I := I) (J := J) (R := R)  h hQ)
        · rw [ehc_125] at h ⊢; (try rw [ehc_125] at hQ)
          refine az_E.ov (pc' := 35) (L' := [.ref 3, .int (1 : Int32), .int v2, .long v3, .retAddr 0, .int x_122]) (S' := []) (σ' := (97, I, J, R)) (x := .ref 63) (o := az_aa az_F (97, I, J, R) 58 (1 : Int32)) rfl rfl ?_
          exact az_E.forget (L := [.ref 3, .int (1 : Int32), .int v2, .long v3, .retAddr 0, .retAddr 0]) ⟨rfl, rfl, rfl, rfl, trivial, trivial, trivial⟩ (re_X_put_35_63 (I := I) (J := J) (R := R)  h hQ)
        · rw [ehc_125] at h ⊢; (try rw [ehc_125] at hQ)
          refine az_E.ov (pc' := 35) (L' := [.ref 3, .int (2 : Int32), .int v2, .long v3, .retAddr 0, .int x_122]) (S' := []) (σ' := (97, I, J, R)) (x := .ref 65) (o := az_aa az_F (97, I, J, R) 58 (2 : Int32)) rfl rfl ?_
          exact az_E.forget (L := [.ref 3, .int (2 : Int32), .int v2, .long v3, .retAddr 0, .retAddr 0]) ⟨rfl, rfl, rfl, rfl, trivial, trivial, trivial⟩ (re_X_put_35_65 (I := I) (J := J) (R := R)  h hQ)
        · rw [ehc_125] at h ⊢; (try rw [ehc_125] at hQ)
          refine az_E.ov (pc' := 35) (L' := [.ref 3, .int (3 : Int32), .int v2, .long v3, .retAddr 0, .int x_122]) (S' := []) (σ' := (97, I, J, R)) (x := .ref 67) (o := az_aa az_F (97, I, J, R) 58 (3 : Int32)) rfl rfl ?_
          exact az_E.forget (L := [.ref 3, .int (3 : Int32), .int v2, .long v3, .retAddr 0, .retAddr 0]) ⟨rfl, rfl, rfl, rfl, trivial, trivial, trivial⟩ (re_X_put_35_67 (I := I) (J := J) (R := R)  h hQ)
        · rw [ehc_125] at h ⊢; (try rw [ehc_125] at hQ)
          refine az_E.ov (pc' := 35) (L' := [.ref 3, .int (4 : Int32), .int v2, .long v3, .retAddr 0, .int x_122]) (S' := []) (σ' := (97, I, J, R)) (x := .ref 69) (o := az_aa az_F (97, I, J, R) 58 (4 : Int32)) rfl rfl ?_
          exact az_E.forget (L := [.ref 3, .int (4 : Int32), .int v2, .long v3, .retAddr 0, .retAddr 0]) ⟨rfl, rfl, rfl, rfl, trivial, trivial, trivial⟩ (re_X_put_35_69 (I := I) (J := J) (R := R)  h hQ)
        · rw [ehc_125] at h ⊢; (try rw [ehc_125] at hQ)
          refine az_E.ov (pc' := 35) (L' := [.ref 3, .int (5 : Int32), .int v2, .long v3, .retAddr 0, .int x_122]) (S' := []) (σ' := (97, I, J, R)) (x := .ref 71) (o := az_aa az_F (97, I, J, R) 58 (5 : Int32)) rfl rfl ?_
          exact az_E.forget (L := [.ref 3, .int (5 : Int32), .int v2, .long v3, .retAddr 0, .retAddr 0]) ⟨rfl, rfl, rfl, rfl, trivial, trivial, trivial⟩ (re_X_put_35_71 (I := I) (J := J) (R := R)  h hQ)
    · rw [if_neg hc_124] at h
      refine az_E.sn 1 (pc' := 28) (L' := [.ref 3, .int v1, .int v2, .long v3, .retAddr 0, .int x_122]) (S' := [.int x_122]) (σ' := (97, I, J, R)) rfl ?_
      have h := Option.some.inj h
      subst h
      exact az_E.ret (v := some (.int x_122)) (σ' := (97, I, J, R)) rfl hQ
set_option maxRecDepth 100000 in
set_option maxHeartbeats 4000000 in
theorem re_X_put_15_65 {ex : az_X} {I : Nat → Nat → Int32} {J : Nat → Nat → Int64} {R : Nat → Nat → Option Nat} {v1 : Int32} {v2 : Int32} {v3 : Int64} {x : Int32 × (Nat → Nat → Int64)} (h : rs_X_put_15 65 I J v1 v2 v3 = some x) {Q : Option Value → az_S → Prop} (hQ : Q (some (.int x.1)) (97, I, x.2, R)) : az_E az_F ex 2 126 15 [.ref 3, .int v1, .int v2, .long v3, .retAddr 0, .retAddr 0] [.ref 65] (97, I, J, R) Q := by
  unfold rs_X_put_15 at h
  refine az_E.sn 1 (pc' := 16) (L' := [.ref 3, .int v1, .int v2, .long v3, .retAddr 0, .retAddr 0]) (S' := [.int v2, .ref 65]) (σ' := (97, I, J, R)) rfl ?_
  cases hx_222 : rs_Sh_refusalAt 65 I v2 with
  | none => rw [hx_222] at h; cases h
  | some x_221 =>
    rw [hx_222] at h
    dsimp only at h
    refine az_E.call (d := 1) (k' := 61) (vs := [.ref 65, .int v2]) (pc' := 19) (S' := []) (Q1 := fun v s => v = some (.int x_221) ∧ s = (97, I, J, R)) rfl (az_E.deep (by omega) (re_Sh_refusalAt_65 (J := J) (R := R)  hx_222 ⟨rfl, rfl⟩)) (fun v s hq => ?_)
    obtain ⟨rfl, rfl⟩ := hq
    show az_E az_F ex 2 126 19 [.ref 3, .int v1, .int v2, .long v3, .retAddr 0, .retAddr 0] [.int x_221] (97, I, J, R) _
    refine az_E.sn 2 (pc' := 23) (L' := [.ref 3, .int v1, .int v2, .long v3, .retAddr 0, .int x_221]) (S' := [.int x_221]) (σ' := (97, I, J, R)) rfl ?_
    refine az_E.br (c := x_221 = 0) (tt := 29) (ff := 26) (L' := [.ref 3, .int v1, .int v2, .long v3, .retAddr 0, .int x_221]) (S' := []) (σ' := (97, I, J, R)) rfl (fun hc_223 => ?_) (fun hc_223 => ?_)
    · rw [if_pos hc_223] at h
      refine az_E.sn 3 (pc' := 34) (L' := [.ref 3, .int v1, .int v2, .long v3, .retAddr 0, .int x_221]) (S' := [.int v1, .ref 58]) (σ' := (97, I, J, R)) rfl ?_
      by_cases hc_224 : v1 < 0 ∨ 6 ≤ v1.toNatClampNeg
      · rw [if_pos hc_224] at h; cases h
      · rw [if_neg hc_224] at h
        rcases az_six hc_224 with ehc_224 | ehc_224 | ehc_224 | ehc_224 | ehc_224 | ehc_224
        · rw [ehc_224] at h ⊢; (try rw [ehc_224] at hQ)
          refine az_E.ov (pc' := 35) (L' := [.ref 3, .int (0 : Int32), .int v2, .long v3, .retAddr 0, .int x_221]) (S' := []) (σ' := (97, I, J, R)) (x := .ref 61) (o := az_aa az_F (97, I, J, R) 58 (0 : Int32)) rfl rfl ?_
          exact az_E.forget (L := [.ref 3, .int (0 : Int32), .int v2, .long v3, .retAddr 0, .retAddr 0]) ⟨rfl, rfl, rfl, rfl, trivial, trivial, trivial⟩ (re_X_put_35_61 (I := I) (J := J) (R := R)  h hQ)
        · rw [ehc_224] at h ⊢; (try rw [ehc_224] at hQ)
          refine az_E.ov (pc' := 35) (L' := [.ref 3, .int (1 : Int32), .int v2, .long v3, .retAddr 0, .int x_221]) (S' := []) (σ' := (97, I, J, R)) (x := .ref 63) (o := az_aa az_F (97, I, J, R) 58 (1 : Int32)) rfl rfl ?_
          exact az_E.forget (L := [.ref 3, .int (1 : Int32), .int v2, .long v3, .retAddr 0, .retAddr 0]) ⟨rfl, rfl, rfl, rfl, trivial, trivial, trivial⟩ (re_X_put_35_63 (I := I) (J := J) (R := R)  h hQ)
        · rw [ehc_224] at h ⊢; (try rw [ehc_224] at hQ)
          refine az_E.ov (pc' := 35) (L' := [.ref 3, .int (2 : Int32), .int v2, .long v3, .retAddr 0, .int x_221]) (S' := []) (σ' := (97, I, J, R)) (x := .ref 65) (o := az_aa az_F (97, I, J, R) 58 (2 : Int32)) rfl rfl ?_
          exact az_E.forget (L := [.ref 3, .int (2 : Int32), .int v2, .long v3, .retAddr 0, .retAddr 0]) ⟨rfl, rfl, rfl, rfl, trivial, trivial, trivial⟩ (re_X_put_35_65 (I := I) (J := J) (R := R)  h hQ)
        · rw [ehc_224] at h ⊢; (try rw [ehc_224] at hQ)
          refine az_E.ov (pc' := 35) (L' := [.ref 3, .int (3 : Int32), .int v2, .long v3, .retAddr 0, .int x_221]) (S' := []) (σ' := (97, I, J, R)) (x := .ref 67) (o := az_aa az_F (97, I, J, R) 58 (3 : Int32)) rfl rfl ?_
          exact az_E.forget (L := [.ref 3, .int (3 : Int32), .int v2, .long v3, .retAddr 0, .retAddr 0]) ⟨rfl, rfl, rfl, rfl, trivial, trivial, trivial⟩ (re_X_put_35_67 (I := I) (J := J) (R := R)  h hQ)
        · rw [ehc_224] at h ⊢; (try rw [ehc_224] at hQ)
          refine az_E.ov (pc' := 35) (L' := [.ref 3, .int (4 : Int32), .int v2, .long v3, .retAddr 0, .int x_221]) (S' := []) (σ' := (97, I, J, R)) (x := .ref 69) (o := az_aa az_F (97, I, J, R) 58 (4 : Int32)) rfl rfl ?_
          exact az_E.forget (L := [.ref 3, .int (4 : Int32), .int v2, .long v3, .retAddr 0, .retAddr 0]) ⟨rfl, rfl, rfl, rfl, trivial, trivial, trivial⟩ (re_X_put_35_69 (I := I) (J := J) (R := R)  h hQ)
        · rw [ehc_224] at h ⊢; (try rw [ehc_224] at hQ)
          refine az_E.ov (pc' := 35) (L' := [.ref 3, .int (5 : Int32), .int v2, .long v3, .retAddr 0, .int x_221]) (S' := []) (σ' := (97, I, J, R)) (x := .ref 71) (o := az_aa az_F (97, I, J, R) 58 (5 : Int32)) rfl rfl ?_
          exact az_E.forget (L := [.ref 3, .int (5 : Int32), .int v2, .long v3, .retAddr 0, .retAddr 0]) ⟨rfl, rfl, rfl, rfl, trivial, trivial, trivial⟩ (re_X_put_35_71 (I := I) (J := J) (R := R)  h hQ)
    · rw [if_neg hc_223] at h
      refine az_E.sn 1 (pc' := 28) (L' := [.ref 3, .int v1, .int v2, .long v3, .retAddr 0, .int x_221]) (S' := [.int x_221]) (σ' := (97, I, J, R)) rfl ?_
      have h := Option.some.inj h
      subst h
      exact az_E.ret (v := some (.int x_221)) (σ' := (97, I, J, R)) rfl hQ
set_option maxRecDepth 100000 in
set_option maxHeartbeats 4000000 in
theorem re_X_put_15_67 {ex : az_X} {I : Nat → Nat → Int32} {J : Nat → Nat → Int64} {R : Nat → Nat → Option Nat} {v1 : Int32} {v2 : Int32} {v3 : Int64} {x : Int32 × (Nat → Nat → Int64)} (h : rs_X_put_15 67 I J v1 v2 v3 = some x) {Q : Option Value → az_S → Prop} (hQ : Q (some (.int x.1)) (97, I, x.2, R)) : az_E az_F ex 2 126 15 [.ref 3, .int v1, .int v2, .long v3, .retAddr 0, .retAddr 0] [.ref 67] (97, I, J, R) Q := by
  unfold rs_X_put_15 at h
  refine az_E.sn 1 (pc' := 16) (L' := [.ref 3, .int v1, .int v2, .long v3, .retAddr 0, .retAddr 0]) (S' := [.int v2, .ref 67]) (σ' := (97, I, J, R)) rfl ?_
  cases hx_321 : rs_Sh_refusalAt 67 I v2 with
  | none => rw [hx_321] at h; cases h
  | some x_320 =>
    rw [hx_321] at h
    dsimp only at h
    refine az_E.call (d := 1) (k' := 61) (vs := [.ref 67, .int v2]) (pc' := 19) (S' := []) (Q1 := fun v s => v = some (.int x_320) ∧ s = (97, I, J, R)) rfl (az_E.deep (by omega) (re_Sh_refusalAt_67 (J := J) (R := R)  hx_321 ⟨rfl, rfl⟩)) (fun v s hq => ?_)
    obtain ⟨rfl, rfl⟩ := hq
    show az_E az_F ex 2 126 19 [.ref 3, .int v1, .int v2, .long v3, .retAddr 0, .retAddr 0] [.int x_320] (97, I, J, R) _
    refine az_E.sn 2 (pc' := 23) (L' := [.ref 3, .int v1, .int v2, .long v3, .retAddr 0, .int x_320]) (S' := [.int x_320]) (σ' := (97, I, J, R)) rfl ?_
    refine az_E.br (c := x_320 = 0) (tt := 29) (ff := 26) (L' := [.ref 3, .int v1, .int v2, .long v3, .retAddr 0, .int x_320]) (S' := []) (σ' := (97, I, J, R)) rfl (fun hc_322 => ?_) (fun hc_322 => ?_)
    · rw [if_pos hc_322] at h
      refine az_E.sn 3 (pc' := 34) (L' := [.ref 3, .int v1, .int v2, .long v3, .retAddr 0, .int x_320]) (S' := [.int v1, .ref 58]) (σ' := (97, I, J, R)) rfl ?_
      by_cases hc_323 : v1 < 0 ∨ 6 ≤ v1.toNatClampNeg
      · rw [if_pos hc_323] at h; cases h
      · rw [if_neg hc_323] at h
        rcases az_six hc_323 with ehc_323 | ehc_323 | ehc_323 | ehc_323 | ehc_323 | ehc_323
        · rw [ehc_323] at h ⊢; (try rw [ehc_323] at hQ)
          refine az_E.ov (pc' := 35) (L' := [.ref 3, .int (0 : Int32), .int v2, .long v3, .retAddr 0, .int x_320]) (S' := []) (σ' := (97, I, J, R)) (x := .ref 61) (o := az_aa az_F (97, I, J, R) 58 (0 : Int32)) rfl rfl ?_
          exact az_E.forget (L := [.ref 3, .int (0 : Int32), .int v2, .long v3, .retAddr 0, .retAddr 0]) ⟨rfl, rfl, rfl, rfl, trivial, trivial, trivial⟩ (re_X_put_35_61 (I := I) (J := J) (R := R)  h hQ)
        · rw [ehc_323] at h ⊢; (try rw [ehc_323] at hQ)
          refine az_E.ov (pc' := 35) (L' := [.ref 3, .int (1 : Int32), .int v2, .long v3, .retAddr 0, .int x_320]) (S' := []) (σ' := (97, I, J, R)) (x := .ref 63) (o := az_aa az_F (97, I, J, R) 58 (1 : Int32)) rfl rfl ?_
          exact az_E.forget (L := [.ref 3, .int (1 : Int32), .int v2, .long v3, .retAddr 0, .retAddr 0]) ⟨rfl, rfl, rfl, rfl, trivial, trivial, trivial⟩ (re_X_put_35_63 (I := I) (J := J) (R := R)  h hQ)
        · rw [ehc_323] at h ⊢; (try rw [ehc_323] at hQ)
          refine az_E.ov (pc' := 35) (L' := [.ref 3, .int (2 : Int32), .int v2, .long v3, .retAddr 0, .int x_320]) (S' := []) (σ' := (97, I, J, R)) (x := .ref 65) (o := az_aa az_F (97, I, J, R) 58 (2 : Int32)) rfl rfl ?_
          exact az_E.forget (L := [.ref 3, .int (2 : Int32), .int v2, .long v3, .retAddr 0, .retAddr 0]) ⟨rfl, rfl, rfl, rfl, trivial, trivial, trivial⟩ (re_X_put_35_65 (I := I) (J := J) (R := R)  h hQ)
        · rw [ehc_323] at h ⊢; (try rw [ehc_323] at hQ)
          refine az_E.ov (pc' := 35) (L' := [.ref 3, .int (3 : Int32), .int v2, .long v3, .retAddr 0, .int x_320]) (S' := []) (σ' := (97, I, J, R)) (x := .ref 67) (o := az_aa az_F (97, I, J, R) 58 (3 : Int32)) rfl rfl ?_
          exact az_E.forget (L := [.ref 3, .int (3 : Int32), .int v2, .long v3, .retAddr 0, .retAddr 0]) ⟨rfl, rfl, rfl, rfl, trivial, trivial, trivial⟩ (re_X_put_35_67 (I := I) (J := J) (R := R)  h hQ)
        · rw [ehc_323] at h ⊢; (try rw [ehc_323] at hQ)
          refine az_E.ov (pc' := 35) (L' := [.ref 3, .int (4 : Int32), .int v2, .long v3, .retAddr 0, .int x_320]) (S' := []) (σ' := (97, I, J, R)) (x := .ref 69) (o := az_aa az_F (97, I, J, R) 58 (4 : Int32)) rfl rfl ?_
          exact az_E.forget (L := [.ref 3, .int (4 : Int32), .int v2, .long v3, .retAddr 0, .retAddr 0]) ⟨rfl, rfl, rfl, rfl, trivial, trivial, trivial⟩ (re_X_put_35_69 (I := I) (J := J) (R := R)  h hQ)
        · rw [ehc_323] at h ⊢; (try rw [ehc_323] at hQ)
          refine az_E.ov (pc' := 35) (L' := [.ref 3, .int (5 : Int32), .int v2, .long v3, .retAddr 0, .int x_320]) (S' := []) (σ' := (97, I, J, R)) (x := .ref 71) (o := az_aa az_F (97, I, J, R) 58 (5 : Int32)) rfl rfl ?_
          exact az_E.forget (L := [.ref 3, .int (5 : Int32), .int v2, .long v3, .retAddr 0, .retAddr 0]) ⟨rfl, rfl, rfl, rfl, trivial, trivial, trivial⟩ (re_X_put_35_71 (I := I) (J := J) (R := R)  h hQ)
    · rw [if_neg hc_322] at h
      refine az_E.sn 1 (pc' := 28) (L' := [.ref 3, .int v1, .int v2, .long v3, .retAddr 0, .int x_320]) (S' := [.int x_320]) (σ' := (97, I, J, R)) rfl ?_
      have h := Option.some.inj h
      subst h
      exact az_E.ret (v := some (.int x_320)) (σ' := (97, I, J, R)) rfl hQ
set_option maxRecDepth 100000 in
set_option maxHeartbeats 4000000 in
theorem re_X_put_15_69 {ex : az_X} {I : Nat → Nat → Int32} {J : Nat → Nat → Int64} {R : Nat → Nat → Option Nat} {v1 : Int32} {v2 : Int32} {v3 : Int64} {x : Int32 × (Nat → Nat → Int64)} (h : rs_X_put_15 69 I J v1 v2 v3 = some x) {Q : Option Value → az_S → Prop} (hQ : Q (some (.int x.1)) (97, I, x.2, R)) : az_E az_F ex 2 126 15 [.ref 3, .int v1, .int v2, .long v3, .retAddr 0, .retAddr 0] [.ref 69] (97, I, J, R) Q := by
  unfold rs_X_put_15 at h
  refine az_E.sn 1 (pc' := 16) (L' := [.ref 3, .int v1, .int v2, .long v3, .retAddr 0, .retAddr 0]) (S' := [.int v2, .ref 69]) (σ' := (97, I, J, R)) rfl ?_
  cases hx_420 : rs_Sh_refusalAt 69 I v2 with
  | none => rw [hx_420] at h; cases h
  | some x_419 =>
    rw [hx_420] at h
    dsimp only at h
    refine az_E.call (d := 1) (k' := 61) (vs := [.ref 69, .int v2]) (pc' := 19) (S' := []) (Q1 := fun v s => v = some (.int x_419) ∧ s = (97, I, J, R)) rfl (az_E.deep (by omega) (re_Sh_refusalAt_69 (J := J) (R := R)  hx_420 ⟨rfl, rfl⟩)) (fun v s hq => ?_)
    obtain ⟨rfl, rfl⟩ := hq
    show az_E az_F ex 2 126 19 [.ref 3, .int v1, .int v2, .long v3, .retAddr 0, .retAddr 0] [.int x_419] (97, I, J, R) _
    refine az_E.sn 2 (pc' := 23) (L' := [.ref 3, .int v1, .int v2, .long v3, .retAddr 0, .int x_419]) (S' := [.int x_419]) (σ' := (97, I, J, R)) rfl ?_
    refine az_E.br (c := x_419 = 0) (tt := 29) (ff := 26) (L' := [.ref 3, .int v1, .int v2, .long v3, .retAddr 0, .int x_419]) (S' := []) (σ' := (97, I, J, R)) rfl (fun hc_421 => ?_) (fun hc_421 => ?_)
    · rw [if_pos hc_421] at h
      refine az_E.sn 3 (pc' := 34) (L' := [.ref 3, .int v1, .int v2, .long v3, .retAddr 0, .int x_419]) (S' := [.int v1, .ref 58]) (σ' := (97, I, J, R)) rfl ?_
      by_cases hc_422 : v1 < 0 ∨ 6 ≤ v1.toNatClampNeg
      · rw [if_pos hc_422] at h; cases h
      · rw [if_neg hc_422] at h
        rcases az_six hc_422 with ehc_422 | ehc_422 | ehc_422 | ehc_422 | ehc_422 | ehc_422
        · rw [ehc_422] at h ⊢; (try rw [ehc_422] at hQ)
          refine az_E.ov (pc' := 35) (L' := [.ref 3, .int (0 : Int32), .int v2, .long v3, .retAddr 0, .int x_419]) (S' := []) (σ' := (97, I, J, R)) (x := .ref 61) (o := az_aa az_F (97, I, J, R) 58 (0 : Int32)) rfl rfl ?_
          exact az_E.forget (L := [.ref 3, .int (0 : Int32), .int v2, .long v3, .retAddr 0, .retAddr 0]) ⟨rfl, rfl, rfl, rfl, trivial, trivial, trivial⟩ (re_X_put_35_61 (I := I) (J := J) (R := R)  h hQ)
        · rw [ehc_422] at h ⊢; (try rw [ehc_422] at hQ)
          refine az_E.ov (pc' := 35) (L' := [.ref 3, .int (1 : Int32), .int v2, .long v3, .retAddr 0, .int x_419]) (S' := []) (σ' := (97, I, J, R)) (x := .ref 63) (o := az_aa az_F (97, I, J, R) 58 (1 : Int32)) rfl rfl ?_
          exact az_E.forget (L := [.ref 3, .int (1 : Int32), .int v2, .long v3, .retAddr 0, .retAddr 0]) ⟨rfl, rfl, rfl, rfl, trivial, trivial, trivial⟩ (re_X_put_35_63 (I := I) (J := J) (R := R)  h hQ)
        · rw [ehc_422] at h ⊢; (try rw [ehc_422] at hQ)
          refine az_E.ov (pc' := 35) (L' := [.ref 3, .int (2 : Int32), .int v2, .long v3, .retAddr 0, .int x_419]) (S' := []) (σ' := (97, I, J, R)) (x := .ref 65) (o := az_aa az_F (97, I, J, R) 58 (2 : Int32)) rfl rfl ?_
          exact az_E.forget (L := [.ref 3, .int (2 : Int32), .int v2, .long v3, .retAddr 0, .retAddr 0]) ⟨rfl, rfl, rfl, rfl, trivial, trivial, trivial⟩ (re_X_put_35_65 (I := I) (J := J) (R := R)  h hQ)
        · rw [ehc_422] at h ⊢; (try rw [ehc_422] at hQ)
          refine az_E.ov (pc' := 35) (L' := [.ref 3, .int (3 : Int32), .int v2, .long v3, .retAddr 0, .int x_419]) (S' := []) (σ' := (97, I, J, R)) (x := .ref 67) (o := az_aa az_F (97, I, J, R) 58 (3 : Int32)) rfl rfl ?_
          exact az_E.forget (L := [.ref 3, .int (3 : Int32), .int v2, .long v3, .retAddr 0, .retAddr 0]) ⟨rfl, rfl, rfl, rfl, trivial, trivial, trivial⟩ (re_X_put_35_67 (I := I) (J := J) (R := R)  h hQ)
        · rw [ehc_422] at h ⊢; (try rw [ehc_422] at hQ)
          refine az_E.ov (pc' := 35) (L' := [.ref 3, .int (4 : Int32), .int v2, .long v3, .retAddr 0, .int x_419]) (S' := []) (σ' := (97, I, J, R)) (x := .ref 69) (o := az_aa az_F (97, I, J, R) 58 (4 : Int32)) rfl rfl ?_
          exact az_E.forget (L := [.ref 3, .int (4 : Int32), .int v2, .long v3, .retAddr 0, .retAddr 0]) ⟨rfl, rfl, rfl, rfl, trivial, trivial, trivial⟩ (re_X_put_35_69 (I := I) (J := J) (R := R)  h hQ)
        · rw [ehc_422] at h ⊢; (try rw [ehc_422] at hQ)
          refine az_E.ov (pc' := 35) (L' := [.ref 3, .int (5 : Int32), .int v2, .long v3, .retAddr 0, .int x_419]) (S' := []) (σ' := (97, I, J, R)) (x := .ref 71) (o := az_aa az_F (97, I, J, R) 58 (5 : Int32)) rfl rfl ?_
          exact az_E.forget (L := [.ref 3, .int (5 : Int32), .int v2, .long v3, .retAddr 0, .retAddr 0]) ⟨rfl, rfl, rfl, rfl, trivial, trivial, trivial⟩ (re_X_put_35_71 (I := I) (J := J) (R := R)  h hQ)
    · rw [if_neg hc_421] at h
      refine az_E.sn 1 (pc' := 28) (L' := [.ref 3, .int v1, .int v2, .long v3, .retAddr 0, .int x_419]) (S' := [.int x_419]) (σ' := (97, I, J, R)) rfl ?_
      have h := Option.some.inj h
      subst h
      exact az_E.ret (v := some (.int x_419)) (σ' := (97, I, J, R)) rfl hQ
set_option maxRecDepth 100000 in
set_option maxHeartbeats 4000000 in
theorem re_X_put_15_71 {ex : az_X} {I : Nat → Nat → Int32} {J : Nat → Nat → Int64} {R : Nat → Nat → Option Nat} {v1 : Int32} {v2 : Int32} {v3 : Int64} {x : Int32 × (Nat → Nat → Int64)} (h : rs_X_put_15 71 I J v1 v2 v3 = some x) {Q : Option Value → az_S → Prop} (hQ : Q (some (.int x.1)) (97, I, x.2, R)) : az_E az_F ex 2 126 15 [.ref 3, .int v1, .int v2, .long v3, .retAddr 0, .retAddr 0] [.ref 71] (97, I, J, R) Q := by
  unfold rs_X_put_15 at h
  refine az_E.sn 1 (pc' := 16) (L' := [.ref 3, .int v1, .int v2, .long v3, .retAddr 0, .retAddr 0]) (S' := [.int v2, .ref 71]) (σ' := (97, I, J, R)) rfl ?_
  cases hx_519 : rs_Sh_refusalAt 71 I v2 with
  | none => rw [hx_519] at h; cases h
  | some x_518 =>
    rw [hx_519] at h
    dsimp only at h
    refine az_E.call (d := 1) (k' := 61) (vs := [.ref 71, .int v2]) (pc' := 19) (S' := []) (Q1 := fun v s => v = some (.int x_518) ∧ s = (97, I, J, R)) rfl (az_E.deep (by omega) (re_Sh_refusalAt_71 (J := J) (R := R)  hx_519 ⟨rfl, rfl⟩)) (fun v s hq => ?_)
    obtain ⟨rfl, rfl⟩ := hq
    show az_E az_F ex 2 126 19 [.ref 3, .int v1, .int v2, .long v3, .retAddr 0, .retAddr 0] [.int x_518] (97, I, J, R) _
    refine az_E.sn 2 (pc' := 23) (L' := [.ref 3, .int v1, .int v2, .long v3, .retAddr 0, .int x_518]) (S' := [.int x_518]) (σ' := (97, I, J, R)) rfl ?_
    refine az_E.br (c := x_518 = 0) (tt := 29) (ff := 26) (L' := [.ref 3, .int v1, .int v2, .long v3, .retAddr 0, .int x_518]) (S' := []) (σ' := (97, I, J, R)) rfl (fun hc_520 => ?_) (fun hc_520 => ?_)
    · rw [if_pos hc_520] at h
      refine az_E.sn 3 (pc' := 34) (L' := [.ref 3, .int v1, .int v2, .long v3, .retAddr 0, .int x_518]) (S' := [.int v1, .ref 58]) (σ' := (97, I, J, R)) rfl ?_
      by_cases hc_521 : v1 < 0 ∨ 6 ≤ v1.toNatClampNeg
      · rw [if_pos hc_521] at h; cases h
      · rw [if_neg hc_521] at h
        rcases az_six hc_521 with ehc_521 | ehc_521 | ehc_521 | ehc_521 | ehc_521 | ehc_521
        · rw [ehc_521] at h ⊢; (try rw [ehc_521] at hQ)
          refine az_E.ov (pc' := 35) (L' := [.ref 3, .int (0 : Int32), .int v2, .long v3, .retAddr 0, .int x_518]) (S' := []) (σ' := (97, I, J, R)) (x := .ref 61) (o := az_aa az_F (97, I, J, R) 58 (0 : Int32)) rfl rfl ?_
          exact az_E.forget (L := [.ref 3, .int (0 : Int32), .int v2, .long v3, .retAddr 0, .retAddr 0]) ⟨rfl, rfl, rfl, rfl, trivial, trivial, trivial⟩ (re_X_put_35_61 (I := I) (J := J) (R := R)  h hQ)
        · rw [ehc_521] at h ⊢; (try rw [ehc_521] at hQ)
          refine az_E.ov (pc' := 35) (L' := [.ref 3, .int (1 : Int32), .int v2, .long v3, .retAddr 0, .int x_518]) (S' := []) (σ' := (97, I, J, R)) (x := .ref 63) (o := az_aa az_F (97, I, J, R) 58 (1 : Int32)) rfl rfl ?_
          exact az_E.forget (L := [.ref 3, .int (1 : Int32), .int v2, .long v3, .retAddr 0, .retAddr 0]) ⟨rfl, rfl, rfl, rfl, trivial, trivial, trivial⟩ (re_X_put_35_63 (I := I) (J := J) (R := R)  h hQ)
        · rw [ehc_521] at h ⊢; (try rw [ehc_521] at hQ)
          refine az_E.ov (pc' := 35) (L' := [.ref 3, .int (2 : Int32), .int v2, .long v3, .retAddr 0, .int x_518]) (S' := []) (σ' := (97, I, J, R)) (x := .ref 65) (o := az_aa az_F (97, I, J, R) 58 (2 : Int32)) rfl rfl ?_
          exact az_E.forget (L := [.ref 3, .int (2 : Int32), .int v2, .long v3, .retAddr 0, .retAddr 0]) ⟨rfl, rfl, rfl, rfl, trivial, trivial, trivial⟩ (re_X_put_35_65 (I := I) (J := J) (R := R)  h hQ)
        · rw [ehc_521] at h ⊢; (try rw [ehc_521] at hQ)
          refine az_E.ov (pc' := 35) (L' := [.ref 3, .int (3 : Int32), .int v2, .long v3, .retAddr 0, .int x_518]) (S' := []) (σ' := (97, I, J, R)) (x := .ref 67) (o := az_aa az_F (97, I, J, R) 58 (3 : Int32)) rfl rfl ?_
          exact az_E.forget (L := [.ref 3, .int (3 : Int32), .int v2, .long v3, .retAddr 0, .retAddr 0]) ⟨rfl, rfl, rfl, rfl, trivial, trivial, trivial⟩ (re_X_put_35_67 (I := I) (J := J) (R := R)  h hQ)
        · rw [ehc_521] at h ⊢; (try rw [ehc_521] at hQ)
          refine az_E.ov (pc' := 35) (L' := [.ref 3, .int (4 : Int32), .int v2, .long v3, .retAddr 0, .int x_518]) (S' := []) (σ' := (97, I, J, R)) (x := .ref 69) (o := az_aa az_F (97, I, J, R) 58 (4 : Int32)) rfl rfl ?_
          exact az_E.forget (L := [.ref 3, .int (4 : Int32), .int v2, .long v3, .retAddr 0, .retAddr 0]) ⟨rfl, rfl, rfl, rfl, trivial, trivial, trivial⟩ (re_X_put_35_69 (I := I) (J := J) (R := R)  h hQ)
        · rw [ehc_521] at h ⊢; (try rw [ehc_521] at hQ)
          refine az_E.ov (pc' := 35) (L' := [.ref 3, .int (5 : Int32), .int v2, .long v3, .retAddr 0, .int x_518]) (S' := []) (σ' := (97, I, J, R)) (x := .ref 71) (o := az_aa az_F (97, I, J, R) 58 (5 : Int32)) rfl rfl ?_
          exact az_E.forget (L := [.ref 3, .int (5 : Int32), .int v2, .long v3, .retAddr 0, .retAddr 0]) ⟨rfl, rfl, rfl, rfl, trivial, trivial, trivial⟩ (re_X_put_35_71 (I := I) (J := J) (R := R)  h hQ)
    · rw [if_neg hc_520] at h
      refine az_E.sn 1 (pc' := 28) (L' := [.ref 3, .int v1, .int v2, .long v3, .retAddr 0, .int x_518]) (S' := [.int x_518]) (σ' := (97, I, J, R)) rfl ?_
      have h := Option.some.inj h
      subst h
      exact az_E.ret (v := some (.int x_518)) (σ' := (97, I, J, R)) rfl hQ
set_option maxRecDepth 100000 in
set_option maxHeartbeats 4000000 in
theorem re_X_put {ex : az_X} {I : Nat → Nat → Int32} {J : Nat → Nat → Int64} {R : Nat → Nat → Option Nat} {a1 : Int32} {a2 : Int32} {a3 : Int64} {o : Int32 × (Nat → Nat → Int64)} (h : rs_X_put I J a1 a2 a3 = some o) {Q : Option Value → az_S → Prop} (hQ : Q (some (.int o.1)) (97, I, o.2, R)) : az_E az_F ex 2 126 0 [.ref 3, .int a1, .int a2, .long a3, .retAddr 0, .retAddr 0] [] (97, I, J, R) Q := by
  unfold rs_X_put at h
  refine az_E.sn 1 (pc' := 1) (L' := [.ref 3, .int a1, .int a2, .long a3, .retAddr 0, .retAddr 0]) (S' := [.int a1]) (σ' := (97, I, J, R)) rfl ?_
  refine az_E.call (d := 1) (k' := 137) (vs := [.int a1]) (pc' := 4) (S' := []) rfl ?_ (fun _ _ hq => hq)
  show az_E az_F ex 1 137 0 [.int a1] [] (97, I, J, R) _
  refine az_E.sn 3 (pc' := 3) (L' := [.int a1]) (S' := [.int (5 : Int32), .int (0 : Int32), .int a1]) (σ' := (97, I, J, R)) rfl ?_
  refine az_E.call (d := 0) (k' := 131) (vs := [.int a1, .int (0 : Int32), .int (5 : Int32)]) (pc' := 6) (S' := []) rfl ?_ (fun _ _ hq => hq)
  show az_E az_F ex 0 131 0 [.int a1, .int (0 : Int32), .int (5 : Int32)] [] (97, I, J, R) _
  refine az_E.sn 2 (pc' := 2) (L' := [.int a1, .int (0 : Int32), .int (5 : Int32)]) (S' := [.int (0 : Int32), .int a1]) (σ' := (97, I, J, R)) rfl ?_
  refine az_E.br (c := a1 < (0 : Int32)) (tt := 14) (ff := 5) (L' := [.int a1, .int (0 : Int32), .int (5 : Int32)]) (S' := []) (σ' := (97, I, J, R)) rfl (fun hc_1 => ?_) (fun hc_1 => ?_)
  · rw [if_pos hc_1] at h
    refine az_E.sn 1 (pc' := 15) (L' := [.int a1, .int (0 : Int32), .int (5 : Int32)]) (S' := [.int (0 : Int32)]) (σ' := (97, I, J, R)) rfl ?_
    refine az_E.ret (v := some (.int (0 : Int32))) (σ' := (97, I, J, R)) rfl ?_
    show az_E az_F ex 1 137 6 [.int a1] [.int (0 : Int32)] (97, I, J, R) _
    refine az_E.ret (v := some (.int (0 : Int32))) (σ' := (97, I, J, R)) rfl ?_
    show az_E az_F ex 2 126 4 [.ref 3, .int a1, .int a2, .long a3, .retAddr 0, .retAddr 0] [.int (0 : Int32)] (97, I, J, R) _
    refine az_E.br (c := (0 : Int32) = 0) (tt := 7) (ff := 9) (L' := [.ref 3, .int a1, .int a2, .long a3, .retAddr 0, .retAddr 0]) (S' := []) (σ' := (97, I, J, R)) rfl (fun _ => ?_) (fun hn => absurd (by decide) hn)
    refine az_E.sn 1 (pc' := 8) (L' := [.ref 3, .int a1, .int a2, .long a3, .retAddr 0, .retAddr 0]) (S' := [.int (-1 : Int32)]) (σ' := (97, I, J, R)) rfl ?_
    have h := Option.some.inj h
    subst h
    exact az_E.ret (v := some (.int (-1 : Int32))) (σ' := (97, I, J, R)) rfl hQ
  · rw [if_neg hc_1] at h
    refine az_E.sn 2 (pc' := 7) (L' := [.int a1, .int (0 : Int32), .int (5 : Int32)]) (S' := [.int (5 : Int32), .int a1]) (σ' := (97, I, J, R)) rfl ?_
    refine az_E.br (c := (5 : Int32) < a1) (tt := 14) (ff := 10) (L' := [.int a1, .int (0 : Int32), .int (5 : Int32)]) (S' := []) (σ' := (97, I, J, R)) rfl (fun hc_2 => ?_) (fun hc_2 => ?_)
    · rw [if_pos hc_2] at h
      refine az_E.sn 1 (pc' := 15) (L' := [.int a1, .int (0 : Int32), .int (5 : Int32)]) (S' := [.int (0 : Int32)]) (σ' := (97, I, J, R)) rfl ?_
      refine az_E.ret (v := some (.int (0 : Int32))) (σ' := (97, I, J, R)) rfl ?_
      show az_E az_F ex 1 137 6 [.int a1] [.int (0 : Int32)] (97, I, J, R) _
      refine az_E.ret (v := some (.int (0 : Int32))) (σ' := (97, I, J, R)) rfl ?_
      show az_E az_F ex 2 126 4 [.ref 3, .int a1, .int a2, .long a3, .retAddr 0, .retAddr 0] [.int (0 : Int32)] (97, I, J, R) _
      refine az_E.br (c := (0 : Int32) = 0) (tt := 7) (ff := 9) (L' := [.ref 3, .int a1, .int a2, .long a3, .retAddr 0, .retAddr 0]) (S' := []) (σ' := (97, I, J, R)) rfl (fun _ => ?_) (fun hn => absurd (by decide) hn)
      refine az_E.sn 1 (pc' := 8) (L' := [.ref 3, .int a1, .int a2, .long a3, .retAddr 0, .retAddr 0]) (S' := [.int (-1 : Int32)]) (σ' := (97, I, J, R)) rfl ?_
      have h := Option.some.inj h
      subst h
      exact az_E.ret (v := some (.int (-1 : Int32))) (σ' := (97, I, J, R)) rfl hQ
    · rw [if_neg hc_2] at h
      refine az_E.sn 2 (pc' := 15) (L' := [.int a1, .int (0 : Int32), .int (5 : Int32)]) (S' := [.int (1 : Int32)]) (σ' := (97, I, J, R)) rfl ?_
      refine az_E.ret (v := some (.int (1 : Int32))) (σ' := (97, I, J, R)) rfl ?_
      show az_E az_F ex 1 137 6 [.int a1] [.int (1 : Int32)] (97, I, J, R) _
      refine az_E.ret (v := some (.int (1 : Int32))) (σ' := (97, I, J, R)) rfl ?_
      show az_E az_F ex 2 126 4 [.ref 3, .int a1, .int a2, .long a3, .retAddr 0, .retAddr 0] [.int (1 : Int32)] (97, I, J, R) _
      refine az_E.br (c := (1 : Int32) = 0) (tt := 7) (ff := 9) (L' := [.ref 3, .int a1, .int a2, .long a3, .retAddr 0, .retAddr 0]) (S' := []) (σ' := (97, I, J, R)) rfl (fun hn => absurd hn (by decide)) (fun _ => ?_)
      refine az_E.sn 3 (pc' := 14) (L' := [.ref 3, .int a1, .int a2, .long a3, .retAddr 0, .retAddr 0]) (S' := [.int a1, .ref 58]) (σ' := (97, I, J, R)) rfl ?_
      by_cases hc_3 : a1 < 0 ∨ 6 ≤ a1.toNatClampNeg
      · rw [if_pos hc_3] at h; cases h
      · rw [if_neg hc_3] at h
        rcases az_six hc_3 with ehc_3 | ehc_3 | ehc_3 | ehc_3 | ehc_3 | ehc_3
        · subst ehc_3
          refine az_E.ov (pc' := 15) (L' := [.ref 3, .int (0 : Int32), .int a2, .long a3, .retAddr 0, .retAddr 0]) (S' := []) (σ' := (97, I, J, R)) (x := .ref 61) (o := az_aa az_F (97, I, J, R) 58 (0 : Int32)) rfl rfl ?_
          exact az_E.forget (L := [.ref 3, .int (0 : Int32), .int a2, .long a3, .retAddr 0, .retAddr 0]) ⟨rfl, rfl, rfl, rfl, trivial, trivial, trivial⟩ (re_X_put_15_61 (I := I) (J := J) (R := R)  h hQ)
        · subst ehc_3
          refine az_E.ov (pc' := 15) (L' := [.ref 3, .int (1 : Int32), .int a2, .long a3, .retAddr 0, .retAddr 0]) (S' := []) (σ' := (97, I, J, R)) (x := .ref 63) (o := az_aa az_F (97, I, J, R) 58 (1 : Int32)) rfl rfl ?_
          exact az_E.forget (L := [.ref 3, .int (1 : Int32), .int a2, .long a3, .retAddr 0, .retAddr 0]) ⟨rfl, rfl, rfl, rfl, trivial, trivial, trivial⟩ (re_X_put_15_63 (I := I) (J := J) (R := R)  h hQ)
        · subst ehc_3
          refine az_E.ov (pc' := 15) (L' := [.ref 3, .int (2 : Int32), .int a2, .long a3, .retAddr 0, .retAddr 0]) (S' := []) (σ' := (97, I, J, R)) (x := .ref 65) (o := az_aa az_F (97, I, J, R) 58 (2 : Int32)) rfl rfl ?_
          exact az_E.forget (L := [.ref 3, .int (2 : Int32), .int a2, .long a3, .retAddr 0, .retAddr 0]) ⟨rfl, rfl, rfl, rfl, trivial, trivial, trivial⟩ (re_X_put_15_65 (I := I) (J := J) (R := R)  h hQ)
        · subst ehc_3
          refine az_E.ov (pc' := 15) (L' := [.ref 3, .int (3 : Int32), .int a2, .long a3, .retAddr 0, .retAddr 0]) (S' := []) (σ' := (97, I, J, R)) (x := .ref 67) (o := az_aa az_F (97, I, J, R) 58 (3 : Int32)) rfl rfl ?_
          exact az_E.forget (L := [.ref 3, .int (3 : Int32), .int a2, .long a3, .retAddr 0, .retAddr 0]) ⟨rfl, rfl, rfl, rfl, trivial, trivial, trivial⟩ (re_X_put_15_67 (I := I) (J := J) (R := R)  h hQ)
        · subst ehc_3
          refine az_E.ov (pc' := 15) (L' := [.ref 3, .int (4 : Int32), .int a2, .long a3, .retAddr 0, .retAddr 0]) (S' := []) (σ' := (97, I, J, R)) (x := .ref 69) (o := az_aa az_F (97, I, J, R) 58 (4 : Int32)) rfl rfl ?_
          exact az_E.forget (L := [.ref 3, .int (4 : Int32), .int a2, .long a3, .retAddr 0, .retAddr 0]) ⟨rfl, rfl, rfl, rfl, trivial, trivial, trivial⟩ (re_X_put_15_69 (I := I) (J := J) (R := R)  h hQ)
        · subst ehc_3
          refine az_E.ov (pc' := 15) (L' := [.ref 3, .int (5 : Int32), .int a2, .long a3, .retAddr 0, .retAddr 0]) (S' := []) (σ' := (97, I, J, R)) (x := .ref 71) (o := az_aa az_F (97, I, J, R) 58 (5 : Int32)) rfl rfl ?_
          exact az_E.forget (L := [.ref 3, .int (5 : Int32), .int a2, .long a3, .retAddr 0, .retAddr 0]) ⟨rfl, rfl, rfl, rfl, trivial, trivial, trivial⟩ (re_X_put_15_71 (I := I) (J := J) (R := R)  h hQ)
set_option maxRecDepth 100000 in
set_option maxHeartbeats 4000000 in
theorem re_M_refusal {ex : az_X} {I : Nat → Nat → Int32} {J : Nat → Nat → Int64} {R : Nat → Nat → Option Nat} {a1 : Int32} {a2 : Int32} {o : Int32} (h : rs_M_refusal I a1 a2 = some o) {Q : Option Value → az_S → Prop} (hQ : Q (some (.int o)) (97, I, J, R)) : az_E az_F ex 2 248 0 [.ref 73, .int a1, .int a2] [] (97, I, J, R) Q := by
  unfold rs_M_refusal at h
  refine az_E.sn 1 (pc' := 1) (L' := [.ref 73, .int a1, .int a2]) (S' := [.int a1]) (σ' := (97, I, J, R)) rfl ?_
  refine az_E.call (d := 1) (k' := 245) (vs := [.int a1]) (pc' := 4) (S' := []) rfl ?_ (fun _ _ hq => hq)
  show az_E az_F ex 1 245 0 [.int a1] [] (97, I, J, R) _
  refine az_E.sn 4 (pc' := 6) (L' := [.int a1]) (S' := [.long (5 : Int64), .long (0 : Int64), .long a1.toInt64]) (σ' := (97, I, J, R)) rfl ?_
  refine az_E.call (d := 0) (k' := 154) (vs := [.long a1.toInt64, .long (0 : Int64), .long (5 : Int64)]) (pc' := 9) (S' := []) rfl ?_ (fun _ _ hq => hq)
  show az_E az_F ex 0 154 0 [.long a1.toInt64, .retAddr 0, .long (0 : Int64), .retAddr 0, .long (5 : Int64), .retAddr 0] [] (97, I, J, R) _
  refine az_E.sn 3 (pc' := 3) (L' := [.long a1.toInt64, .retAddr 0, .long (0 : Int64), .retAddr 0, .long (5 : Int64), .retAddr 0]) (S' := [.int (lg_cmp a1.toInt64 (0 : Int64))]) (σ' := (97, I, J, R)) rfl ?_
  refine az_E.br (c := (lg_cmp a1.toInt64 (0 : Int64)) < 0) (tt := 17) (ff := 6) (L' := [.long a1.toInt64, .retAddr 0, .long (0 : Int64), .retAddr 0, .long (5 : Int64), .retAddr 0]) (S' := []) (σ' := (97, I, J, R)) rfl (fun hc_1 => ?_) (fun hc_1 => ?_)
  · rw [if_pos hc_1] at h
    refine az_E.sn 1 (pc' := 18) (L' := [.long a1.toInt64, .retAddr 0, .long (0 : Int64), .retAddr 0, .long (5 : Int64), .retAddr 0]) (S' := [.int (0 : Int32)]) (σ' := (97, I, J, R)) rfl ?_
    refine az_E.ret (v := some (.int (0 : Int32))) (σ' := (97, I, J, R)) rfl ?_
    show az_E az_F ex 1 245 9 [.int a1] [.int (0 : Int32)] (97, I, J, R) _
    refine az_E.ret (v := some (.int (0 : Int32))) (σ' := (97, I, J, R)) rfl ?_
    show az_E az_F ex 2 248 4 [.ref 73, .int a1, .int a2] [.int (0 : Int32)] (97, I, J, R) _
    refine az_E.br (c := (0 : Int32) = 0) (tt := 7) (ff := 9) (L' := [.ref 73, .int a1, .int a2]) (S' := []) (σ' := (97, I, J, R)) rfl (fun _ => ?_) (fun hn => absurd (by decide) hn)
    refine az_E.sn 1 (pc' := 8) (L' := [.ref 73, .int a1, .int a2]) (S' := [.int (-1 : Int32)]) (σ' := (97, I, J, R)) rfl ?_
    have h := Option.some.inj h
    subst h
    exact az_E.ret (v := some (.int (-1 : Int32))) (σ' := (97, I, J, R)) rfl hQ
  · rw [if_neg hc_1] at h
    refine az_E.sn 3 (pc' := 10) (L' := [.long a1.toInt64, .retAddr 0, .long (0 : Int64), .retAddr 0, .long (5 : Int64), .retAddr 0]) (S' := [.int (lg_cmp a1.toInt64 (5 : Int64))]) (σ' := (97, I, J, R)) rfl ?_
    refine az_E.br (c := 0 < (lg_cmp a1.toInt64 (5 : Int64))) (tt := 17) (ff := 13) (L' := [.long a1.toInt64, .retAddr 0, .long (0 : Int64), .retAddr 0, .long (5 : Int64), .retAddr 0]) (S' := []) (σ' := (97, I, J, R)) rfl (fun hc_2 => ?_) (fun hc_2 => ?_)
    · rw [if_pos hc_2] at h
      refine az_E.sn 1 (pc' := 18) (L' := [.long a1.toInt64, .retAddr 0, .long (0 : Int64), .retAddr 0, .long (5 : Int64), .retAddr 0]) (S' := [.int (0 : Int32)]) (σ' := (97, I, J, R)) rfl ?_
      refine az_E.ret (v := some (.int (0 : Int32))) (σ' := (97, I, J, R)) rfl ?_
      show az_E az_F ex 1 245 9 [.int a1] [.int (0 : Int32)] (97, I, J, R) _
      refine az_E.ret (v := some (.int (0 : Int32))) (σ' := (97, I, J, R)) rfl ?_
      show az_E az_F ex 2 248 4 [.ref 73, .int a1, .int a2] [.int (0 : Int32)] (97, I, J, R) _
      refine az_E.br (c := (0 : Int32) = 0) (tt := 7) (ff := 9) (L' := [.ref 73, .int a1, .int a2]) (S' := []) (σ' := (97, I, J, R)) rfl (fun _ => ?_) (fun hn => absurd (by decide) hn)
      refine az_E.sn 1 (pc' := 8) (L' := [.ref 73, .int a1, .int a2]) (S' := [.int (-1 : Int32)]) (σ' := (97, I, J, R)) rfl ?_
      have h := Option.some.inj h
      subst h
      exact az_E.ret (v := some (.int (-1 : Int32))) (σ' := (97, I, J, R)) rfl hQ
    · rw [if_neg hc_2] at h
      refine az_E.sn 2 (pc' := 18) (L' := [.long a1.toInt64, .retAddr 0, .long (0 : Int64), .retAddr 0, .long (5 : Int64), .retAddr 0]) (S' := [.int (1 : Int32)]) (σ' := (97, I, J, R)) rfl ?_
      refine az_E.ret (v := some (.int (1 : Int32))) (σ' := (97, I, J, R)) rfl ?_
      show az_E az_F ex 1 245 9 [.int a1] [.int (1 : Int32)] (97, I, J, R) _
      refine az_E.ret (v := some (.int (1 : Int32))) (σ' := (97, I, J, R)) rfl ?_
      show az_E az_F ex 2 248 4 [.ref 73, .int a1, .int a2] [.int (1 : Int32)] (97, I, J, R) _
      refine az_E.br (c := (1 : Int32) = 0) (tt := 7) (ff := 9) (L' := [.ref 73, .int a1, .int a2]) (S' := []) (σ' := (97, I, J, R)) rfl (fun hn => absurd hn (by decide)) (fun _ => ?_)
      refine az_E.sn 3 (pc' := 14) (L' := [.ref 73, .int a1, .int a2]) (S' := [.int a1, .ref 96]) (σ' := (97, I, J, R)) rfl ?_
      by_cases hc_3 : a1 < 0 ∨ 6 ≤ a1.toNatClampNeg
      · rw [if_pos hc_3] at h; cases h
      · rw [if_neg hc_3] at h
        refine az_E.oi (o := az_ai az_F ex (97, I, J, R) 96 a1) (pc' := 15) (L' := [.ref 73, .int a1, .int a2]) (S' := []) (σ' := (97, I, J, R)) (x := (I 96 a1.toNatClampNeg)) rfl (if_neg hc_3) ?_
        refine az_E.br (c := 0 ≤ (I 96 a1.toNatClampNeg)) (tt := 21) (ff := 18) (L' := [.ref 73, .int a1, .int a2]) (S' := []) (σ' := (97, I, J, R)) rfl (fun hc_4 => ?_) (fun hc_4 => ?_)
        · rw [if_pos hc_4] at h
          refine az_E.sn 3 (pc' := 26) (L' := [.ref 73, .int a1, .int a2]) (S' := [.int a1, .ref 96]) (σ' := (97, I, J, R)) rfl ?_
          by_cases hc_5 : a1 < 0 ∨ 6 ≤ a1.toNatClampNeg
          · rw [if_pos hc_5] at h; cases h
          · rw [if_neg hc_5] at h
            refine az_E.oi (o := az_ai az_F ex (97, I, J, R) 96 a1) (pc' := 27) (L' := [.ref 73, .int a1, .int a2]) (S' := []) (σ' := (97, I, J, R)) (x := (I 96 a1.toNatClampNeg)) rfl (if_neg hc_5) ?_
            refine az_E.sn 1 (pc' := 29) (L' := [.ref 73, .int a1, .int a2]) (S' := [.int (50 : Int32), .int (I 96 a1.toNatClampNeg)]) (σ' := (97, I, J, R)) rfl ?_
            refine az_E.br (c := (50 : Int32) ≤ (I 96 a1.toNatClampNeg)) (tt := 35) (ff := 32) (L' := [.ref 73, .int a1, .int a2]) (S' := []) (σ' := (97, I, J, R)) rfl (fun hc_6 => ?_) (fun hc_6 => ?_)
            · rw [if_pos hc_6] at h
              refine az_E.sn 1 (pc' := 36) (L' := [.ref 73, .int a1, .int a2]) (S' := [.int a2]) (σ' := (97, I, J, R)) rfl ?_
              refine az_E.br (c := a2 < 0) (tt := 53) (ff := 39) (L' := [.ref 73, .int a1, .int a2]) (S' := []) (σ' := (97, I, J, R)) rfl (fun hc_7 => ?_) (fun hc_7 => ?_)
              · rw [if_pos hc_7] at h
                refine az_E.sn 1 (pc' := 55) (L' := [.ref 73, .int a1, .int a2]) (S' := [.int (-13 : Int32)]) (σ' := (97, I, J, R)) rfl ?_
                have h := Option.some.inj h
                subst h
                exact az_E.ret (v := some (.int (-13 : Int32))) (σ' := (97, I, J, R)) rfl hQ
              · rw [if_neg hc_7] at h
                refine az_E.sn 4 (pc' := 45) (L' := [.ref 73, .int a1, .int a2]) (S' := [.int a1, .ref 97, .int a2]) (σ' := (97, I, J, R)) rfl ?_
                by_cases hc_8 : a1 < 0 ∨ 6 ≤ a1.toNatClampNeg
                · rw [if_pos hc_8] at h; cases h
                · rw [if_neg hc_8] at h
                  refine az_E.oi (o := az_ai az_F ex (97, I, J, R) 97 a1) (pc' := 46) (L' := [.ref 73, .int a1, .int a2]) (S' := [.int a2]) (σ' := (97, I, J, R)) (x := (I 97 a1.toNatClampNeg)) rfl (if_neg hc_8) ?_
                  refine az_E.br (c := (I 97 a1.toNatClampNeg) ≤ a2) (tt := 53) (ff := 49) (L' := [.ref 73, .int a1, .int a2]) (S' := []) (σ' := (97, I, J, R)) rfl (fun hc_9 => ?_) (fun hc_9 => ?_)
                  · rw [if_pos hc_9] at h
                    refine az_E.sn 1 (pc' := 55) (L' := [.ref 73, .int a1, .int a2]) (S' := [.int (-13 : Int32)]) (σ' := (97, I, J, R)) rfl ?_
                    have h := Option.some.inj h
                    subst h
                    exact az_E.ret (v := some (.int (-13 : Int32))) (σ' := (97, I, J, R)) rfl hQ
                  · rw [if_neg hc_9] at h
                    refine az_E.sn 2 (pc' := 55) (L' := [.ref 73, .int a1, .int a2]) (S' := [.int (0 : Int32)]) (σ' := (97, I, J, R)) rfl ?_
                    have h := Option.some.inj h
                    subst h
                    exact az_E.ret (v := some (.int (0 : Int32))) (σ' := (97, I, J, R)) rfl hQ
            · rw [if_neg hc_6] at h
              refine az_E.sn 1 (pc' := 34) (L' := [.ref 73, .int a1, .int a2]) (S' := [.int (-12 : Int32)]) (σ' := (97, I, J, R)) rfl ?_
              have h := Option.some.inj h
              subst h
              exact az_E.ret (v := some (.int (-12 : Int32))) (σ' := (97, I, J, R)) rfl hQ
        · rw [if_neg hc_4] at h
          refine az_E.sn 1 (pc' := 20) (L' := [.ref 73, .int a1, .int a2]) (S' := [.int (-11 : Int32)]) (σ' := (97, I, J, R)) rfl ?_
          have h := Option.some.inj h
          subst h
          exact az_E.ret (v := some (.int (-11 : Int32))) (σ' := (97, I, J, R)) rfl hQ
set_option maxRecDepth 100000 in
set_option maxHeartbeats 4000000 in
theorem re_M_asSort {ex : az_X} {I : Nat → Nat → Int32} {J : Nat → Nat → Int64} {R : Nat → Nat → Option Nat} {a0 : Int32} {a1 : Int64} {o : Int64} (h : rs_M_asSort a0 a1 = some o) {Q : Option Value → az_S → Prop} (hQ : Q (some (.long o)) (97, I, J, R)) : az_E az_F ex 0 249 0 [.int a0, .long a1, .retAddr 0] [] (97, I, J, R) Q := by
  unfold rs_M_asSort at h
  refine az_E.sn 1 (pc' := 1) (L' := [.int a0, .long a1, .retAddr 0]) (S' := [.int a0]) (σ' := (97, I, J, R)) rfl ?_
  refine az_E.br (c := a0 = 0) (tt := 4) (ff := 11) (L' := [.int a0, .long a1, .retAddr 0]) (S' := []) (σ' := (97, I, J, R)) rfl (fun hc_1 => ?_) (fun hc_1 => ?_)
  · rw [if_pos hc_1] at h
    refine az_E.sn 5 (pc' := 54) (L' := [.int a0, .long a1, .retAddr 0]) (S' := [.long a1.toInt32.toInt8.toInt32.toInt64]) (σ' := (97, I, J, R)) rfl ?_
    have h := Option.some.inj h
    subst h
    exact az_E.ret (v := some (.long a1.toInt32.toInt8.toInt32.toInt64)) (σ' := (97, I, J, R)) rfl hQ
  · rw [if_neg hc_1] at h
    refine az_E.sn 2 (pc' := 13) (L' := [.int a0, .long a1, .retAddr 0]) (S' := [.int (1 : Int32), .int a0]) (σ' := (97, I, J, R)) rfl ?_
    refine az_E.br (c := a0 = (1 : Int32)) (tt := 16) (ff := 23) (L' := [.int a0, .long a1, .retAddr 0]) (S' := []) (σ' := (97, I, J, R)) rfl (fun hc_2 => ?_) (fun hc_2 => ?_)
    · rw [if_pos hc_2] at h
      refine az_E.sn 5 (pc' := 54) (L' := [.int a0, .long a1, .retAddr 0]) (S' := [.long a1.toInt32.toInt16.toInt32.toInt64]) (σ' := (97, I, J, R)) rfl ?_
      have h := Option.some.inj h
      subst h
      exact az_E.ret (v := some (.long a1.toInt32.toInt16.toInt32.toInt64)) (σ' := (97, I, J, R)) rfl hQ
    · rw [if_neg hc_2] at h
      refine az_E.sn 2 (pc' := 25) (L' := [.int a0, .long a1, .retAddr 0]) (S' := [.int (2 : Int32), .int a0]) (σ' := (97, I, J, R)) rfl ?_
      refine az_E.br (c := a0 = (2 : Int32)) (tt := 28) (ff := 34) (L' := [.int a0, .long a1, .retAddr 0]) (S' := []) (σ' := (97, I, J, R)) rfl (fun hc_3 => ?_) (fun hc_3 => ?_)
      · rw [if_pos hc_3] at h
        refine az_E.sn 4 (pc' := 54) (L' := [.int a0, .long a1, .retAddr 0]) (S' := [.long a1.toInt32.toInt64]) (σ' := (97, I, J, R)) rfl ?_
        have h := Option.some.inj h
        subst h
        exact az_E.ret (v := some (.long a1.toInt32.toInt64)) (σ' := (97, I, J, R)) rfl hQ
      · rw [if_neg hc_3] at h
        refine az_E.sn 2 (pc' := 36) (L' := [.int a0, .long a1, .retAddr 0]) (S' := [.int (4 : Int32), .int a0]) (σ' := (97, I, J, R)) rfl ?_
        refine az_E.br (c := a0 = (4 : Int32)) (tt := 39) (ff := 53) (L' := [.int a0, .long a1, .retAddr 0]) (S' := []) (σ' := (97, I, J, R)) rfl (fun hc_4 => ?_) (fun hc_4 => ?_)
        · rw [if_pos hc_4] at h
          refine az_E.sn 3 (pc' := 42) (L' := [.int a0, .long a1, .retAddr 0]) (S' := [.int (lg_cmp a1 (0 : Int64))]) (σ' := (97, I, J, R)) rfl ?_
          refine az_E.br (c := (lg_cmp a1 (0 : Int64)) = 0) (tt := 49) (ff := 45) (L' := [.int a0, .long a1, .retAddr 0]) (S' := []) (σ' := (97, I, J, R)) rfl (fun hc_5 => ?_) (fun hc_5 => ?_)
          · rw [if_pos hc_5] at h
            refine az_E.sn 2 (pc' := 54) (L' := [.int a0, .long a1, .retAddr 0]) (S' := [.long (0 : Int64)]) (σ' := (97, I, J, R)) rfl ?_
            have h := Option.some.inj h
            subst h
            exact az_E.ret (v := some (.long (0 : Int64))) (σ' := (97, I, J, R)) rfl hQ
          · rw [if_neg hc_5] at h
            refine az_E.sn 2 (pc' := 54) (L' := [.int a0, .long a1, .retAddr 0]) (S' := [.long (1 : Int64)]) (σ' := (97, I, J, R)) rfl ?_
            have h := Option.some.inj h
            subst h
            exact az_E.ret (v := some (.long (1 : Int64))) (σ' := (97, I, J, R)) rfl hQ
        · rw [if_neg hc_4] at h
          refine az_E.sn 1 (pc' := 54) (L' := [.int a0, .long a1, .retAddr 0]) (S' := [.long a1]) (σ' := (97, I, J, R)) rfl ?_
          have h := Option.some.inj h
          subst h
          exact az_E.ret (v := some (.long a1)) (σ' := (97, I, J, R)) rfl hQ
set_option maxRecDepth 100000 in
set_option maxHeartbeats 4000000 in
theorem re_M_put_37 {ex : az_X} {I : Nat → Nat → Int32} {J : Nat → Nat → Int64} {R : Nat → Nat → Option Nat} {v3 : Int64} {v5 : Int32} {x : Int32 × (Nat → Nat → Int64)} (h : rs_M_put_37 I J v3 v5 = some x) {Q : Option Value → az_S → Prop} (hQ : Q (some (.int x.1)) (97, I, x.2, R)) : az_E az_F ex 3 250 37 [.retAddr 0, .retAddr 0, .retAddr 0, .long v3, .retAddr 0, .int v5] [] (97, I, J, R) Q := by
  unfold rs_M_put_37 at h
  refine az_E.sn 1 (pc' := 39) (L' := [.retAddr 0, .retAddr 0, .retAddr 0, .long v3, .retAddr 0, .int v5]) (S' := [.int v5]) (σ' := (97, I, J, R)) rfl ?_
  refine az_E.br (c := v5 = 0) (tt := 42) (ff := 46) (L' := [.retAddr 0, .retAddr 0, .retAddr 0, .long v3, .retAddr 0, .int v5]) (S' := []) (σ' := (97, I, J, R)) rfl (fun hc_8 => ?_) (fun hc_8 => ?_)
  · rw [if_pos hc_8] at h
    refine az_E.sn 2 (pc' := 48) (L' := [.retAddr 0, .retAddr 0, .retAddr 0, .long v3, .retAddr 0, .int v5]) (S' := [.int (1 : Int32)]) (σ' := (97, I, J, R)) rfl ?_
    have h := Option.some.inj h
    subst h
    exact az_E.ret (v := some (.int (1 : Int32))) (σ' := (97, I, J, R)) rfl hQ
  · rw [if_neg hc_8] at h
    refine az_E.sn 1 (pc' := 48) (L' := [.retAddr 0, .retAddr 0, .retAddr 0, .long v3, .retAddr 0, .int v5]) (S' := [.int v5]) (σ' := (97, I, J, R)) rfl ?_
    have h := Option.some.inj h
    subst h
    exact az_E.ret (v := some (.int v5)) (σ' := (97, I, J, R)) rfl hQ
set_option maxRecDepth 100000 in
set_option maxHeartbeats 4000000 in
theorem re_M_put {ex : az_X} {I : Nat → Nat → Int32} {J : Nat → Nat → Int64} {R : Nat → Nat → Option Nat} {a1 : Int32} {a2 : Int32} {a3 : Int64} {o : Int32 × (Nat → Nat → Int64)} (h : rs_M_put I J a1 a2 a3 = some o) {Q : Option Value → az_S → Prop} (hQ : Q (some (.int o.1)) (97, I, o.2, R)) : az_E az_F ex 3 250 0 [.ref 73, .int a1, .int a2, .long a3, .retAddr 0, .retAddr 0] [] (97, I, J, R) Q := by
  unfold rs_M_put at h
  refine az_E.sn 3 (pc' := 3) (L' := [.ref 73, .int a1, .int a2, .long a3, .retAddr 0, .retAddr 0]) (S' := [.int a2, .int a1, .ref 73]) (σ' := (97, I, J, R)) rfl ?_
  cases hx_2 : rs_M_refusal I a1 a2 with
  | none => rw [hx_2] at h; cases h
  | some x_1 =>
    rw [hx_2] at h
    dsimp only at h
    refine az_E.call (d := 2) (k' := 248) (vs := [.ref 73, .int a1, .int a2]) (pc' := 6) (S' := []) (Q1 := fun v s => v = some (.int x_1) ∧ s = (97, I, J, R)) rfl (az_E.deep (by omega) (re_M_refusal (J := J) (R := R)  hx_2 ⟨rfl, rfl⟩)) (fun v s hq => ?_)
    obtain ⟨rfl, rfl⟩ := hq
    show az_E az_F ex 3 250 6 [.ref 73, .int a1, .int a2, .long a3, .retAddr 0, .retAddr 0] [.int x_1] (97, I, J, R) _
    refine az_E.sn 2 (pc' := 10) (L' := [.ref 73, .int a1, .int a2, .long a3, .retAddr 0, .int x_1]) (S' := [.int x_1]) (σ' := (97, I, J, R)) rfl ?_
    refine az_E.br (c := x_1 = 0) (tt := 13) (ff := 37) (L' := [.ref 73, .int a1, .int a2, .long a3, .retAddr 0, .int x_1]) (S' := []) (σ' := (97, I, J, R)) rfl (fun hc_3 => ?_) (fun hc_3 => ?_)
    · rw [if_pos hc_3] at h
      refine az_E.sn 10 (pc' := 28) (L' := [.ref 73, .int a1, .int a2, .long a3, .retAddr 0, .int x_1]) (S' := [.int a1, .ref 96, .int (((60 : Int32) * a1) + a2), .ref 98]) (σ' := (97, I, J, R)) rfl ?_
      by_cases hc_4 : a1 < 0 ∨ 6 ≤ a1.toNatClampNeg
      · rw [if_pos hc_4] at h; cases h
      · rw [if_neg hc_4] at h
        refine az_E.oi (o := az_ai az_F ex (97, I, J, R) 96 a1) (pc' := 29) (L' := [.ref 73, .int a1, .int a2, .long a3, .retAddr 0, .int x_1]) (S' := [.int (((60 : Int32) * a1) + a2), .ref 98]) (σ' := (97, I, J, R)) (x := (I 96 a1.toNatClampNeg)) rfl (if_neg hc_4) ?_
        refine az_E.sn 3 (pc' := 33) (L' := [.ref 73, .int a1, .int a2, .long a3, .retAddr 0, .int x_1]) (S' := [.long a3, .int ((I 96 a1.toNatClampNeg) - (50 : Int32)), .int (((60 : Int32) * a1) + a2), .ref 98]) (σ' := (97, I, J, R)) rfl ?_
        cases hx_6 : rs_M_asSort ((I 96 a1.toNatClampNeg) - (50 : Int32)) a3 with
        | none => rw [hx_6] at h; cases h
        | some x_5 =>
          rw [hx_6] at h
          dsimp only at h
          refine az_E.call (d := 2) (k' := 249) (vs := [.int ((I 96 a1.toNatClampNeg) - (50 : Int32)), .long a3]) (pc' := 36) (S' := [.int (((60 : Int32) * a1) + a2), .ref 98]) (Q1 := fun v s => v = some (.long x_5) ∧ s = (97, I, J, R)) rfl (az_E.deep (by omega) (re_M_asSort (J := J) (R := R)  hx_6 ⟨rfl, rfl⟩)) (fun v s hq => ?_)
          obtain ⟨rfl, rfl⟩ := hq
          show az_E az_F ex 3 250 36 [.ref 73, .int a1, .int a2, .long a3, .retAddr 0, .int x_1] [.long x_5, .int (((60 : Int32) * a1) + a2), .ref 98] (97, I, J, R) _
          by_cases hc_7 : (((60 : Int32) * a1) + a2) < 0 ∨ 360 ≤ (((60 : Int32) * a1) + a2).toNatClampNeg
          · rw [if_pos hc_7] at h; cases h
          · rw [if_neg hc_7] at h
            refine az_E.o (o := az_sl az_F (97, I, J, R) 98 (((60 : Int32) * a1) + a2) x_5) (pc' := 37) (L' := [.ref 73, .int a1, .int a2, .long a3, .retAddr 0, .int x_1]) (S' := []) (x := (97, I, (az_u J 98 (((60 : Int32) * a1) + a2).toNatClampNeg x_5), R)) rfl (if_neg hc_7) ?_
            exact az_E.forget (L := [.retAddr 0, .retAddr 0, .retAddr 0, .long a3, .retAddr 0, .int x_1]) ⟨trivial, trivial, trivial, rfl, trivial, rfl, trivial⟩ (re_M_put_37 (I := I) (J := (az_u J 98 (((60 : Int32) * a1) + a2).toNatClampNeg x_5)) (R := R)  h hQ)
    · rw [if_neg hc_3] at h
      exact az_E.forget (L := [.retAddr 0, .retAddr 0, .retAddr 0, .long a3, .retAddr 0, .int x_1]) ⟨trivial, trivial, trivial, rfl, trivial, rfl, trivial⟩ (re_M_put_37 (I := I) (J := J) (R := R)  h hQ)
set_option maxRecDepth 100000 in
set_option maxHeartbeats 4000000 in
theorem re_X_element_30_61 {ex : az_X} {I : Nat → Nat → Int32} {J : Nat → Nat → Int64} {R : Nat → Nat → Option Nat} {v2 : Int32} {x : Int64} (h : rs_X_element_30 61 I J v2 = some x) {Q : Option Value → az_S → Prop} (hQ : Q (some (.long x)) (97, I, J, R)) : az_E az_F ex 2 127 30 [.retAddr 0, .retAddr 0, .int v2] [.ref 61] (97, I, J, R) Q := by
  unfold rs_X_element_30 at h
  refine az_E.sn 2 (pc' := 34) (L' := [.retAddr 0, .retAddr 0, .int v2]) (S' := [.int v2, .ref (61 + 1)]) (σ' := (97, I, J, R)) rfl ?_
  by_cases hc_8 : v2 < 0 ∨ 60 ≤ v2.toNatClampNeg
  · rw [if_pos hc_8] at h; cases h
  · rw [if_neg hc_8] at h
    refine az_E.ol (o := az_al az_F (97, I, J, R) (61 + 1) v2) (pc' := 35) (L' := [.retAddr 0, .retAddr 0, .int v2]) (S' := []) (σ' := (97, I, J, R)) (x := (J (61 + 1) v2.toNatClampNeg)) rfl (if_neg hc_8) ?_
    have h := Option.some.inj h
    subst h
    exact az_E.ret (v := some (.long (J (61 + 1) v2.toNatClampNeg))) (σ' := (97, I, J, R)) rfl hQ
set_option maxRecDepth 100000 in
set_option maxHeartbeats 4000000 in
theorem re_X_element_30_63 {ex : az_X} {I : Nat → Nat → Int32} {J : Nat → Nat → Int64} {R : Nat → Nat → Option Nat} {v2 : Int32} {x : Int64} (h : rs_X_element_30 63 I J v2 = some x) {Q : Option Value → az_S → Prop} (hQ : Q (some (.long x)) (97, I, J, R)) : az_E az_F ex 2 127 30 [.retAddr 0, .retAddr 0, .int v2] [.ref 63] (97, I, J, R) Q := by
  unfold rs_X_element_30 at h
  refine az_E.sn 2 (pc' := 34) (L' := [.retAddr 0, .retAddr 0, .int v2]) (S' := [.int v2, .ref (63 + 1)]) (σ' := (97, I, J, R)) rfl ?_
  by_cases hc_9 : v2 < 0 ∨ 60 ≤ v2.toNatClampNeg
  · rw [if_pos hc_9] at h; cases h
  · rw [if_neg hc_9] at h
    refine az_E.ol (o := az_al az_F (97, I, J, R) (63 + 1) v2) (pc' := 35) (L' := [.retAddr 0, .retAddr 0, .int v2]) (S' := []) (σ' := (97, I, J, R)) (x := (J (63 + 1) v2.toNatClampNeg)) rfl (if_neg hc_9) ?_
    have h := Option.some.inj h
    subst h
    exact az_E.ret (v := some (.long (J (63 + 1) v2.toNatClampNeg))) (σ' := (97, I, J, R)) rfl hQ
set_option maxRecDepth 100000 in
set_option maxHeartbeats 4000000 in
theorem re_X_element_30_65 {ex : az_X} {I : Nat → Nat → Int32} {J : Nat → Nat → Int64} {R : Nat → Nat → Option Nat} {v2 : Int32} {x : Int64} (h : rs_X_element_30 65 I J v2 = some x) {Q : Option Value → az_S → Prop} (hQ : Q (some (.long x)) (97, I, J, R)) : az_E az_F ex 2 127 30 [.retAddr 0, .retAddr 0, .int v2] [.ref 65] (97, I, J, R) Q := by
  unfold rs_X_element_30 at h
  refine az_E.sn 2 (pc' := 34) (L' := [.retAddr 0, .retAddr 0, .int v2]) (S' := [.int v2, .ref (65 + 1)]) (σ' := (97, I, J, R)) rfl ?_
  by_cases hc_10 : v2 < 0 ∨ 60 ≤ v2.toNatClampNeg
  · rw [if_pos hc_10] at h; cases h
  · rw [if_neg hc_10] at h
    refine az_E.ol (o := az_al az_F (97, I, J, R) (65 + 1) v2) (pc' := 35) (L' := [.retAddr 0, .retAddr 0, .int v2]) (S' := []) (σ' := (97, I, J, R)) (x := (J (65 + 1) v2.toNatClampNeg)) rfl (if_neg hc_10) ?_
    have h := Option.some.inj h
    subst h
    exact az_E.ret (v := some (.long (J (65 + 1) v2.toNatClampNeg))) (σ' := (97, I, J, R)) rfl hQ
set_option maxRecDepth 100000 in
set_option maxHeartbeats 4000000 in
theorem re_X_element_30_67 {ex : az_X} {I : Nat → Nat → Int32} {J : Nat → Nat → Int64} {R : Nat → Nat → Option Nat} {v2 : Int32} {x : Int64} (h : rs_X_element_30 67 I J v2 = some x) {Q : Option Value → az_S → Prop} (hQ : Q (some (.long x)) (97, I, J, R)) : az_E az_F ex 2 127 30 [.retAddr 0, .retAddr 0, .int v2] [.ref 67] (97, I, J, R) Q := by
  unfold rs_X_element_30 at h
  refine az_E.sn 2 (pc' := 34) (L' := [.retAddr 0, .retAddr 0, .int v2]) (S' := [.int v2, .ref (67 + 1)]) (σ' := (97, I, J, R)) rfl ?_
  by_cases hc_11 : v2 < 0 ∨ 60 ≤ v2.toNatClampNeg
  · rw [if_pos hc_11] at h; cases h
  · rw [if_neg hc_11] at h
    refine az_E.ol (o := az_al az_F (97, I, J, R) (67 + 1) v2) (pc' := 35) (L' := [.retAddr 0, .retAddr 0, .int v2]) (S' := []) (σ' := (97, I, J, R)) (x := (J (67 + 1) v2.toNatClampNeg)) rfl (if_neg hc_11) ?_
    have h := Option.some.inj h
    subst h
    exact az_E.ret (v := some (.long (J (67 + 1) v2.toNatClampNeg))) (σ' := (97, I, J, R)) rfl hQ
set_option maxRecDepth 100000 in
set_option maxHeartbeats 4000000 in
theorem re_X_element_30_69 {ex : az_X} {I : Nat → Nat → Int32} {J : Nat → Nat → Int64} {R : Nat → Nat → Option Nat} {v2 : Int32} {x : Int64} (h : rs_X_element_30 69 I J v2 = some x) {Q : Option Value → az_S → Prop} (hQ : Q (some (.long x)) (97, I, J, R)) : az_E az_F ex 2 127 30 [.retAddr 0, .retAddr 0, .int v2] [.ref 69] (97, I, J, R) Q := by
  unfold rs_X_element_30 at h
  refine az_E.sn 2 (pc' := 34) (L' := [.retAddr 0, .retAddr 0, .int v2]) (S' := [.int v2, .ref (69 + 1)]) (σ' := (97, I, J, R)) rfl ?_
  by_cases hc_12 : v2 < 0 ∨ 60 ≤ v2.toNatClampNeg
  · rw [if_pos hc_12] at h; cases h
  · rw [if_neg hc_12] at h
    refine az_E.ol (o := az_al az_F (97, I, J, R) (69 + 1) v2) (pc' := 35) (L' := [.retAddr 0, .retAddr 0, .int v2]) (S' := []) (σ' := (97, I, J, R)) (x := (J (69 + 1) v2.toNatClampNeg)) rfl (if_neg hc_12) ?_
    have h := Option.some.inj h
    subst h
    exact az_E.ret (v := some (.long (J (69 + 1) v2.toNatClampNeg))) (σ' := (97, I, J, R)) rfl hQ
set_option maxRecDepth 100000 in
set_option maxHeartbeats 4000000 in
theorem re_X_element_30_71 {ex : az_X} {I : Nat → Nat → Int32} {J : Nat → Nat → Int64} {R : Nat → Nat → Option Nat} {v2 : Int32} {x : Int64} (h : rs_X_element_30 71 I J v2 = some x) {Q : Option Value → az_S → Prop} (hQ : Q (some (.long x)) (97, I, J, R)) : az_E az_F ex 2 127 30 [.retAddr 0, .retAddr 0, .int v2] [.ref 71] (97, I, J, R) Q := by
  unfold rs_X_element_30 at h
  refine az_E.sn 2 (pc' := 34) (L' := [.retAddr 0, .retAddr 0, .int v2]) (S' := [.int v2, .ref (71 + 1)]) (σ' := (97, I, J, R)) rfl ?_
  by_cases hc_13 : v2 < 0 ∨ 60 ≤ v2.toNatClampNeg
  · rw [if_pos hc_13] at h; cases h
  · rw [if_neg hc_13] at h
    refine az_E.ol (o := az_al az_F (97, I, J, R) (71 + 1) v2) (pc' := 35) (L' := [.retAddr 0, .retAddr 0, .int v2]) (S' := []) (σ' := (97, I, J, R)) (x := (J (71 + 1) v2.toNatClampNeg)) rfl (if_neg hc_13) ?_
    have h := Option.some.inj h
    subst h
    exact az_E.ret (v := some (.long (J (71 + 1) v2.toNatClampNeg))) (σ' := (97, I, J, R)) rfl hQ
set_option maxRecDepth 100000 in
set_option maxHeartbeats 4000000 in
theorem re_X_element_13_61 {ex : az_X} {I : Nat → Nat → Int32} {J : Nat → Nat → Int64} {R : Nat → Nat → Option Nat} {v1 : Int32} {v2 : Int32} {x : Int64} (h : rs_X_element_13 61 I J v1 v2 = some x) {Q : Option Value → az_S → Prop} (hQ : Q (some (.long x)) (97, I, J, R)) : az_E az_F ex 2 127 13 [.ref 3, .int v1, .int v2] [.ref 61] (97, I, J, R) Q := by
  unfold rs_X_element_13 at h
  refine az_E.sn 1 (pc' := 14) (L' := [.ref 3, .int v1, .int v2]) (S' := [.int v2, .ref 61]) (σ' := (97, I, J, R)) rfl ?_
  cases hx_5 : rs_Sh_refusalAt 61 I v2 with
  | none => rw [hx_5] at h; cases h
  | some x_4 =>
    rw [hx_5] at h
    dsimp only at h
    refine az_E.call (d := 1) (k' := 61) (vs := [.ref 61, .int v2]) (pc' := 17) (S' := []) (Q1 := fun v s => v = some (.int x_4) ∧ s = (97, I, J, R)) rfl (az_E.deep (by omega) (re_Sh_refusalAt_61 (J := J) (R := R)  hx_5 ⟨rfl, rfl⟩)) (fun v s hq => ?_)
    obtain ⟨rfl, rfl⟩ := hq
    show az_E az_F ex 2 127 17 [.ref 3, .int v1, .int v2] [.int x_4] (97, I, J, R) _
    refine az_E.br (c := x_4 = 0) (tt := 24) (ff := 20) (L' := [.ref 3, .int v1, .int v2]) (S' := []) (σ' := (97, I, J, R)) rfl (fun hc_6 => ?_) (fun hc_6 => ?_)
    · rw [if_pos hc_6] at h
      refine az_E.sn 3 (pc' := 29) (L' := [.ref 3, .int v1, .int v2]) (S' := [.int v1, .ref 58]) (σ' := (97, I, J, R)) rfl ?_
      by_cases hc_7 : v1 < 0 ∨ 6 ≤ v1.toNatClampNeg
      · rw [if_pos hc_7] at h; cases h
      · rw [if_neg hc_7] at h
        rcases az_six hc_7 with ehc_7 | ehc_7 | ehc_7 | ehc_7 | ehc_7 | ehc_7
        · rw [ehc_7] at h ⊢; (try rw [ehc_7] at hQ)
          refine az_E.ov (pc' := 30) (L' := [.ref 3, .int (0 : Int32), .int v2]) (S' := []) (σ' := (97, I, J, R)) (x := .ref 61) (o := az_aa az_F (97, I, J, R) 58 (0 : Int32)) rfl rfl ?_
          exact az_E.forget (L := [.retAddr 0, .retAddr 0, .int v2]) ⟨trivial, trivial, rfl, trivial⟩ (re_X_element_30_61 (I := I) (J := J) (R := R)  h hQ)
        · rw [ehc_7] at h ⊢; (try rw [ehc_7] at hQ)
          refine az_E.ov (pc' := 30) (L' := [.ref 3, .int (1 : Int32), .int v2]) (S' := []) (σ' := (97, I, J, R)) (x := .ref 63) (o := az_aa az_F (97, I, J, R) 58 (1 : Int32)) rfl rfl ?_
          exact az_E.forget (L := [.retAddr 0, .retAddr 0, .int v2]) ⟨trivial, trivial, rfl, trivial⟩ (re_X_element_30_63 (I := I) (J := J) (R := R)  h hQ)
        · rw [ehc_7] at h ⊢; (try rw [ehc_7] at hQ)
          refine az_E.ov (pc' := 30) (L' := [.ref 3, .int (2 : Int32), .int v2]) (S' := []) (σ' := (97, I, J, R)) (x := .ref 65) (o := az_aa az_F (97, I, J, R) 58 (2 : Int32)) rfl rfl ?_
          exact az_E.forget (L := [.retAddr 0, .retAddr 0, .int v2]) ⟨trivial, trivial, rfl, trivial⟩ (re_X_element_30_65 (I := I) (J := J) (R := R)  h hQ)
        · rw [ehc_7] at h ⊢; (try rw [ehc_7] at hQ)
          refine az_E.ov (pc' := 30) (L' := [.ref 3, .int (3 : Int32), .int v2]) (S' := []) (σ' := (97, I, J, R)) (x := .ref 67) (o := az_aa az_F (97, I, J, R) 58 (3 : Int32)) rfl rfl ?_
          exact az_E.forget (L := [.retAddr 0, .retAddr 0, .int v2]) ⟨trivial, trivial, rfl, trivial⟩ (re_X_element_30_67 (I := I) (J := J) (R := R)  h hQ)
        · rw [ehc_7] at h ⊢; (try rw [ehc_7] at hQ)
          refine az_E.ov (pc' := 30) (L' := [.ref 3, .int (4 : Int32), .int v2]) (S' := []) (σ' := (97, I, J, R)) (x := .ref 69) (o := az_aa az_F (97, I, J, R) 58 (4 : Int32)) rfl rfl ?_
          exact az_E.forget (L := [.retAddr 0, .retAddr 0, .int v2]) ⟨trivial, trivial, rfl, trivial⟩ (re_X_element_30_69 (I := I) (J := J) (R := R)  h hQ)
        · rw [ehc_7] at h ⊢; (try rw [ehc_7] at hQ)
          refine az_E.ov (pc' := 30) (L' := [.ref 3, .int (5 : Int32), .int v2]) (S' := []) (σ' := (97, I, J, R)) (x := .ref 71) (o := az_aa az_F (97, I, J, R) 58 (5 : Int32)) rfl rfl ?_
          exact az_E.forget (L := [.retAddr 0, .retAddr 0, .int v2]) ⟨trivial, trivial, rfl, trivial⟩ (re_X_element_30_71 (I := I) (J := J) (R := R)  h hQ)
    · rw [if_neg hc_6] at h
      refine az_E.sn 1 (pc' := 23) (L' := [.ref 3, .int v1, .int v2]) (S' := [.long (-9223372036854775808 : Int64)]) (σ' := (97, I, J, R)) rfl ?_
      have h := Option.some.inj h
      subst h
      exact az_E.ret (v := some (.long (-9223372036854775808 : Int64))) (σ' := (97, I, J, R)) rfl hQ
set_option maxRecDepth 100000 in
set_option maxHeartbeats 4000000 in
theorem re_X_element_13_63 {ex : az_X} {I : Nat → Nat → Int32} {J : Nat → Nat → Int64} {R : Nat → Nat → Option Nat} {v1 : Int32} {v2 : Int32} {x : Int64} (h : rs_X_element_13 63 I J v1 v2 = some x) {Q : Option Value → az_S → Prop} (hQ : Q (some (.long x)) (97, I, J, R)) : az_E az_F ex 2 127 13 [.ref 3, .int v1, .int v2] [.ref 63] (97, I, J, R) Q := by
  unfold rs_X_element_13 at h
  refine az_E.sn 1 (pc' := 14) (L' := [.ref 3, .int v1, .int v2]) (S' := [.int v2, .ref 63]) (σ' := (97, I, J, R)) rfl ?_
  cases hx_15 : rs_Sh_refusalAt 63 I v2 with
  | none => rw [hx_15] at h; cases h
  | some x_14 =>
    rw [hx_15] at h
    dsimp only at h
    refine az_E.call (d := 1) (k' := 61) (vs := [.ref 63, .int v2]) (pc' := 17) (S' := []) (Q1 := fun v s => v = some (.int x_14) ∧ s = (97, I, J, R)) rfl (az_E.deep (by omega) (re_Sh_refusalAt_63 (J := J) (R := R)  hx_15 ⟨rfl, rfl⟩)) (fun v s hq => ?_)
    obtain ⟨rfl, rfl⟩ := hq
    show az_E az_F ex 2 127 17 [.ref 3, .int v1, .int v2] [.int x_14] (97, I, J, R) _
    refine az_E.br (c := x_14 = 0) (tt := 24) (ff := 20) (L' := [.ref 3, .int v1, .int v2]) (S' := []) (σ' := (97, I, J, R)) rfl (fun hc_16 => ?_) (fun hc_16 => ?_)
    · rw [if_pos hc_16] at h
      refine az_E.sn 3 (pc' := 29) (L' := [.ref 3, .int v1, .int v2]) (S' := [.int v1, .ref 58]) (σ' := (97, I, J, R)) rfl ?_
      by_cases hc_17 : v1 < 0 ∨ 6 ≤ v1.toNatClampNeg
      · rw [if_pos hc_17] at h; cases h
      · rw [if_neg hc_17] at h
        rcases az_six hc_17 with ehc_17 | ehc_17 | ehc_17 | ehc_17 | ehc_17 | ehc_17
        · rw [ehc_17] at h ⊢; (try rw [ehc_17] at hQ)
          refine az_E.ov (pc' := 30) (L' := [.ref 3, .int (0 : Int32), .int v2]) (S' := []) (σ' := (97, I, J, R)) (x := .ref 61) (o := az_aa az_F (97, I, J, R) 58 (0 : Int32)) rfl rfl ?_
          exact az_E.forget (L := [.retAddr 0, .retAddr 0, .int v2]) ⟨trivial, trivial, rfl, trivial⟩ (re_X_element_30_61 (I := I) (J := J) (R := R)  h hQ)
        · rw [ehc_17] at h ⊢; (try rw [ehc_17] at hQ)
          refine az_E.ov (pc' := 30) (L' := [.ref 3, .int (1 : Int32), .int v2]) (S' := []) (σ' := (97, I, J, R)) (x := .ref 63) (o := az_aa az_F (97, I, J, R) 58 (1 : Int32)) rfl rfl ?_
          exact az_E.forget (L := [.retAddr 0, .retAddr 0, .int v2]) ⟨trivial, trivial, rfl, trivial⟩ (re_X_element_30_63 (I := I) (J := J) (R := R)  h hQ)
        · rw [ehc_17] at h ⊢; (try rw [ehc_17] at hQ)
          refine az_E.ov (pc' := 30) (L' := [.ref 3, .int (2 : Int32), .int v2]) (S' := []) (σ' := (97, I, J, R)) (x := .ref 65) (o := az_aa az_F (97, I, J, R) 58 (2 : Int32)) rfl rfl ?_
          exact az_E.forget (L := [.retAddr 0, .retAddr 0, .int v2]) ⟨trivial, trivial, rfl, trivial⟩ (re_X_element_30_65 (I := I) (J := J) (R := R)  h hQ)
        · rw [ehc_17] at h ⊢; (try rw [ehc_17] at hQ)
          refine az_E.ov (pc' := 30) (L' := [.ref 3, .int (3 : Int32), .int v2]) (S' := []) (σ' := (97, I, J, R)) (x := .ref 67) (o := az_aa az_F (97, I, J, R) 58 (3 : Int32)) rfl rfl ?_
          exact az_E.forget (L := [.retAddr 0, .retAddr 0, .int v2]) ⟨trivial, trivial, rfl, trivial⟩ (re_X_element_30_67 (I := I) (J := J) (R := R)  h hQ)
        · rw [ehc_17] at h ⊢; (try rw [ehc_17] at hQ)
          refine az_E.ov (pc' := 30) (L' := [.ref 3, .int (4 : Int32), .int v2]) (S' := []) (σ' := (97, I, J, R)) (x := .ref 69) (o := az_aa az_F (97, I, J, R) 58 (4 : Int32)) rfl rfl ?_
          exact az_E.forget (L := [.retAddr 0, .retAddr 0, .int v2]) ⟨trivial, trivial, rfl, trivial⟩ (re_X_element_30_69 (I := I) (J := J) (R := R)  h hQ)
        · rw [ehc_17] at h ⊢; (try rw [ehc_17] at hQ)
          refine az_E.ov (pc' := 30) (L' := [.ref 3, .int (5 : Int32), .int v2]) (S' := []) (σ' := (97, I, J, R)) (x := .ref 71) (o := az_aa az_F (97, I, J, R) 58 (5 : Int32)) rfl rfl ?_
          exact az_E.forget (L := [.retAddr 0, .retAddr 0, .int v2]) ⟨trivial, trivial, rfl, trivial⟩ (re_X_element_30_71 (I := I) (J := J) (R := R)  h hQ)
    · rw [if_neg hc_16] at h
      refine az_E.sn 1 (pc' := 23) (L' := [.ref 3, .int v1, .int v2]) (S' := [.long (-9223372036854775808 : Int64)]) (σ' := (97, I, J, R)) rfl ?_
      have h := Option.some.inj h
      subst h
      exact az_E.ret (v := some (.long (-9223372036854775808 : Int64))) (σ' := (97, I, J, R)) rfl hQ
set_option maxRecDepth 100000 in
set_option maxHeartbeats 4000000 in
theorem re_X_element_13_65 {ex : az_X} {I : Nat → Nat → Int32} {J : Nat → Nat → Int64} {R : Nat → Nat → Option Nat} {v1 : Int32} {v2 : Int32} {x : Int64} (h : rs_X_element_13 65 I J v1 v2 = some x) {Q : Option Value → az_S → Prop} (hQ : Q (some (.long x)) (97, I, J, R)) : az_E az_F ex 2 127 13 [.ref 3, .int v1, .int v2] [.ref 65] (97, I, J, R) Q := by
  unfold rs_X_element_13 at h
  refine az_E.sn 1 (pc' := 14) (L' := [.ref 3, .int v1, .int v2]) (S' := [.int v2, .ref 65]) (σ' := (97, I, J, R)) rfl ?_
  cases hx_24 : rs_Sh_refusalAt 65 I v2 with
  | none => rw [hx_24] at h; cases h
  | some x_23 =>
    rw [hx_24] at h
    dsimp only at h
    refine az_E.call (d := 1) (k' := 61) (vs := [.ref 65, .int v2]) (pc' := 17) (S' := []) (Q1 := fun v s => v = some (.int x_23) ∧ s = (97, I, J, R)) rfl (az_E.deep (by omega) (re_Sh_refusalAt_65 (J := J) (R := R)  hx_24 ⟨rfl, rfl⟩)) (fun v s hq => ?_)
    obtain ⟨rfl, rfl⟩ := hq
    show az_E az_F ex 2 127 17 [.ref 3, .int v1, .int v2] [.int x_23] (97, I, J, R) _
    refine az_E.br (c := x_23 = 0) (tt := 24) (ff := 20) (L' := [.ref 3, .int v1, .int v2]) (S' := []) (σ' := (97, I, J, R)) rfl (fun hc_25 => ?_) (fun hc_25 => ?_)
    · rw [if_pos hc_25] at h
      refine az_E.sn 3 (pc' := 29) (L' := [.ref 3, .int v1, .int v2]) (S' := [.int v1, .ref 58]) (σ' := (97, I, J, R)) rfl ?_
      by_cases hc_26 : v1 < 0 ∨ 6 ≤ v1.toNatClampNeg
      · rw [if_pos hc_26] at h; cases h
      · rw [if_neg hc_26] at h
        rcases az_six hc_26 with ehc_26 | ehc_26 | ehc_26 | ehc_26 | ehc_26 | ehc_26
        · rw [ehc_26] at h ⊢; (try rw [ehc_26] at hQ)
          refine az_E.ov (pc' := 30) (L' := [.ref 3, .int (0 : Int32), .int v2]) (S' := []) (σ' := (97, I, J, R)) (x := .ref 61) (o := az_aa az_F (97, I, J, R) 58 (0 : Int32)) rfl rfl ?_
          exact az_E.forget (L := [.retAddr 0, .retAddr 0, .int v2]) ⟨trivial, trivial, rfl, trivial⟩ (re_X_element_30_61 (I := I) (J := J) (R := R)  h hQ)
        · rw [ehc_26] at h ⊢; (try rw [ehc_26] at hQ)
          refine az_E.ov (pc' := 30) (L' := [.ref 3, .int (1 : Int32), .int v2]) (S' := []) (σ' := (97, I, J, R)) (x := .ref 63) (o := az_aa az_F (97, I, J, R) 58 (1 : Int32)) rfl rfl ?_
          exact az_E.forget (L := [.retAddr 0, .retAddr 0, .int v2]) ⟨trivial, trivial, rfl, trivial⟩ (re_X_element_30_63 (I := I) (J := J) (R := R)  h hQ)
        · rw [ehc_26] at h ⊢; (try rw [ehc_26] at hQ)
          refine az_E.ov (pc' := 30) (L' := [.ref 3, .int (2 : Int32), .int v2]) (S' := []) (σ' := (97, I, J, R)) (x := .ref 65) (o := az_aa az_F (97, I, J, R) 58 (2 : Int32)) rfl rfl ?_
          exact az_E.forget (L := [.retAddr 0, .retAddr 0, .int v2]) ⟨trivial, trivial, rfl, trivial⟩ (re_X_element_30_65 (I := I) (J := J) (R := R)  h hQ)
        · rw [ehc_26] at h ⊢; (try rw [ehc_26] at hQ)
          refine az_E.ov (pc' := 30) (L' := [.ref 3, .int (3 : Int32), .int v2]) (S' := []) (σ' := (97, I, J, R)) (x := .ref 67) (o := az_aa az_F (97, I, J, R) 58 (3 : Int32)) rfl rfl ?_
          exact az_E.forget (L := [.retAddr 0, .retAddr 0, .int v2]) ⟨trivial, trivial, rfl, trivial⟩ (re_X_element_30_67 (I := I) (J := J) (R := R)  h hQ)
        · rw [ehc_26] at h ⊢; (try rw [ehc_26] at hQ)
          refine az_E.ov (pc' := 30) (L' := [.ref 3, .int (4 : Int32), .int v2]) (S' := []) (σ' := (97, I, J, R)) (x := .ref 69) (o := az_aa az_F (97, I, J, R) 58 (4 : Int32)) rfl rfl ?_
          exact az_E.forget (L := [.retAddr 0, .retAddr 0, .int v2]) ⟨trivial, trivial, rfl, trivial⟩ (re_X_element_30_69 (I := I) (J := J) (R := R)  h hQ)
        · rw [ehc_26] at h ⊢; (try rw [ehc_26] at hQ)
          refine az_E.ov (pc' := 30) (L' := [.ref 3, .int (5 : Int32), .int v2]) (S' := []) (σ' := (97, I, J, R)) (x := .ref 71) (o := az_aa az_F (97, I, J, R) 58 (5 : Int32)) rfl rfl ?_
          exact az_E.forget (L := [.retAddr 0, .retAddr 0, .int v2]) ⟨trivial, trivial, rfl, trivial⟩ (re_X_element_30_71 (I := I) (J := J) (R := R)  h hQ)
    · rw [if_neg hc_25] at h
      refine az_E.sn 1 (pc' := 23) (L' := [.ref 3, .int v1, .int v2]) (S' := [.long (-9223372036854775808 : Int64)]) (σ' := (97, I, J, R)) rfl ?_
      have h := Option.some.inj h
      subst h
      exact az_E.ret (v := some (.long (-9223372036854775808 : Int64))) (σ' := (97, I, J, R)) rfl hQ
set_option maxRecDepth 100000 in
set_option maxHeartbeats 4000000 in
theorem re_X_element_13_67 {ex : az_X} {I : Nat → Nat → Int32} {J : Nat → Nat → Int64} {R : Nat → Nat → Option Nat} {v1 : Int32} {v2 : Int32} {x : Int64} (h : rs_X_element_13 67 I J v1 v2 = some x) {Q : Option Value → az_S → Prop} (hQ : Q (some (.long x)) (97, I, J, R)) : az_E az_F ex 2 127 13 [.ref 3, .int v1, .int v2] [.ref 67] (97, I, J, R) Q := by
  unfold rs_X_element_13 at h
  refine az_E.sn 1 (pc' := 14) (L' := [.ref 3, .int v1, .int v2]) (S' := [.int v2, .ref 67]) (σ' := (97, I, J, R)) rfl ?_
  cases hx_33 : rs_Sh_refusalAt 67 I v2 with
  | none => rw [hx_33] at h; cases h
  | some x_32 =>
    rw [hx_33] at h
    dsimp only at h
    refine az_E.call (d := 1) (k' := 61) (vs := [.ref 67, .int v2]) (pc' := 17) (S' := []) (Q1 := fun v s => v = some (.int x_32) ∧ s = (97, I, J, R)) rfl (az_E.deep (by omega) (re_Sh_refusalAt_67 (J := J) (R := R)  hx_33 ⟨rfl, rfl⟩)) (fun v s hq => ?_)
    obtain ⟨rfl, rfl⟩ := hq
    show az_E az_F ex 2 127 17 [.ref 3, .int v1, .int v2] [.int x_32] (97, I, J, R) _
    refine az_E.br (c := x_32 = 0) (tt := 24) (ff := 20) (L' := [.ref 3, .int v1, .int v2]) (S' := []) (σ' := (97, I, J, R)) rfl (fun hc_34 => ?_) (fun hc_34 => ?_)
    · rw [if_pos hc_34] at h
      refine az_E.sn 3 (pc' := 29) (L' := [.ref 3, .int v1, .int v2]) (S' := [.int v1, .ref 58]) (σ' := (97, I, J, R)) rfl ?_
      by_cases hc_35 : v1 < 0 ∨ 6 ≤ v1.toNatClampNeg
      · rw [if_pos hc_35] at h; cases h
      · rw [if_neg hc_35] at h
        rcases az_six hc_35 with ehc_35 | ehc_35 | ehc_35 | ehc_35 | ehc_35 | ehc_35
        · rw [ehc_35] at h ⊢; (try rw [ehc_35] at hQ)
          refine az_E.ov (pc' := 30) (L' := [.ref 3, .int (0 : Int32), .int v2]) (S' := []) (σ' := (97, I, J, R)) (x := .ref 61) (o := az_aa az_F (97, I, J, R) 58 (0 : Int32)) rfl rfl ?_
          exact az_E.forget (L := [.retAddr 0, .retAddr 0, .int v2]) ⟨trivial, trivial, rfl, trivial⟩ (re_X_element_30_61 (I := I) (J := J) (R := R)  h hQ)
        · rw [ehc_35] at h ⊢; (try rw [ehc_35] at hQ)
          refine az_E.ov (pc' := 30) (L' := [.ref 3, .int (1 : Int32), .int v2]) (S' := []) (σ' := (97, I, J, R)) (x := .ref 63) (o := az_aa az_F (97, I, J, R) 58 (1 : Int32)) rfl rfl ?_
          exact az_E.forget (L := [.retAddr 0, .retAddr 0, .int v2]) ⟨trivial, trivial, rfl, trivial⟩ (re_X_element_30_63 (I := I) (J := J) (R := R)  h hQ)
        · rw [ehc_35] at h ⊢; (try rw [ehc_35] at hQ)
          refine az_E.ov (pc' := 30) (L' := [.ref 3, .int (2 : Int32), .int v2]) (S' := []) (σ' := (97, I, J, R)) (x := .ref 65) (o := az_aa az_F (97, I, J, R) 58 (2 : Int32)) rfl rfl ?_
          exact az_E.forget (L := [.retAddr 0, .retAddr 0, .int v2]) ⟨trivial, trivial, rfl, trivial⟩ (re_X_element_30_65 (I := I) (J := J) (R := R)  h hQ)
        · rw [ehc_35] at h ⊢; (try rw [ehc_35] at hQ)
          refine az_E.ov (pc' := 30) (L' := [.ref 3, .int (3 : Int32), .int v2]) (S' := []) (σ' := (97, I, J, R)) (x := .ref 67) (o := az_aa az_F (97, I, J, R) 58 (3 : Int32)) rfl rfl ?_
          exact az_E.forget (L := [.retAddr 0, .retAddr 0, .int v2]) ⟨trivial, trivial, rfl, trivial⟩ (re_X_element_30_67 (I := I) (J := J) (R := R)  h hQ)
        · rw [ehc_35] at h ⊢; (try rw [ehc_35] at hQ)
          refine az_E.ov (pc' := 30) (L' := [.ref 3, .int (4 : Int32), .int v2]) (S' := []) (σ' := (97, I, J, R)) (x := .ref 69) (o := az_aa az_F (97, I, J, R) 58 (4 : Int32)) rfl rfl ?_
          exact az_E.forget (L := [.retAddr 0, .retAddr 0, .int v2]) ⟨trivial, trivial, rfl, trivial⟩ (re_X_element_30_69 (I := I) (J := J) (R := R)  h hQ)
        · rw [ehc_35] at h ⊢; (try rw [ehc_35] at hQ)
          refine az_E.ov (pc' := 30) (L' := [.ref 3, .int (5 : Int32), .int v2]) (S' := []) (σ' := (97, I, J, R)) (x := .ref 71) (o := az_aa az_F (97, I, J, R) 58 (5 : Int32)) rfl rfl ?_
          exact az_E.forget (L := [.retAddr 0, .retAddr 0, .int v2]) ⟨trivial, trivial, rfl, trivial⟩ (re_X_element_30_71 (I := I) (J := J) (R := R)  h hQ)
    · rw [if_neg hc_34] at h
      refine az_E.sn 1 (pc' := 23) (L' := [.ref 3, .int v1, .int v2]) (S' := [.long (-9223372036854775808 : Int64)]) (σ' := (97, I, J, R)) rfl ?_
      have h := Option.some.inj h
      subst h
      exact az_E.ret (v := some (.long (-9223372036854775808 : Int64))) (σ' := (97, I, J, R)) rfl hQ
set_option maxRecDepth 100000 in
set_option maxHeartbeats 4000000 in
theorem re_X_element_13_69 {ex : az_X} {I : Nat → Nat → Int32} {J : Nat → Nat → Int64} {R : Nat → Nat → Option Nat} {v1 : Int32} {v2 : Int32} {x : Int64} (h : rs_X_element_13 69 I J v1 v2 = some x) {Q : Option Value → az_S → Prop} (hQ : Q (some (.long x)) (97, I, J, R)) : az_E az_F ex 2 127 13 [.ref 3, .int v1, .int v2] [.ref 69] (97, I, J, R) Q := by
  unfold rs_X_element_13 at h
  refine az_E.sn 1 (pc' := 14) (L' := [.ref 3, .int v1, .int v2]) (S' := [.int v2, .ref 69]) (σ' := (97, I, J, R)) rfl ?_
  cases hx_42 : rs_Sh_refusalAt 69 I v2 with
  | none => rw [hx_42] at h; cases h
  | some x_41 =>
    rw [hx_42] at h
    dsimp only at h
    refine az_E.call (d := 1) (k' := 61) (vs := [.ref 69, .int v2]) (pc' := 17) (S' := []) (Q1 := fun v s => v = some (.int x_41) ∧ s = (97, I, J, R)) rfl (az_E.deep (by omega) (re_Sh_refusalAt_69 (J := J) (R := R)  hx_42 ⟨rfl, rfl⟩)) (fun v s hq => ?_)
    obtain ⟨rfl, rfl⟩ := hq
    show az_E az_F ex 2 127 17 [.ref 3, .int v1, .int v2] [.int x_41] (97, I, J, R) _
    refine az_E.br (c := x_41 = 0) (tt := 24) (ff := 20) (L' := [.ref 3, .int v1, .int v2]) (S' := []) (σ' := (97, I, J, R)) rfl (fun hc_43 => ?_) (fun hc_43 => ?_)
    · rw [if_pos hc_43] at h
      refine az_E.sn 3 (pc' := 29) (L' := [.ref 3, .int v1, .int v2]) (S' := [.int v1, .ref 58]) (σ' := (97, I, J, R)) rfl ?_
      by_cases hc_44 : v1 < 0 ∨ 6 ≤ v1.toNatClampNeg
      · rw [if_pos hc_44] at h; cases h
      · rw [if_neg hc_44] at h
        rcases az_six hc_44 with ehc_44 | ehc_44 | ehc_44 | ehc_44 | ehc_44 | ehc_44
        · rw [ehc_44] at h ⊢; (try rw [ehc_44] at hQ)
          refine az_E.ov (pc' := 30) (L' := [.ref 3, .int (0 : Int32), .int v2]) (S' := []) (σ' := (97, I, J, R)) (x := .ref 61) (o := az_aa az_F (97, I, J, R) 58 (0 : Int32)) rfl rfl ?_
          exact az_E.forget (L := [.retAddr 0, .retAddr 0, .int v2]) ⟨trivial, trivial, rfl, trivial⟩ (re_X_element_30_61 (I := I) (J := J) (R := R)  h hQ)
        · rw [ehc_44] at h ⊢; (try rw [ehc_44] at hQ)
          refine az_E.ov (pc' := 30) (L' := [.ref 3, .int (1 : Int32), .int v2]) (S' := []) (σ' := (97, I, J, R)) (x := .ref 63) (o := az_aa az_F (97, I, J, R) 58 (1 : Int32)) rfl rfl ?_
          exact az_E.forget (L := [.retAddr 0, .retAddr 0, .int v2]) ⟨trivial, trivial, rfl, trivial⟩ (re_X_element_30_63 (I := I) (J := J) (R := R)  h hQ)
        · rw [ehc_44] at h ⊢; (try rw [ehc_44] at hQ)
          refine az_E.ov (pc' := 30) (L' := [.ref 3, .int (2 : Int32), .int v2]) (S' := []) (σ' := (97, I, J, R)) (x := .ref 65) (o := az_aa az_F (97, I, J, R) 58 (2 : Int32)) rfl rfl ?_
          exact az_E.forget (L := [.retAddr 0, .retAddr 0, .int v2]) ⟨trivial, trivial, rfl, trivial⟩ (re_X_element_30_65 (I := I) (J := J) (R := R)  h hQ)
        · rw [ehc_44] at h ⊢; (try rw [ehc_44] at hQ)
          refine az_E.ov (pc' := 30) (L' := [.ref 3, .int (3 : Int32), .int v2]) (S' := []) (σ' := (97, I, J, R)) (x := .ref 67) (o := az_aa az_F (97, I, J, R) 58 (3 : Int32)) rfl rfl ?_
          exact az_E.forget (L := [.retAddr 0, .retAddr 0, .int v2]) ⟨trivial, trivial, rfl, trivial⟩ (re_X_element_30_67 (I := I) (J := J) (R := R)  h hQ)
        · rw [ehc_44] at h ⊢; (try rw [ehc_44] at hQ)
          refine az_E.ov (pc' := 30) (L' := [.ref 3, .int (4 : Int32), .int v2]) (S' := []) (σ' := (97, I, J, R)) (x := .ref 69) (o := az_aa az_F (97, I, J, R) 58 (4 : Int32)) rfl rfl ?_
          exact az_E.forget (L := [.retAddr 0, .retAddr 0, .int v2]) ⟨trivial, trivial, rfl, trivial⟩ (re_X_element_30_69 (I := I) (J := J) (R := R)  h hQ)
        · rw [ehc_44] at h ⊢; (try rw [ehc_44] at hQ)
          refine az_E.ov (pc' := 30) (L' := [.ref 3, .int (5 : Int32), .int v2]) (S' := []) (σ' := (97, I, J, R)) (x := .ref 71) (o := az_aa az_F (97, I, J, R) 58 (5 : Int32)) rfl rfl ?_
          exact az_E.forget (L := [.retAddr 0, .retAddr 0, .int v2]) ⟨trivial, trivial, rfl, trivial⟩ (re_X_element_30_71 (I := I) (J := J) (R := R)  h hQ)
    · rw [if_neg hc_43] at h
      refine az_E.sn 1 (pc' := 23) (L' := [.ref 3, .int v1, .int v2]) (S' := [.long (-9223372036854775808 : Int64)]) (σ' := (97, I, J, R)) rfl ?_
      have h := Option.some.inj h
      subst h
      exact az_E.ret (v := some (.long (-9223372036854775808 : Int64))) (σ' := (97, I, J, R)) rfl hQ
set_option maxRecDepth 100000 in
set_option maxHeartbeats 4000000 in
theorem re_X_element_13_71 {ex : az_X} {I : Nat → Nat → Int32} {J : Nat → Nat → Int64} {R : Nat → Nat → Option Nat} {v1 : Int32} {v2 : Int32} {x : Int64} (h : rs_X_element_13 71 I J v1 v2 = some x) {Q : Option Value → az_S → Prop} (hQ : Q (some (.long x)) (97, I, J, R)) : az_E az_F ex 2 127 13 [.ref 3, .int v1, .int v2] [.ref 71] (97, I, J, R) Q := by
  unfold rs_X_element_13 at h
  refine az_E.sn 1 (pc' := 14) (L' := [.ref 3, .int v1, .int v2]) (S' := [.int v2, .ref 71]) (σ' := (97, I, J, R)) rfl ?_
  cases hx_51 : rs_Sh_refusalAt 71 I v2 with
  | none => rw [hx_51] at h; cases h
  | some x_50 =>
    rw [hx_51] at h
    dsimp only at h
    refine az_E.call (d := 1) (k' := 61) (vs := [.ref 71, .int v2]) (pc' := 17) (S' := []) (Q1 := fun v s => v = some (.int x_50) ∧ s = (97, I, J, R)) rfl (az_E.deep (by omega) (re_Sh_refusalAt_71 (J := J) (R := R)  hx_51 ⟨rfl, rfl⟩)) (fun v s hq => ?_)
    obtain ⟨rfl, rfl⟩ := hq
    show az_E az_F ex 2 127 17 [.ref 3, .int v1, .int v2] [.int x_50] (97, I, J, R) _
    refine az_E.br (c := x_50 = 0) (tt := 24) (ff := 20) (L' := [.ref 3, .int v1, .int v2]) (S' := []) (σ' := (97, I, J, R)) rfl (fun hc_52 => ?_) (fun hc_52 => ?_)
    · rw [if_pos hc_52] at h
      refine az_E.sn 3 (pc' := 29) (L' := [.ref 3, .int v1, .int v2]) (S' := [.int v1, .ref 58]) (σ' := (97, I, J, R)) rfl ?_
      by_cases hc_53 : v1 < 0 ∨ 6 ≤ v1.toNatClampNeg
      · rw [if_pos hc_53] at h; cases h
      · rw [if_neg hc_53] at h
        rcases az_six hc_53 with ehc_53 | ehc_53 | ehc_53 | ehc_53 | ehc_53 | ehc_53
        · rw [ehc_53] at h ⊢; (try rw [ehc_53] at hQ)
          refine az_E.ov (pc' := 30) (L' := [.ref 3, .int (0 : Int32), .int v2]) (S' := []) (σ' := (97, I, J, R)) (x := .ref 61) (o := az_aa az_F (97, I, J, R) 58 (0 : Int32)) rfl rfl ?_
          exact az_E.forget (L := [.retAddr 0, .retAddr 0, .int v2]) ⟨trivial, trivial, rfl, trivial⟩ (re_X_element_30_61 (I := I) (J := J) (R := R)  h hQ)
        · rw [ehc_53] at h ⊢; (try rw [ehc_53] at hQ)
          refine az_E.ov (pc' := 30) (L' := [.ref 3, .int (1 : Int32), .int v2]) (S' := []) (σ' := (97, I, J, R)) (x := .ref 63) (o := az_aa az_F (97, I, J, R) 58 (1 : Int32)) rfl rfl ?_
          exact az_E.forget (L := [.retAddr 0, .retAddr 0, .int v2]) ⟨trivial, trivial, rfl, trivial⟩ (re_X_element_30_63 (I := I) (J := J) (R := R)  h hQ)
        · rw [ehc_53] at h ⊢; (try rw [ehc_53] at hQ)
          refine az_E.ov (pc' := 30) (L' := [.ref 3, .int (2 : Int32), .int v2]) (S' := []) (σ' := (97, I, J, R)) (x := .ref 65) (o := az_aa az_F (97, I, J, R) 58 (2 : Int32)) rfl rfl ?_
          exact az_E.forget (L := [.retAddr 0, .retAddr 0, .int v2]) ⟨trivial, trivial, rfl, trivial⟩ (re_X_element_30_65 (I := I) (J := J) (R := R)  h hQ)
        · rw [ehc_53] at h ⊢; (try rw [ehc_53] at hQ)
          refine az_E.ov (pc' := 30) (L' := [.ref 3, .int (3 : Int32), .int v2]) (S' := []) (σ' := (97, I, J, R)) (x := .ref 67) (o := az_aa az_F (97, I, J, R) 58 (3 : Int32)) rfl rfl ?_
          exact az_E.forget (L := [.retAddr 0, .retAddr 0, .int v2]) ⟨trivial, trivial, rfl, trivial⟩ (re_X_element_30_67 (I := I) (J := J) (R := R)  h hQ)
        · rw [ehc_53] at h ⊢; (try rw [ehc_53] at hQ)
          refine az_E.ov (pc' := 30) (L' := [.ref 3, .int (4 : Int32), .int v2]) (S' := []) (σ' := (97, I, J, R)) (x := .ref 69) (o := az_aa az_F (97, I, J, R) 58 (4 : Int32)) rfl rfl ?_
          exact az_E.forget (L := [.retAddr 0, .retAddr 0, .int v2]) ⟨trivial, trivial, rfl, trivial⟩ (re_X_element_30_69 (I := I) (J := J) (R := R)  h hQ)
        · rw [ehc_53] at h ⊢; (try rw [ehc_53] at hQ)
          refine az_E.ov (pc' := 30) (L' := [.ref 3, .int (5 : Int32), .int v2]) (S' := []) (σ' := (97, I, J, R)) (x := .ref 71) (o := az_aa az_F (97, I, J, R) 58 (5 : Int32)) rfl rfl ?_
          exact az_E.forget (L := [.retAddr 0, .retAddr 0, .int v2]) ⟨trivial, trivial, rfl, trivial⟩ (re_X_element_30_71 (I := I) (J := J) (R := R)  h hQ)
    · rw [if_neg hc_52] at h
      refine az_E.sn 1 (pc' := 23) (L' := [.ref 3, .int v1, .int v2]) (S' := [.long (-9223372036854775808 : Int64)]) (σ' := (97, I, J, R)) rfl ?_
      have h := Option.some.inj h
      subst h
      exact az_E.ret (v := some (.long (-9223372036854775808 : Int64))) (σ' := (97, I, J, R)) rfl hQ
set_option maxRecDepth 100000 in
set_option maxHeartbeats 4000000 in
theorem re_X_element {ex : az_X} {I : Nat → Nat → Int32} {J : Nat → Nat → Int64} {R : Nat → Nat → Option Nat} {a1 : Int32} {a2 : Int32} {o : Int64} (h : rs_X_element I J a1 a2 = some o) {Q : Option Value → az_S → Prop} (hQ : Q (some (.long o)) (97, I, J, R)) : az_E az_F ex 2 127 0 [.ref 3, .int a1, .int a2] [] (97, I, J, R) Q := by
  unfold rs_X_element at h
  refine az_E.sn 1 (pc' := 1) (L' := [.ref 3, .int a1, .int a2]) (S' := [.int a1]) (σ' := (97, I, J, R)) rfl ?_
  refine az_E.call (d := 1) (k' := 137) (vs := [.int a1]) (pc' := 4) (S' := []) rfl ?_ (fun _ _ hq => hq)
  show az_E az_F ex 1 137 0 [.int a1] [] (97, I, J, R) _
  refine az_E.sn 3 (pc' := 3) (L' := [.int a1]) (S' := [.int (5 : Int32), .int (0 : Int32), .int a1]) (σ' := (97, I, J, R)) rfl ?_
  refine az_E.call (d := 0) (k' := 131) (vs := [.int a1, .int (0 : Int32), .int (5 : Int32)]) (pc' := 6) (S' := []) rfl ?_ (fun _ _ hq => hq)
  show az_E az_F ex 0 131 0 [.int a1, .int (0 : Int32), .int (5 : Int32)] [] (97, I, J, R) _
  refine az_E.sn 2 (pc' := 2) (L' := [.int a1, .int (0 : Int32), .int (5 : Int32)]) (S' := [.int (0 : Int32), .int a1]) (σ' := (97, I, J, R)) rfl ?_
  refine az_E.br (c := a1 < (0 : Int32)) (tt := 14) (ff := 5) (L' := [.int a1, .int (0 : Int32), .int (5 : Int32)]) (S' := []) (σ' := (97, I, J, R)) rfl (fun hc_1 => ?_) (fun hc_1 => ?_)
  · rw [if_pos hc_1] at h
    refine az_E.sn 1 (pc' := 15) (L' := [.int a1, .int (0 : Int32), .int (5 : Int32)]) (S' := [.int (0 : Int32)]) (σ' := (97, I, J, R)) rfl ?_
    refine az_E.ret (v := some (.int (0 : Int32))) (σ' := (97, I, J, R)) rfl ?_
    show az_E az_F ex 1 137 6 [.int a1] [.int (0 : Int32)] (97, I, J, R) _
    refine az_E.ret (v := some (.int (0 : Int32))) (σ' := (97, I, J, R)) rfl ?_
    show az_E az_F ex 2 127 4 [.ref 3, .int a1, .int a2] [.int (0 : Int32)] (97, I, J, R) _
    refine az_E.br (c := (0 : Int32) = 0) (tt := 20) (ff := 7) (L' := [.ref 3, .int a1, .int a2]) (S' := []) (σ' := (97, I, J, R)) rfl (fun _ => ?_) (fun hn => absurd (by decide) hn)
    refine az_E.sn 1 (pc' := 23) (L' := [.ref 3, .int a1, .int a2]) (S' := [.long (-9223372036854775808 : Int64)]) (σ' := (97, I, J, R)) rfl ?_
    have h := Option.some.inj h
    subst h
    exact az_E.ret (v := some (.long (-9223372036854775808 : Int64))) (σ' := (97, I, J, R)) rfl hQ
  · rw [if_neg hc_1] at h
    refine az_E.sn 2 (pc' := 7) (L' := [.int a1, .int (0 : Int32), .int (5 : Int32)]) (S' := [.int (5 : Int32), .int a1]) (σ' := (97, I, J, R)) rfl ?_
    refine az_E.br (c := (5 : Int32) < a1) (tt := 14) (ff := 10) (L' := [.int a1, .int (0 : Int32), .int (5 : Int32)]) (S' := []) (σ' := (97, I, J, R)) rfl (fun hc_2 => ?_) (fun hc_2 => ?_)
    · rw [if_pos hc_2] at h
      refine az_E.sn 1 (pc' := 15) (L' := [.int a1, .int (0 : Int32), .int (5 : Int32)]) (S' := [.int (0 : Int32)]) (σ' := (97, I, J, R)) rfl ?_
      refine az_E.ret (v := some (.int (0 : Int32))) (σ' := (97, I, J, R)) rfl ?_
      show az_E az_F ex 1 137 6 [.int a1] [.int (0 : Int32)] (97, I, J, R) _
      refine az_E.ret (v := some (.int (0 : Int32))) (σ' := (97, I, J, R)) rfl ?_
      show az_E az_F ex 2 127 4 [.ref 3, .int a1, .int a2] [.int (0 : Int32)] (97, I, J, R) _
      refine az_E.br (c := (0 : Int32) = 0) (tt := 20) (ff := 7) (L' := [.ref 3, .int a1, .int a2]) (S' := []) (σ' := (97, I, J, R)) rfl (fun _ => ?_) (fun hn => absurd (by decide) hn)
      refine az_E.sn 1 (pc' := 23) (L' := [.ref 3, .int a1, .int a2]) (S' := [.long (-9223372036854775808 : Int64)]) (σ' := (97, I, J, R)) rfl ?_
      have h := Option.some.inj h
      subst h
      exact az_E.ret (v := some (.long (-9223372036854775808 : Int64))) (σ' := (97, I, J, R)) rfl hQ
    · rw [if_neg hc_2] at h
      refine az_E.sn 2 (pc' := 15) (L' := [.int a1, .int (0 : Int32), .int (5 : Int32)]) (S' := [.int (1 : Int32)]) (σ' := (97, I, J, R)) rfl ?_
      refine az_E.ret (v := some (.int (1 : Int32))) (σ' := (97, I, J, R)) rfl ?_
      show az_E az_F ex 1 137 6 [.int a1] [.int (1 : Int32)] (97, I, J, R) _
      refine az_E.ret (v := some (.int (1 : Int32))) (σ' := (97, I, J, R)) rfl ?_
      show az_E az_F ex 2 127 4 [.ref 3, .int a1, .int a2] [.int (1 : Int32)] (97, I, J, R) _
      refine az_E.br (c := (1 : Int32) = 0) (tt := 20) (ff := 7) (L' := [.ref 3, .int a1, .int a2]) (S' := []) (σ' := (97, I, J, R)) rfl (fun hn => absurd hn (by decide)) (fun _ => ?_)
      refine az_E.sn 3 (pc' := 12) (L' := [.ref 3, .int a1, .int a2]) (S' := [.int a1, .ref 58]) (σ' := (97, I, J, R)) rfl ?_
      by_cases hc_3 : a1 < 0 ∨ 6 ≤ a1.toNatClampNeg
      · rw [if_pos hc_3] at h; cases h
      · rw [if_neg hc_3] at h
        rcases az_six hc_3 with ehc_3 | ehc_3 | ehc_3 | ehc_3 | ehc_3 | ehc_3
        · subst ehc_3
          refine az_E.ov (pc' := 13) (L' := [.ref 3, .int (0 : Int32), .int a2]) (S' := []) (σ' := (97, I, J, R)) (x := .ref 61) (o := az_aa az_F (97, I, J, R) 58 (0 : Int32)) rfl rfl ?_
          exact az_E.forget (L := [.ref 3, .int (0 : Int32), .int a2]) ⟨rfl, rfl, rfl, trivial⟩ (re_X_element_13_61 (I := I) (J := J) (R := R)  h hQ)
        · subst ehc_3
          refine az_E.ov (pc' := 13) (L' := [.ref 3, .int (1 : Int32), .int a2]) (S' := []) (σ' := (97, I, J, R)) (x := .ref 63) (o := az_aa az_F (97, I, J, R) 58 (1 : Int32)) rfl rfl ?_
          exact az_E.forget (L := [.ref 3, .int (1 : Int32), .int a2]) ⟨rfl, rfl, rfl, trivial⟩ (re_X_element_13_63 (I := I) (J := J) (R := R)  h hQ)
        · subst ehc_3
          refine az_E.ov (pc' := 13) (L' := [.ref 3, .int (2 : Int32), .int a2]) (S' := []) (σ' := (97, I, J, R)) (x := .ref 65) (o := az_aa az_F (97, I, J, R) 58 (2 : Int32)) rfl rfl ?_
          exact az_E.forget (L := [.ref 3, .int (2 : Int32), .int a2]) ⟨rfl, rfl, rfl, trivial⟩ (re_X_element_13_65 (I := I) (J := J) (R := R)  h hQ)
        · subst ehc_3
          refine az_E.ov (pc' := 13) (L' := [.ref 3, .int (3 : Int32), .int a2]) (S' := []) (σ' := (97, I, J, R)) (x := .ref 67) (o := az_aa az_F (97, I, J, R) 58 (3 : Int32)) rfl rfl ?_
          exact az_E.forget (L := [.ref 3, .int (3 : Int32), .int a2]) ⟨rfl, rfl, rfl, trivial⟩ (re_X_element_13_67 (I := I) (J := J) (R := R)  h hQ)
        · subst ehc_3
          refine az_E.ov (pc' := 13) (L' := [.ref 3, .int (4 : Int32), .int a2]) (S' := []) (σ' := (97, I, J, R)) (x := .ref 69) (o := az_aa az_F (97, I, J, R) 58 (4 : Int32)) rfl rfl ?_
          exact az_E.forget (L := [.ref 3, .int (4 : Int32), .int a2]) ⟨rfl, rfl, rfl, trivial⟩ (re_X_element_13_69 (I := I) (J := J) (R := R)  h hQ)
        · subst ehc_3
          refine az_E.ov (pc' := 13) (L' := [.ref 3, .int (5 : Int32), .int a2]) (S' := []) (σ' := (97, I, J, R)) (x := .ref 71) (o := az_aa az_F (97, I, J, R) 58 (5 : Int32)) rfl rfl ?_
          exact az_E.forget (L := [.ref 3, .int (5 : Int32), .int a2]) ⟨rfl, rfl, rfl, trivial⟩ (re_X_element_13_71 (I := I) (J := J) (R := R)  h hQ)
set_option maxRecDepth 100000 in
set_option maxHeartbeats 4000000 in
theorem re_M_element {ex : az_X} {I : Nat → Nat → Int32} {J : Nat → Nat → Int64} {R : Nat → Nat → Option Nat} {a1 : Int32} {a2 : Int32} {o : Int64} (h : rs_M_element I J a1 a2 = some o) {Q : Option Value → az_S → Prop} (hQ : Q (some (.long o)) (97, I, J, R)) : az_E az_F ex 3 251 0 [.ref 73, .int a1, .int a2] [] (97, I, J, R) Q := by
  unfold rs_M_element at h
  refine az_E.sn 3 (pc' := 3) (L' := [.ref 73, .int a1, .int a2]) (S' := [.int a2, .int a1, .ref 73]) (σ' := (97, I, J, R)) rfl ?_
  cases hx_2 : rs_M_refusal I a1 a2 with
  | none => rw [hx_2] at h; cases h
  | some x_1 =>
    rw [hx_2] at h
    dsimp only at h
    refine az_E.call (d := 2) (k' := 248) (vs := [.ref 73, .int a1, .int a2]) (pc' := 6) (S' := []) (Q1 := fun v s => v = some (.int x_1) ∧ s = (97, I, J, R)) rfl (az_E.deep (by omega) (re_M_refusal (J := J) (R := R)  hx_2 ⟨rfl, rfl⟩)) (fun v s hq => ?_)
    obtain ⟨rfl, rfl⟩ := hq
    show az_E az_F ex 3 251 6 [.ref 73, .int a1, .int a2] [.int x_1] (97, I, J, R) _
    refine az_E.br (c := x_1 = 0) (tt := 15) (ff := 9) (L' := [.ref 73, .int a1, .int a2]) (S' := []) (σ' := (97, I, J, R)) rfl (fun hc_3 => ?_) (fun hc_3 => ?_)
    · rw [if_pos hc_3] at h
      refine az_E.sn 7 (pc' := 25) (L' := [.ref 73, .int a1, .int a2]) (S' := [.int (((60 : Int32) * a1) + a2), .ref 98]) (σ' := (97, I, J, R)) rfl ?_
      by_cases hc_4 : (((60 : Int32) * a1) + a2) < 0 ∨ 360 ≤ (((60 : Int32) * a1) + a2).toNatClampNeg
      · rw [if_pos hc_4] at h; cases h
      · rw [if_neg hc_4] at h
        refine az_E.ol (o := az_al az_F (97, I, J, R) 98 (((60 : Int32) * a1) + a2)) (pc' := 26) (L' := [.ref 73, .int a1, .int a2]) (S' := []) (σ' := (97, I, J, R)) (x := (J 98 (((60 : Int32) * a1) + a2).toNatClampNeg)) rfl (if_neg hc_4) ?_
        have h := Option.some.inj h
        subst h
        exact az_E.ret (v := some (.long (J 98 (((60 : Int32) * a1) + a2).toNatClampNeg))) (σ' := (97, I, J, R)) rfl hQ
    · rw [if_neg hc_3] at h
      refine az_E.sn 2 (pc' := 26) (L' := [.ref 73, .int a1, .int a2]) (S' := [.long (-9223372036854775808 : Int64)]) (σ' := (97, I, J, R)) rfl ?_
      have h := Option.some.inj h
      subst h
      exact az_E.ret (v := some (.long (-9223372036854775808 : Int64))) (σ' := (97, I, J, R)) rfl hQ
set_option maxRecDepth 100000 in
set_option maxHeartbeats 4000000 in
theorem re_X_shift_30_61_61 {ex : az_X} {I : Nat → Nat → Int32} {J : Nat → Nat → Int64} {R : Nat → Nat → Option Nat} {v2 : Int32} {v4 : Int32} {v5 : Int32} {x : Int32 × (Nat → Nat → Int64)} (h : rs_X_shift_30 61 61 I J v2 v4 v5 = some x) {Q : Option Value → az_S → Prop} (hQ : Q (some (.int x.1)) (97, I, x.2, R)) : az_E az_F ex 2 128 30 [.retAddr 0, .retAddr 0, .int v2, .retAddr 0, .int v4, .int v5, .ref 61, .retAddr 0] [.ref 61] (97, I, J, R) Q := by
  unfold rs_X_shift_30 at h
  refine az_E.sn 2 (pc' := 34) (L' := [.retAddr 0, .retAddr 0, .int v2, .retAddr 0, .int v4, .int v5, .ref 61, .ref 61]) (S' := [.ref 61]) (σ' := (97, I, J, R)) rfl ?_
  refine az_E.call (d := 1) (k' := 54) (vs := [.ref 61]) (pc' := 37) (S' := []) rfl ?_ (fun _ _ hq => hq)
  show az_E az_F ex 1 54 0 [.ref 61] [] (97, I, J, R) _
  refine az_E.sn 3 (pc' := 5) (L' := [.ref 61]) (S' := [.int (-1 : Int32), .int (I 61 0)]) (σ' := (97, I, J, R)) rfl ?_
  refine az_E.br (c := (I 61 0) = (-1 : Int32)) (tt := 8) (ff := 20) (L' := [.ref 61]) (S' := []) (σ' := (97, I, J, R)) rfl (fun hc_7 => ?_) (fun hc_7 => ?_)
  · rw [if_pos hc_7] at h
    refine az_E.sn 3 (pc' := 13) (L' := [.ref 61]) (S' := [.int (-1 : Int32), .int (I 61 1)]) (σ' := (97, I, J, R)) rfl ?_
    refine az_E.br (c := (I 61 1) = (-1 : Int32)) (tt := 16) (ff := 20) (L' := [.ref 61]) (S' := []) (σ' := (97, I, J, R)) rfl (fun hc_8 => ?_) (fun hc_8 => ?_)
    · rw [if_pos hc_8] at h
      refine az_E.sn 2 (pc' := 21) (L' := [.ref 61]) (S' := [.int (1 : Int32)]) (σ' := (97, I, J, R)) rfl ?_
      refine az_E.ret (v := some (.int (1 : Int32))) (σ' := (97, I, J, R)) rfl ?_
      show az_E az_F ex 2 128 37 [.retAddr 0, .retAddr 0, .int v2, .retAddr 0, .int v4, .int v5, .ref 61, .ref 61] [.int (1 : Int32)] (97, I, J, R) _
      refine az_E.br (c := (1 : Int32) = 0) (tt := 40) (ff := 48) (L' := [.retAddr 0, .retAddr 0, .int v2, .retAddr 0, .int v4, .int v5, .ref 61, .ref 61]) (S' := []) (σ' := (97, I, J, R)) rfl (fun hn => absurd hn (by decide)) (fun _ => ?_)
      refine az_E.sn 1 (pc' := 50) (L' := [.retAddr 0, .retAddr 0, .int v2, .retAddr 0, .int v4, .int v5, .ref 61, .ref 61]) (S' := [.int (-11 : Int32)]) (σ' := (97, I, J, R)) rfl ?_
      have h := Option.some.inj h
      subst h
      exact az_E.ret (v := some (.int (-11 : Int32))) (σ' := (97, I, J, R)) rfl hQ
    · rw [if_neg hc_8] at h
      refine az_E.sn 1 (pc' := 21) (L' := [.ref 61]) (S' := [.int (0 : Int32)]) (σ' := (97, I, J, R)) rfl ?_
      refine az_E.ret (v := some (.int (0 : Int32))) (σ' := (97, I, J, R)) rfl ?_
      show az_E az_F ex 2 128 37 [.retAddr 0, .retAddr 0, .int v2, .retAddr 0, .int v4, .int v5, .ref 61, .ref 61] [.int (0 : Int32)] (97, I, J, R) _
      refine az_E.br (c := (0 : Int32) = 0) (tt := 40) (ff := 48) (L' := [.retAddr 0, .retAddr 0, .int v2, .retAddr 0, .int v4, .int v5, .ref 61, .ref 61]) (S' := []) (σ' := (97, I, J, R)) rfl (fun _ => ?_) (fun hn => absurd (by decide) hn)
      refine az_E.sn 1 (pc' := 42) (L' := [.retAddr 0, .retAddr 0, .int v2, .retAddr 0, .int v4, .int v5, .ref 61, .ref 61]) (S' := [.ref 61]) (σ' := (97, I, J, R)) rfl ?_
      refine az_E.call (d := 1) (k' := 54) (vs := [.ref 61]) (pc' := 45) (S' := []) rfl ?_ (fun _ _ hq => hq)
      show az_E az_F ex 1 54 0 [.ref 61] [] (97, I, J, R) _
      refine az_E.sn 3 (pc' := 5) (L' := [.ref 61]) (S' := [.int (-1 : Int32), .int (I 61 0)]) (σ' := (97, I, J, R)) rfl ?_
      refine az_E.br (c := (I 61 0) = (-1 : Int32)) (tt := 8) (ff := 20) (L' := [.ref 61]) (S' := []) (σ' := (97, I, J, R)) rfl (fun hc_9 => ?_) (fun hc_9 => ?_)
      · rw [if_pos hc_9] at h
        refine az_E.sn 3 (pc' := 13) (L' := [.ref 61]) (S' := [.int (-1 : Int32), .int (I 61 1)]) (σ' := (97, I, J, R)) rfl ?_
        refine az_E.br (c := (I 61 1) = (-1 : Int32)) (tt := 16) (ff := 20) (L' := [.ref 61]) (S' := []) (σ' := (97, I, J, R)) rfl (fun hc_10 => ?_) (fun hc_10 => ?_)
        · rw [if_pos hc_10] at h
          refine az_E.sn 2 (pc' := 21) (L' := [.ref 61]) (S' := [.int (1 : Int32)]) (σ' := (97, I, J, R)) rfl ?_
          refine az_E.ret (v := some (.int (1 : Int32))) (σ' := (97, I, J, R)) rfl ?_
          show az_E az_F ex 2 128 45 [.retAddr 0, .retAddr 0, .int v2, .retAddr 0, .int v4, .int v5, .ref 61, .ref 61] [.int (1 : Int32)] (97, I, J, R) _
          refine az_E.br (c := (1 : Int32) = 0) (tt := 51) (ff := 48) (L' := [.retAddr 0, .retAddr 0, .int v2, .retAddr 0, .int v4, .int v5, .ref 61, .ref 61]) (S' := []) (σ' := (97, I, J, R)) rfl (fun hn => absurd hn (by decide)) (fun _ => ?_)
          refine az_E.sn 1 (pc' := 50) (L' := [.retAddr 0, .retAddr 0, .int v2, .retAddr 0, .int v4, .int v5, .ref 61, .ref 61]) (S' := [.int (-11 : Int32)]) (σ' := (97, I, J, R)) rfl ?_
          have h := Option.some.inj h
          subst h
          exact az_E.ret (v := some (.int (-11 : Int32))) (σ' := (97, I, J, R)) rfl hQ
        · rw [if_neg hc_10] at h
          refine az_E.sn 1 (pc' := 21) (L' := [.ref 61]) (S' := [.int (0 : Int32)]) (σ' := (97, I, J, R)) rfl ?_
          refine az_E.ret (v := some (.int (0 : Int32))) (σ' := (97, I, J, R)) rfl ?_
          show az_E az_F ex 2 128 45 [.retAddr 0, .retAddr 0, .int v2, .retAddr 0, .int v4, .int v5, .ref 61, .ref 61] [.int (0 : Int32)] (97, I, J, R) _
          refine az_E.br (c := (0 : Int32) = 0) (tt := 51) (ff := 48) (L' := [.retAddr 0, .retAddr 0, .int v2, .retAddr 0, .int v4, .int v5, .ref 61, .ref 61]) (S' := []) (σ' := (97, I, J, R)) rfl (fun _ => ?_) (fun hn => absurd (by decide) hn)
          refine az_E.sn 1 (pc' := 53) (L' := [.retAddr 0, .retAddr 0, .int v2, .retAddr 0, .int v4, .int v5, .ref 61, .ref 61]) (S' := [.ref 61]) (σ' := (97, I, J, R)) rfl ?_
          refine az_E.call (d := 1) (k' := 55) (vs := [.ref 61]) (pc' := 56) (S' := []) rfl ?_ (fun _ _ hq => hq)
          show az_E az_F ex 1 55 0 [.ref 61] [] (97, I, J, R) _
          refine az_E.sn 3 (pc' := 5) (L' := [.ref 61]) (S' := [.int (-1 : Int32), .int (I 61 1)]) (σ' := (97, I, J, R)) rfl ?_
          refine az_E.br (c := (I 61 1) = (-1 : Int32)) (tt := 12) (ff := 8) (L' := [.ref 61]) (S' := []) (σ' := (97, I, J, R)) rfl (fun hc_11 => ?_) (fun hc_11 => ?_)
          · rw [if_pos hc_11] at h
            refine az_E.sn 1 (pc' := 13) (L' := [.ref 61]) (S' := [.int (0 : Int32)]) (σ' := (97, I, J, R)) rfl ?_
            refine az_E.ret (v := some (.int (0 : Int32))) (σ' := (97, I, J, R)) rfl ?_
            show az_E az_F ex 2 128 56 [.retAddr 0, .retAddr 0, .int v2, .retAddr 0, .int v4, .int v5, .ref 61, .ref 61] [.int (0 : Int32)] (97, I, J, R) _
            refine az_E.br (c := (0 : Int32) = 0) (tt := 72) (ff := 59) (L' := [.retAddr 0, .retAddr 0, .int v2, .retAddr 0, .int v4, .int v5, .ref 61, .ref 61]) (S' := []) (σ' := (97, I, J, R)) rfl (fun _ => ?_) (fun hn => absurd (by decide) hn)
            refine az_E.sn 1 (pc' := 74) (L' := [.retAddr 0, .retAddr 0, .int v2, .retAddr 0, .int v4, .int v5, .ref 61, .ref 61]) (S' := [.int (-12 : Int32)]) (σ' := (97, I, J, R)) rfl ?_
            have h := Option.some.inj h
            subst h
            exact az_E.ret (v := some (.int (-12 : Int32))) (σ' := (97, I, J, R)) rfl hQ
          · rw [if_neg hc_11] at h
            refine az_E.sn 2 (pc' := 13) (L' := [.ref 61]) (S' := [.int (1 : Int32)]) (σ' := (97, I, J, R)) rfl ?_
            refine az_E.ret (v := some (.int (1 : Int32))) (σ' := (97, I, J, R)) rfl ?_
            show az_E az_F ex 2 128 56 [.retAddr 0, .retAddr 0, .int v2, .retAddr 0, .int v4, .int v5, .ref 61, .ref 61] [.int (1 : Int32)] (97, I, J, R) _
            refine az_E.br (c := (1 : Int32) = 0) (tt := 72) (ff := 59) (L' := [.retAddr 0, .retAddr 0, .int v2, .retAddr 0, .int v4, .int v5, .ref 61, .ref 61]) (S' := []) (σ' := (97, I, J, R)) rfl (fun hn => absurd hn (by decide)) (fun _ => ?_)
            refine az_E.sn 3 (pc' := 66) (L' := [.retAddr 0, .retAddr 0, .int v2, .retAddr 0, .int v4, .int v5, .ref 61, .ref 61]) (S' := [.int (I 61 1), .ref 61]) (σ' := (97, I, J, R)) rfl ?_
            refine az_E.call (d := 1) (k' := 56) (vs := [.ref 61, .int (I 61 1)]) (pc' := 69) (S' := []) rfl ?_ (fun _ _ hq => hq)
            show az_E az_F ex 1 56 0 [.ref 61, .int (I 61 1)] [] (97, I, J, R) _
            refine az_E.sn 1 (pc' := 1) (L' := [.ref 61, .int (I 61 1)]) (S' := [.ref 61]) (σ' := (97, I, J, R)) rfl ?_
            refine az_E.call (d := 0) (k' := 55) (vs := [.ref 61]) (pc' := 4) (S' := []) rfl ?_ (fun _ _ hq => hq)
            show az_E az_F ex 0 55 0 [.ref 61] [] (97, I, J, R) _
            refine az_E.sn 3 (pc' := 5) (L' := [.ref 61]) (S' := [.int (-1 : Int32), .int (I 61 1)]) (σ' := (97, I, J, R)) rfl ?_
            refine az_E.br (c := (I 61 1) = (-1 : Int32)) (tt := 12) (ff := 8) (L' := [.ref 61]) (S' := []) (σ' := (97, I, J, R)) rfl (fun hc_12 => ?_) (fun hc_12 => ?_)
            · rw [if_pos hc_12] at h
              refine az_E.sn 1 (pc' := 13) (L' := [.ref 61]) (S' := [.int (0 : Int32)]) (σ' := (97, I, J, R)) rfl ?_
              refine az_E.ret (v := some (.int (0 : Int32))) (σ' := (97, I, J, R)) rfl ?_
              show az_E az_F ex 1 56 4 [.ref 61, .int (I 61 1)] [.int (0 : Int32)] (97, I, J, R) _
              refine az_E.br (c := (0 : Int32) = 0) (tt := 19) (ff := 7) (L' := [.ref 61, .int (I 61 1)]) (S' := []) (σ' := (97, I, J, R)) rfl (fun _ => ?_) (fun hn => absurd (by decide) hn)
              refine az_E.sn 1 (pc' := 20) (L' := [.ref 61, .int (I 61 1)]) (S' := [.int (0 : Int32)]) (σ' := (97, I, J, R)) rfl ?_
              refine az_E.ret (v := some (.int (0 : Int32))) (σ' := (97, I, J, R)) rfl ?_
              show az_E az_F ex 2 128 69 [.retAddr 0, .retAddr 0, .int v2, .retAddr 0, .int v4, .int v5, .ref 61, .ref 61] [.int (0 : Int32)] (97, I, J, R) _
              refine az_E.br (c := (0 : Int32) = 0) (tt := 72) (ff := 75) (L' := [.retAddr 0, .retAddr 0, .int v2, .retAddr 0, .int v4, .int v5, .ref 61, .ref 61]) (S' := []) (σ' := (97, I, J, R)) rfl (fun _ => ?_) (fun hn => absurd (by decide) hn)
              refine az_E.sn 1 (pc' := 74) (L' := [.retAddr 0, .retAddr 0, .int v2, .retAddr 0, .int v4, .int v5, .ref 61, .ref 61]) (S' := [.int (-12 : Int32)]) (σ' := (97, I, J, R)) rfl ?_
              have h := Option.some.inj h
              subst h
              exact az_E.ret (v := some (.int (-12 : Int32))) (σ' := (97, I, J, R)) rfl hQ
            · rw [if_neg hc_12] at h
              refine az_E.sn 2 (pc' := 13) (L' := [.ref 61]) (S' := [.int (1 : Int32)]) (σ' := (97, I, J, R)) rfl ?_
              refine az_E.ret (v := some (.int (1 : Int32))) (σ' := (97, I, J, R)) rfl ?_
              show az_E az_F ex 1 56 4 [.ref 61, .int (I 61 1)] [.int (1 : Int32)] (97, I, J, R) _
              refine az_E.br (c := (1 : Int32) = 0) (tt := 19) (ff := 7) (L' := [.ref 61, .int (I 61 1)]) (S' := []) (σ' := (97, I, J, R)) rfl (fun hn => absurd hn (by decide)) (fun _ => ?_)
              refine az_E.sn 3 (pc' := 12) (L' := [.ref 61, .int (I 61 1)]) (S' := [.int (I 61 1), .int (I 61 1)]) (σ' := (97, I, J, R)) rfl ?_
              refine az_E.br (c := (I 61 1) = (I 61 1)) (tt := 15) (ff := 19) (L' := [.ref 61, .int (I 61 1)]) (S' := []) (σ' := (97, I, J, R)) rfl (fun hc_13 => ?_) (fun hc_13 => ?_)
              · rw [if_pos hc_13] at h
                refine az_E.sn 2 (pc' := 20) (L' := [.ref 61, .int (I 61 1)]) (S' := [.int (1 : Int32)]) (σ' := (97, I, J, R)) rfl ?_
                refine az_E.ret (v := some (.int (1 : Int32))) (σ' := (97, I, J, R)) rfl ?_
                show az_E az_F ex 2 128 69 [.retAddr 0, .retAddr 0, .int v2, .retAddr 0, .int v4, .int v5, .ref 61, .ref 61] [.int (1 : Int32)] (97, I, J, R) _
                refine az_E.br (c := (1 : Int32) = 0) (tt := 72) (ff := 75) (L' := [.retAddr 0, .retAddr 0, .int v2, .retAddr 0, .int v4, .int v5, .ref 61, .ref 61]) (S' := []) (σ' := (97, I, J, R)) rfl (fun hn => absurd hn (by decide)) (fun _ => ?_)
                refine az_E.sn 3 (pc' := 80) (L' := [.retAddr 0, .retAddr 0, .int v2, .retAddr 0, .int v4, .int v5, .ref 61, .ref 61]) (S' := [.int v5, .int v2, .ref 61]) (σ' := (97, I, J, R)) rfl ?_
                refine az_E.call (d := 1) (k' := 60) (vs := [.ref 61, .int v2, .int v5]) (pc' := 83) (S' := []) rfl ?_ (fun _ _ hq => hq)
                show az_E az_F ex 1 60 0 [.ref 61, .int v2, .int v5] [] (97, I, J, R) _
                refine az_E.sn 1 (pc' := 1) (L' := [.ref 61, .int v2, .int v5]) (S' := [.int v2]) (σ' := (97, I, J, R)) rfl ?_
                refine az_E.br (c := v2 < 0) (tt := 30) (ff := 4) (L' := [.ref 61, .int v2, .int v5]) (S' := []) (σ' := (97, I, J, R)) rfl (fun hc_14 => ?_) (fun hc_14 => ?_)
                · rw [if_pos hc_14] at h
                  refine az_E.sn 1 (pc' := 31) (L' := [.ref 61, .int v2, .int v5]) (S' := [.int (0 : Int32)]) (σ' := (97, I, J, R)) rfl ?_
                  refine az_E.ret (v := some (.int (0 : Int32))) (σ' := (97, I, J, R)) rfl ?_
                  show az_E az_F ex 2 128 83 [.retAddr 0, .retAddr 0, .int v2, .retAddr 0, .int v4, .int v5, .ref 61, .ref 61] [.int (0 : Int32)] (97, I, J, R) _
                  refine az_E.br (c := (0 : Int32) = 0) (tt := 98) (ff := 86) (L' := [.retAddr 0, .retAddr 0, .int v2, .retAddr 0, .int v4, .int v5, .ref 61, .ref 61]) (S' := []) (σ' := (97, I, J, R)) rfl (fun _ => ?_) (fun hn => absurd (by decide) hn)
                  refine az_E.sn 1 (pc' := 100) (L' := [.retAddr 0, .retAddr 0, .int v2, .retAddr 0, .int v4, .int v5, .ref 61, .ref 61]) (S' := [.int (-13 : Int32)]) (σ' := (97, I, J, R)) rfl ?_
                  have h := Option.some.inj h
                  subst h
                  exact az_E.ret (v := some (.int (-13 : Int32))) (σ' := (97, I, J, R)) rfl hQ
                · rw [if_neg hc_14] at h
                  refine az_E.sn 1 (pc' := 5) (L' := [.ref 61, .int v2, .int v5]) (S' := [.int v5]) (σ' := (97, I, J, R)) rfl ?_
                  refine az_E.br (c := v5 < 0) (tt := 30) (ff := 8) (L' := [.ref 61, .int v2, .int v5]) (S' := []) (σ' := (97, I, J, R)) rfl (fun hc_15 => ?_) (fun hc_15 => ?_)
                  · rw [if_pos hc_15] at h
                    refine az_E.sn 1 (pc' := 31) (L' := [.ref 61, .int v2, .int v5]) (S' := [.int (0 : Int32)]) (σ' := (97, I, J, R)) rfl ?_
                    refine az_E.ret (v := some (.int (0 : Int32))) (σ' := (97, I, J, R)) rfl ?_
                    show az_E az_F ex 2 128 83 [.retAddr 0, .retAddr 0, .int v2, .retAddr 0, .int v4, .int v5, .ref 61, .ref 61] [.int (0 : Int32)] (97, I, J, R) _
                    refine az_E.br (c := (0 : Int32) = 0) (tt := 98) (ff := 86) (L' := [.retAddr 0, .retAddr 0, .int v2, .retAddr 0, .int v4, .int v5, .ref 61, .ref 61]) (S' := []) (σ' := (97, I, J, R)) rfl (fun _ => ?_) (fun hn => absurd (by decide) hn)
                    refine az_E.sn 1 (pc' := 100) (L' := [.retAddr 0, .retAddr 0, .int v2, .retAddr 0, .int v4, .int v5, .ref 61, .ref 61]) (S' := [.int (-13 : Int32)]) (σ' := (97, I, J, R)) rfl ?_
                    have h := Option.some.inj h
                    subst h
                    exact az_E.ret (v := some (.int (-13 : Int32))) (σ' := (97, I, J, R)) rfl hQ
                  · rw [if_neg hc_15] at h
                    refine az_E.sn 3 (pc' := 13) (L' := [.ref 61, .int v2, .int v5]) (S' := [.int (I 61 2), .int v2]) (σ' := (97, I, J, R)) rfl ?_
                    refine az_E.br (c := (I 61 2) < v2) (tt := 30) (ff := 16) (L' := [.ref 61, .int v2, .int v5]) (S' := []) (σ' := (97, I, J, R)) rfl (fun hc_16 => ?_) (fun hc_16 => ?_)
                    · rw [if_pos hc_16] at h
                      refine az_E.sn 1 (pc' := 31) (L' := [.ref 61, .int v2, .int v5]) (S' := [.int (0 : Int32)]) (σ' := (97, I, J, R)) rfl ?_
                      refine az_E.ret (v := some (.int (0 : Int32))) (σ' := (97, I, J, R)) rfl ?_
                      show az_E az_F ex 2 128 83 [.retAddr 0, .retAddr 0, .int v2, .retAddr 0, .int v4, .int v5, .ref 61, .ref 61] [.int (0 : Int32)] (97, I, J, R) _
                      refine az_E.br (c := (0 : Int32) = 0) (tt := 98) (ff := 86) (L' := [.retAddr 0, .retAddr 0, .int v2, .retAddr 0, .int v4, .int v5, .ref 61, .ref 61]) (S' := []) (σ' := (97, I, J, R)) rfl (fun _ => ?_) (fun hn => absurd (by decide) hn)
                      refine az_E.sn 1 (pc' := 100) (L' := [.retAddr 0, .retAddr 0, .int v2, .retAddr 0, .int v4, .int v5, .ref 61, .ref 61]) (S' := [.int (-13 : Int32)]) (σ' := (97, I, J, R)) rfl ?_
                      have h := Option.some.inj h
                      subst h
                      exact az_E.ret (v := some (.int (-13 : Int32))) (σ' := (97, I, J, R)) rfl hQ
                    · rw [if_neg hc_16] at h
                      refine az_E.sn 5 (pc' := 23) (L' := [.ref 61, .int v2, .int v5]) (S' := [.int ((I 61 2) - v2), .int v5]) (σ' := (97, I, J, R)) rfl ?_
                      refine az_E.br (c := ((I 61 2) - v2) < v5) (tt := 30) (ff := 26) (L' := [.ref 61, .int v2, .int v5]) (S' := []) (σ' := (97, I, J, R)) rfl (fun hc_17 => ?_) (fun hc_17 => ?_)
                      · rw [if_pos hc_17] at h
                        refine az_E.sn 1 (pc' := 31) (L' := [.ref 61, .int v2, .int v5]) (S' := [.int (0 : Int32)]) (σ' := (97, I, J, R)) rfl ?_
                        refine az_E.ret (v := some (.int (0 : Int32))) (σ' := (97, I, J, R)) rfl ?_
                        show az_E az_F ex 2 128 83 [.retAddr 0, .retAddr 0, .int v2, .retAddr 0, .int v4, .int v5, .ref 61, .ref 61] [.int (0 : Int32)] (97, I, J, R) _
                        refine az_E.br (c := (0 : Int32) = 0) (tt := 98) (ff := 86) (L' := [.retAddr 0, .retAddr 0, .int v2, .retAddr 0, .int v4, .int v5, .ref 61, .ref 61]) (S' := []) (σ' := (97, I, J, R)) rfl (fun _ => ?_) (fun hn => absurd (by decide) hn)
                        refine az_E.sn 1 (pc' := 100) (L' := [.retAddr 0, .retAddr 0, .int v2, .retAddr 0, .int v4, .int v5, .ref 61, .ref 61]) (S' := [.int (-13 : Int32)]) (σ' := (97, I, J, R)) rfl ?_
                        have h := Option.some.inj h
                        subst h
                        exact az_E.ret (v := some (.int (-13 : Int32))) (σ' := (97, I, J, R)) rfl hQ
                      · rw [if_neg hc_17] at h
                        refine az_E.sn 2 (pc' := 31) (L' := [.ref 61, .int v2, .int v5]) (S' := [.int (1 : Int32)]) (σ' := (97, I, J, R)) rfl ?_
                        refine az_E.ret (v := some (.int (1 : Int32))) (σ' := (97, I, J, R)) rfl ?_
                        show az_E az_F ex 2 128 83 [.retAddr 0, .retAddr 0, .int v2, .retAddr 0, .int v4, .int v5, .ref 61, .ref 61] [.int (1 : Int32)] (97, I, J, R) _
                        refine az_E.br (c := (1 : Int32) = 0) (tt := 98) (ff := 86) (L' := [.retAddr 0, .retAddr 0, .int v2, .retAddr 0, .int v4, .int v5, .ref 61, .ref 61]) (S' := []) (σ' := (97, I, J, R)) rfl (fun hn => absurd hn (by decide)) (fun _ => ?_)
                        refine az_E.sn 3 (pc' := 92) (L' := [.retAddr 0, .retAddr 0, .int v2, .retAddr 0, .int v4, .int v5, .ref 61, .ref 61]) (S' := [.int v5, .int v4, .ref 61]) (σ' := (97, I, J, R)) rfl ?_
                        refine az_E.call (d := 1) (k' := 60) (vs := [.ref 61, .int v4, .int v5]) (pc' := 95) (S' := []) rfl ?_ (fun _ _ hq => hq)
                        show az_E az_F ex 1 60 0 [.ref 61, .int v4, .int v5] [] (97, I, J, R) _
                        refine az_E.sn 1 (pc' := 1) (L' := [.ref 61, .int v4, .int v5]) (S' := [.int v4]) (σ' := (97, I, J, R)) rfl ?_
                        refine az_E.br (c := v4 < 0) (tt := 30) (ff := 4) (L' := [.ref 61, .int v4, .int v5]) (S' := []) (σ' := (97, I, J, R)) rfl (fun hc_18 => ?_) (fun hc_18 => ?_)
                        · rw [if_pos hc_18] at h
                          refine az_E.sn 1 (pc' := 31) (L' := [.ref 61, .int v4, .int v5]) (S' := [.int (0 : Int32)]) (σ' := (97, I, J, R)) rfl ?_
                          refine az_E.ret (v := some (.int (0 : Int32))) (σ' := (97, I, J, R)) rfl ?_
                          show az_E az_F ex 2 128 95 [.retAddr 0, .retAddr 0, .int v2, .retAddr 0, .int v4, .int v5, .ref 61, .ref 61] [.int (0 : Int32)] (97, I, J, R) _
                          refine az_E.br (c := (0 : Int32) = 0) (tt := 98) (ff := 101) (L' := [.retAddr 0, .retAddr 0, .int v2, .retAddr 0, .int v4, .int v5, .ref 61, .ref 61]) (S' := []) (σ' := (97, I, J, R)) rfl (fun _ => ?_) (fun hn => absurd (by decide) hn)
                          refine az_E.sn 1 (pc' := 100) (L' := [.retAddr 0, .retAddr 0, .int v2, .retAddr 0, .int v4, .int v5, .ref 61, .ref 61]) (S' := [.int (-13 : Int32)]) (σ' := (97, I, J, R)) rfl ?_
                          have h := Option.some.inj h
                          subst h
                          exact az_E.ret (v := some (.int (-13 : Int32))) (σ' := (97, I, J, R)) rfl hQ
                        · rw [if_neg hc_18] at h
                          refine az_E.sn 1 (pc' := 5) (L' := [.ref 61, .int v4, .int v5]) (S' := [.int v5]) (σ' := (97, I, J, R)) rfl ?_
                          refine az_E.br (c := v5 < 0) (tt := 30) (ff := 8) (L' := [.ref 61, .int v4, .int v5]) (S' := []) (σ' := (97, I, J, R)) rfl (fun hc_19 => ?_) (fun hc_19 => ?_)
                          · rw [if_pos hc_19] at h
                            refine az_E.sn 1 (pc' := 31) (L' := [.ref 61, .int v4, .int v5]) (S' := [.int (0 : Int32)]) (σ' := (97, I, J, R)) rfl ?_
                            refine az_E.ret (v := some (.int (0 : Int32))) (σ' := (97, I, J, R)) rfl ?_
                            show az_E az_F ex 2 128 95 [.retAddr 0, .retAddr 0, .int v2, .retAddr 0, .int v4, .int v5, .ref 61, .ref 61] [.int (0 : Int32)] (97, I, J, R) _
                            refine az_E.br (c := (0 : Int32) = 0) (tt := 98) (ff := 101) (L' := [.retAddr 0, .retAddr 0, .int v2, .retAddr 0, .int v4, .int v5, .ref 61, .ref 61]) (S' := []) (σ' := (97, I, J, R)) rfl (fun _ => ?_) (fun hn => absurd (by decide) hn)
                            refine az_E.sn 1 (pc' := 100) (L' := [.retAddr 0, .retAddr 0, .int v2, .retAddr 0, .int v4, .int v5, .ref 61, .ref 61]) (S' := [.int (-13 : Int32)]) (σ' := (97, I, J, R)) rfl ?_
                            have h := Option.some.inj h
                            subst h
                            exact az_E.ret (v := some (.int (-13 : Int32))) (σ' := (97, I, J, R)) rfl hQ
                          · rw [if_neg hc_19] at h
                            refine az_E.sn 3 (pc' := 13) (L' := [.ref 61, .int v4, .int v5]) (S' := [.int (I 61 2), .int v4]) (σ' := (97, I, J, R)) rfl ?_
                            refine az_E.br (c := (I 61 2) < v4) (tt := 30) (ff := 16) (L' := [.ref 61, .int v4, .int v5]) (S' := []) (σ' := (97, I, J, R)) rfl (fun hc_20 => ?_) (fun hc_20 => ?_)
                            · rw [if_pos hc_20] at h
                              refine az_E.sn 1 (pc' := 31) (L' := [.ref 61, .int v4, .int v5]) (S' := [.int (0 : Int32)]) (σ' := (97, I, J, R)) rfl ?_
                              refine az_E.ret (v := some (.int (0 : Int32))) (σ' := (97, I, J, R)) rfl ?_
                              show az_E az_F ex 2 128 95 [.retAddr 0, .retAddr 0, .int v2, .retAddr 0, .int v4, .int v5, .ref 61, .ref 61] [.int (0 : Int32)] (97, I, J, R) _
                              refine az_E.br (c := (0 : Int32) = 0) (tt := 98) (ff := 101) (L' := [.retAddr 0, .retAddr 0, .int v2, .retAddr 0, .int v4, .int v5, .ref 61, .ref 61]) (S' := []) (σ' := (97, I, J, R)) rfl (fun _ => ?_) (fun hn => absurd (by decide) hn)
                              refine az_E.sn 1 (pc' := 100) (L' := [.retAddr 0, .retAddr 0, .int v2, .retAddr 0, .int v4, .int v5, .ref 61, .ref 61]) (S' := [.int (-13 : Int32)]) (σ' := (97, I, J, R)) rfl ?_
                              have h := Option.some.inj h
                              subst h
                              exact az_E.ret (v := some (.int (-13 : Int32))) (σ' := (97, I, J, R)) rfl hQ
                            · rw [if_neg hc_20] at h
                              refine az_E.sn 5 (pc' := 23) (L' := [.ref 61, .int v4, .int v5]) (S' := [.int ((I 61 2) - v4), .int v5]) (σ' := (97, I, J, R)) rfl ?_
                              refine az_E.br (c := ((I 61 2) - v4) < v5) (tt := 30) (ff := 26) (L' := [.ref 61, .int v4, .int v5]) (S' := []) (σ' := (97, I, J, R)) rfl (fun hc_21 => ?_) (fun hc_21 => ?_)
                              · rw [if_pos hc_21] at h
                                refine az_E.sn 1 (pc' := 31) (L' := [.ref 61, .int v4, .int v5]) (S' := [.int (0 : Int32)]) (σ' := (97, I, J, R)) rfl ?_
                                refine az_E.ret (v := some (.int (0 : Int32))) (σ' := (97, I, J, R)) rfl ?_
                                show az_E az_F ex 2 128 95 [.retAddr 0, .retAddr 0, .int v2, .retAddr 0, .int v4, .int v5, .ref 61, .ref 61] [.int (0 : Int32)] (97, I, J, R) _
                                refine az_E.br (c := (0 : Int32) = 0) (tt := 98) (ff := 101) (L' := [.retAddr 0, .retAddr 0, .int v2, .retAddr 0, .int v4, .int v5, .ref 61, .ref 61]) (S' := []) (σ' := (97, I, J, R)) rfl (fun _ => ?_) (fun hn => absurd (by decide) hn)
                                refine az_E.sn 1 (pc' := 100) (L' := [.retAddr 0, .retAddr 0, .int v2, .retAddr 0, .int v4, .int v5, .ref 61, .ref 61]) (S' := [.int (-13 : Int32)]) (σ' := (97, I, J, R)) rfl ?_
                                have h := Option.some.inj h
                                subst h
                                exact az_E.ret (v := some (.int (-13 : Int32))) (σ' := (97, I, J, R)) rfl hQ
                              · rw [if_neg hc_21] at h
                                refine az_E.sn 2 (pc' := 31) (L' := [.ref 61, .int v4, .int v5]) (S' := [.int (1 : Int32)]) (σ' := (97, I, J, R)) rfl ?_
                                refine az_E.ret (v := some (.int (1 : Int32))) (σ' := (97, I, J, R)) rfl ?_
                                show az_E az_F ex 2 128 95 [.retAddr 0, .retAddr 0, .int v2, .retAddr 0, .int v4, .int v5, .ref 61, .ref 61] [.int (1 : Int32)] (97, I, J, R) _
                                refine az_E.br (c := (1 : Int32) = 0) (tt := 98) (ff := 101) (L' := [.retAddr 0, .retAddr 0, .int v2, .retAddr 0, .int v4, .int v5, .ref 61, .ref 61]) (S' := []) (σ' := (97, I, J, R)) rfl (fun hn => absurd hn (by decide)) (fun _ => ?_)
                                refine az_E.sn 7 (pc' := 116) (L' := [.retAddr 0, .retAddr 0, .int v2, .retAddr 0, .int v4, .int v5, .ref 61, .ref 61]) (S' := [.int v5, .int v4, .ref (61 + 1), .int v2, .ref (61 + 1)]) (σ' := (97, I, J, R)) rfl ?_
                                by_cases hc_22 : v2 < 0 ∨ v4 < 0 ∨ v5 < 0 ∨ 60 < v2.toNatClampNeg + v5.toNatClampNeg ∨ 60 < v4.toNatClampNeg + v5.toNatClampNeg
                                · rw [if_pos hc_22] at h; cases h
                                · rw [if_neg hc_22] at h
                                  refine az_E.o (o := az_cp az_F (97, I, J, R) (61 + 1) v2 (61 + 1) v4 v5) (pc' := 119) (L' := [.retAddr 0, .retAddr 0, .int v2, .retAddr 0, .int v4, .int v5, .ref 61, .ref 61]) (S' := []) (x := (97, I, (az_ur J (61 + 1) (va_cpy (J (61 + 1)) (J (61 + 1)) v2.toNatClampNeg v4.toNatClampNeg v5.toNatClampNeg)), R)) rfl (if_neg hc_22) ?_
                                  refine az_E.sn 1 (pc' := 121) (L' := [.retAddr 0, .retAddr 0, .int v2, .retAddr 0, .int v4, .int v5, .ref 61, .ref 61]) (S' := [.int v5]) (σ' := (97, I, (az_ur J (61 + 1) (va_cpy (J (61 + 1)) (J (61 + 1)) v2.toNatClampNeg v4.toNatClampNeg v5.toNatClampNeg)), R)) rfl ?_
                                  have h := Option.some.inj h
                                  subst h
                                  exact az_E.ret (v := some (.int v5)) (σ' := (97, I, (az_ur J (61 + 1) (va_cpy (J (61 + 1)) (J (61 + 1)) v2.toNatClampNeg v4.toNatClampNeg v5.toNatClampNeg)), R)) rfl hQ
              · rw [if_neg hc_13] at h
                refine az_E.sn 1 (pc' := 20) (L' := [.ref 61, .int (I 61 1)]) (S' := [.int (0 : Int32)]) (σ' := (97, I, J, R)) rfl ?_
                refine az_E.ret (v := some (.int (0 : Int32))) (σ' := (97, I, J, R)) rfl ?_
                show az_E az_F ex 2 128 69 [.retAddr 0, .retAddr 0, .int v2, .retAddr 0, .int v4, .int v5, .ref 61, .ref 61] [.int (0 : Int32)] (97, I, J, R) _
                refine az_E.br (c := (0 : Int32) = 0) (tt := 72) (ff := 75) (L' := [.retAddr 0, .retAddr 0, .int v2, .retAddr 0, .int v4, .int v5, .ref 61, .ref 61]) (S' := []) (σ' := (97, I, J, R)) rfl (fun _ => ?_) (fun hn => absurd (by decide) hn)
                refine az_E.sn 1 (pc' := 74) (L' := [.retAddr 0, .retAddr 0, .int v2, .retAddr 0, .int v4, .int v5, .ref 61, .ref 61]) (S' := [.int (-12 : Int32)]) (σ' := (97, I, J, R)) rfl ?_
                have h := Option.some.inj h
                subst h
                exact az_E.ret (v := some (.int (-12 : Int32))) (σ' := (97, I, J, R)) rfl hQ
      · rw [if_neg hc_9] at h
        refine az_E.sn 1 (pc' := 21) (L' := [.ref 61]) (S' := [.int (0 : Int32)]) (σ' := (97, I, J, R)) rfl ?_
        refine az_E.ret (v := some (.int (0 : Int32))) (σ' := (97, I, J, R)) rfl ?_
        show az_E az_F ex 2 128 45 [.retAddr 0, .retAddr 0, .int v2, .retAddr 0, .int v4, .int v5, .ref 61, .ref 61] [.int (0 : Int32)] (97, I, J, R) _
        refine az_E.br (c := (0 : Int32) = 0) (tt := 51) (ff := 48) (L' := [.retAddr 0, .retAddr 0, .int v2, .retAddr 0, .int v4, .int v5, .ref 61, .ref 61]) (S' := []) (σ' := (97, I, J, R)) rfl (fun _ => ?_) (fun hn => absurd (by decide) hn)
        refine az_E.sn 1 (pc' := 53) (L' := [.retAddr 0, .retAddr 0, .int v2, .retAddr 0, .int v4, .int v5, .ref 61, .ref 61]) (S' := [.ref 61]) (σ' := (97, I, J, R)) rfl ?_
        refine az_E.call (d := 1) (k' := 55) (vs := [.ref 61]) (pc' := 56) (S' := []) rfl ?_ (fun _ _ hq => hq)
        show az_E az_F ex 1 55 0 [.ref 61] [] (97, I, J, R) _
        refine az_E.sn 3 (pc' := 5) (L' := [.ref 61]) (S' := [.int (-1 : Int32), .int (I 61 1)]) (σ' := (97, I, J, R)) rfl ?_
        refine az_E.br (c := (I 61 1) = (-1 : Int32)) (tt := 12) (ff := 8) (L' := [.ref 61]) (S' := []) (σ' := (97, I, J, R)) rfl (fun hc_23 => ?_) (fun hc_23 => ?_)
        · rw [if_pos hc_23] at h
          refine az_E.sn 1 (pc' := 13) (L' := [.ref 61]) (S' := [.int (0 : Int32)]) (σ' := (97, I, J, R)) rfl ?_
          refine az_E.ret (v := some (.int (0 : Int32))) (σ' := (97, I, J, R)) rfl ?_
          show az_E az_F ex 2 128 56 [.retAddr 0, .retAddr 0, .int v2, .retAddr 0, .int v4, .int v5, .ref 61, .ref 61] [.int (0 : Int32)] (97, I, J, R) _
          refine az_E.br (c := (0 : Int32) = 0) (tt := 72) (ff := 59) (L' := [.retAddr 0, .retAddr 0, .int v2, .retAddr 0, .int v4, .int v5, .ref 61, .ref 61]) (S' := []) (σ' := (97, I, J, R)) rfl (fun _ => ?_) (fun hn => absurd (by decide) hn)
          refine az_E.sn 1 (pc' := 74) (L' := [.retAddr 0, .retAddr 0, .int v2, .retAddr 0, .int v4, .int v5, .ref 61, .ref 61]) (S' := [.int (-12 : Int32)]) (σ' := (97, I, J, R)) rfl ?_
          have h := Option.some.inj h
          subst h
          exact az_E.ret (v := some (.int (-12 : Int32))) (σ' := (97, I, J, R)) rfl hQ
        · rw [if_neg hc_23] at h
          refine az_E.sn 2 (pc' := 13) (L' := [.ref 61]) (S' := [.int (1 : Int32)]) (σ' := (97, I, J, R)) rfl ?_
          refine az_E.ret (v := some (.int (1 : Int32))) (σ' := (97, I, J, R)) rfl ?_
          show az_E az_F ex 2 128 56 [.retAddr 0, .retAddr 0, .int v2, .retAddr 0, .int v4, .int v5, .ref 61, .ref 61] [.int (1 : Int32)] (97, I, J, R) _
          refine az_E.br (c := (1 : Int32) = 0) (tt := 72) (ff := 59) (L' := [.retAddr 0, .retAddr 0, .int v2, .retAddr 0, .int v4, .int v5, .ref 61, .ref 61]) (S' := []) (σ' := (97, I, J, R)) rfl (fun hn => absurd hn (by decide)) (fun _ => ?_)
          refine az_E.sn 3 (pc' := 66) (L' := [.retAddr 0, .retAddr 0, .int v2, .retAddr 0, .int v4, .int v5, .ref 61, .ref 61]) (S' := [.int (I 61 1), .ref 61]) (σ' := (97, I, J, R)) rfl ?_
          refine az_E.call (d := 1) (k' := 56) (vs := [.ref 61, .int (I 61 1)]) (pc' := 69) (S' := []) rfl ?_ (fun _ _ hq => hq)
          show az_E az_F ex 1 56 0 [.ref 61, .int (I 61 1)] [] (97, I, J, R) _
          refine az_E.sn 1 (pc' := 1) (L' := [.ref 61, .int (I 61 1)]) (S' := [.ref 61]) (σ' := (97, I, J, R)) rfl ?_
          refine az_E.call (d := 0) (k' := 55) (vs := [.ref 61]) (pc' := 4) (S' := []) rfl ?_ (fun _ _ hq => hq)
          show az_E az_F ex 0 55 0 [.ref 61] [] (97, I, J, R) _
          refine az_E.sn 3 (pc' := 5) (L' := [.ref 61]) (S' := [.int (-1 : Int32), .int (I 61 1)]) (σ' := (97, I, J, R)) rfl ?_
          refine az_E.br (c := (I 61 1) = (-1 : Int32)) (tt := 12) (ff := 8) (L' := [.ref 61]) (S' := []) (σ' := (97, I, J, R)) rfl (fun hc_24 => ?_) (fun hc_24 => ?_)
          · rw [if_pos hc_24] at h
            refine az_E.sn 1 (pc' := 13) (L' := [.ref 61]) (S' := [.int (0 : Int32)]) (σ' := (97, I, J, R)) rfl ?_
            refine az_E.ret (v := some (.int (0 : Int32))) (σ' := (97, I, J, R)) rfl ?_
            show az_E az_F ex 1 56 4 [.ref 61, .int (I 61 1)] [.int (0 : Int32)] (97, I, J, R) _
            refine az_E.br (c := (0 : Int32) = 0) (tt := 19) (ff := 7) (L' := [.ref 61, .int (I 61 1)]) (S' := []) (σ' := (97, I, J, R)) rfl (fun _ => ?_) (fun hn => absurd (by decide) hn)
            refine az_E.sn 1 (pc' := 20) (L' := [.ref 61, .int (I 61 1)]) (S' := [.int (0 : Int32)]) (σ' := (97, I, J, R)) rfl ?_
            refine az_E.ret (v := some (.int (0 : Int32))) (σ' := (97, I, J, R)) rfl ?_
            show az_E az_F ex 2 128 69 [.retAddr 0, .retAddr 0, .int v2, .retAddr 0, .int v4, .int v5, .ref 61, .ref 61] [.int (0 : Int32)] (97, I, J, R) _
            refine az_E.br (c := (0 : Int32) = 0) (tt := 72) (ff := 75) (L' := [.retAddr 0, .retAddr 0, .int v2, .retAddr 0, .int v4, .int v5, .ref 61, .ref 61]) (S' := []) (σ' := (97, I, J, R)) rfl (fun _ => ?_) (fun hn => absurd (by decide) hn)
            refine az_E.sn 1 (pc' := 74) (L' := [.retAddr 0, .retAddr 0, .int v2, .retAddr 0, .int v4, .int v5, .ref 61, .ref 61]) (S' := [.int (-12 : Int32)]) (σ' := (97, I, J, R)) rfl ?_
            have h := Option.some.inj h
            subst h
            exact az_E.ret (v := some (.int (-12 : Int32))) (σ' := (97, I, J, R)) rfl hQ
          · rw [if_neg hc_24] at h
            refine az_E.sn 2 (pc' := 13) (L' := [.ref 61]) (S' := [.int (1 : Int32)]) (σ' := (97, I, J, R)) rfl ?_
            refine az_E.ret (v := some (.int (1 : Int32))) (σ' := (97, I, J, R)) rfl ?_
            show az_E az_F ex 1 56 4 [.ref 61, .int (I 61 1)] [.int (1 : Int32)] (97, I, J, R) _
            refine az_E.br (c := (1 : Int32) = 0) (tt := 19) (ff := 7) (L' := [.ref 61, .int (I 61 1)]) (S' := []) (σ' := (97, I, J, R)) rfl (fun hn => absurd hn (by decide)) (fun _ => ?_)
            refine az_E.sn 3 (pc' := 12) (L' := [.ref 61, .int (I 61 1)]) (S' := [.int (I 61 1), .int (I 61 1)]) (σ' := (97, I, J, R)) rfl ?_
            refine az_E.br (c := (I 61 1) = (I 61 1)) (tt := 15) (ff := 19) (L' := [.ref 61, .int (I 61 1)]) (S' := []) (σ' := (97, I, J, R)) rfl (fun hc_25 => ?_) (fun hc_25 => ?_)
            · rw [if_pos hc_25] at h
              refine az_E.sn 2 (pc' := 20) (L' := [.ref 61, .int (I 61 1)]) (S' := [.int (1 : Int32)]) (σ' := (97, I, J, R)) rfl ?_
              refine az_E.ret (v := some (.int (1 : Int32))) (σ' := (97, I, J, R)) rfl ?_
              show az_E az_F ex 2 128 69 [.retAddr 0, .retAddr 0, .int v2, .retAddr 0, .int v4, .int v5, .ref 61, .ref 61] [.int (1 : Int32)] (97, I, J, R) _
              refine az_E.br (c := (1 : Int32) = 0) (tt := 72) (ff := 75) (L' := [.retAddr 0, .retAddr 0, .int v2, .retAddr 0, .int v4, .int v5, .ref 61, .ref 61]) (S' := []) (σ' := (97, I, J, R)) rfl (fun hn => absurd hn (by decide)) (fun _ => ?_)
              refine az_E.sn 3 (pc' := 80) (L' := [.retAddr 0, .retAddr 0, .int v2, .retAddr 0, .int v4, .int v5, .ref 61, .ref 61]) (S' := [.int v5, .int v2, .ref 61]) (σ' := (97, I, J, R)) rfl ?_
              refine az_E.call (d := 1) (k' := 60) (vs := [.ref 61, .int v2, .int v5]) (pc' := 83) (S' := []) rfl ?_ (fun _ _ hq => hq)
              show az_E az_F ex 1 60 0 [.ref 61, .int v2, .int v5] [] (97, I, J, R) _
              refine az_E.sn 1 (pc' := 1) (L' := [.ref 61, .int v2, .int v5]) (S' := [.int v2]) (σ' := (97, I, J, R)) rfl ?_
              refine az_E.br (c := v2 < 0) (tt := 30) (ff := 4) (L' := [.ref 61, .int v2, .int v5]) (S' := []) (σ' := (97, I, J, R)) rfl (fun hc_26 => ?_) (fun hc_26 => ?_)
              · rw [if_pos hc_26] at h
                refine az_E.sn 1 (pc' := 31) (L' := [.ref 61, .int v2, .int v5]) (S' := [.int (0 : Int32)]) (σ' := (97, I, J, R)) rfl ?_
                refine az_E.ret (v := some (.int (0 : Int32))) (σ' := (97, I, J, R)) rfl ?_
                show az_E az_F ex 2 128 83 [.retAddr 0, .retAddr 0, .int v2, .retAddr 0, .int v4, .int v5, .ref 61, .ref 61] [.int (0 : Int32)] (97, I, J, R) _
                refine az_E.br (c := (0 : Int32) = 0) (tt := 98) (ff := 86) (L' := [.retAddr 0, .retAddr 0, .int v2, .retAddr 0, .int v4, .int v5, .ref 61, .ref 61]) (S' := []) (σ' := (97, I, J, R)) rfl (fun _ => ?_) (fun hn => absurd (by decide) hn)
                refine az_E.sn 1 (pc' := 100) (L' := [.retAddr 0, .retAddr 0, .int v2, .retAddr 0, .int v4, .int v5, .ref 61, .ref 61]) (S' := [.int (-13 : Int32)]) (σ' := (97, I, J, R)) rfl ?_
                have h := Option.some.inj h
                subst h
                exact az_E.ret (v := some (.int (-13 : Int32))) (σ' := (97, I, J, R)) rfl hQ
              · rw [if_neg hc_26] at h
                refine az_E.sn 1 (pc' := 5) (L' := [.ref 61, .int v2, .int v5]) (S' := [.int v5]) (σ' := (97, I, J, R)) rfl ?_
                refine az_E.br (c := v5 < 0) (tt := 30) (ff := 8) (L' := [.ref 61, .int v2, .int v5]) (S' := []) (σ' := (97, I, J, R)) rfl (fun hc_27 => ?_) (fun hc_27 => ?_)
                · rw [if_pos hc_27] at h
                  refine az_E.sn 1 (pc' := 31) (L' := [.ref 61, .int v2, .int v5]) (S' := [.int (0 : Int32)]) (σ' := (97, I, J, R)) rfl ?_
                  refine az_E.ret (v := some (.int (0 : Int32))) (σ' := (97, I, J, R)) rfl ?_
                  show az_E az_F ex 2 128 83 [.retAddr 0, .retAddr 0, .int v2, .retAddr 0, .int v4, .int v5, .ref 61, .ref 61] [.int (0 : Int32)] (97, I, J, R) _
                  refine az_E.br (c := (0 : Int32) = 0) (tt := 98) (ff := 86) (L' := [.retAddr 0, .retAddr 0, .int v2, .retAddr 0, .int v4, .int v5, .ref 61, .ref 61]) (S' := []) (σ' := (97, I, J, R)) rfl (fun _ => ?_) (fun hn => absurd (by decide) hn)
                  refine az_E.sn 1 (pc' := 100) (L' := [.retAddr 0, .retAddr 0, .int v2, .retAddr 0, .int v4, .int v5, .ref 61, .ref 61]) (S' := [.int (-13 : Int32)]) (σ' := (97, I, J, R)) rfl ?_
                  have h := Option.some.inj h
                  subst h
                  exact az_E.ret (v := some (.int (-13 : Int32))) (σ' := (97, I, J, R)) rfl hQ
                · rw [if_neg hc_27] at h
                  refine az_E.sn 3 (pc' := 13) (L' := [.ref 61, .int v2, .int v5]) (S' := [.int (I 61 2), .int v2]) (σ' := (97, I, J, R)) rfl ?_
                  refine az_E.br (c := (I 61 2) < v2) (tt := 30) (ff := 16) (L' := [.ref 61, .int v2, .int v5]) (S' := []) (σ' := (97, I, J, R)) rfl (fun hc_28 => ?_) (fun hc_28 => ?_)
                  · rw [if_pos hc_28] at h
                    refine az_E.sn 1 (pc' := 31) (L' := [.ref 61, .int v2, .int v5]) (S' := [.int (0 : Int32)]) (σ' := (97, I, J, R)) rfl ?_
                    refine az_E.ret (v := some (.int (0 : Int32))) (σ' := (97, I, J, R)) rfl ?_
                    show az_E az_F ex 2 128 83 [.retAddr 0, .retAddr 0, .int v2, .retAddr 0, .int v4, .int v5, .ref 61, .ref 61] [.int (0 : Int32)] (97, I, J, R) _
                    refine az_E.br (c := (0 : Int32) = 0) (tt := 98) (ff := 86) (L' := [.retAddr 0, .retAddr 0, .int v2, .retAddr 0, .int v4, .int v5, .ref 61, .ref 61]) (S' := []) (σ' := (97, I, J, R)) rfl (fun _ => ?_) (fun hn => absurd (by decide) hn)
                    refine az_E.sn 1 (pc' := 100) (L' := [.retAddr 0, .retAddr 0, .int v2, .retAddr 0, .int v4, .int v5, .ref 61, .ref 61]) (S' := [.int (-13 : Int32)]) (σ' := (97, I, J, R)) rfl ?_
                    have h := Option.some.inj h
                    subst h
                    exact az_E.ret (v := some (.int (-13 : Int32))) (σ' := (97, I, J, R)) rfl hQ
                  · rw [if_neg hc_28] at h
                    refine az_E.sn 5 (pc' := 23) (L' := [.ref 61, .int v2, .int v5]) (S' := [.int ((I 61 2) - v2), .int v5]) (σ' := (97, I, J, R)) rfl ?_
                    refine az_E.br (c := ((I 61 2) - v2) < v5) (tt := 30) (ff := 26) (L' := [.ref 61, .int v2, .int v5]) (S' := []) (σ' := (97, I, J, R)) rfl (fun hc_29 => ?_) (fun hc_29 => ?_)
                    · rw [if_pos hc_29] at h
                      refine az_E.sn 1 (pc' := 31) (L' := [.ref 61, .int v2, .int v5]) (S' := [.int (0 : Int32)]) (σ' := (97, I, J, R)) rfl ?_
                      refine az_E.ret (v := some (.int (0 : Int32))) (σ' := (97, I, J, R)) rfl ?_
                      show az_E az_F ex 2 128 83 [.retAddr 0, .retAddr 0, .int v2, .retAddr 0, .int v4, .int v5, .ref 61, .ref 61] [.int (0 : Int32)] (97, I, J, R) _
                      refine az_E.br (c := (0 : Int32) = 0) (tt := 98) (ff := 86) (L' := [.retAddr 0, .retAddr 0, .int v2, .retAddr 0, .int v4, .int v5, .ref 61, .ref 61]) (S' := []) (σ' := (97, I, J, R)) rfl (fun _ => ?_) (fun hn => absurd (by decide) hn)
                      refine az_E.sn 1 (pc' := 100) (L' := [.retAddr 0, .retAddr 0, .int v2, .retAddr 0, .int v4, .int v5, .ref 61, .ref 61]) (S' := [.int (-13 : Int32)]) (σ' := (97, I, J, R)) rfl ?_
                      have h := Option.some.inj h
                      subst h
                      exact az_E.ret (v := some (.int (-13 : Int32))) (σ' := (97, I, J, R)) rfl hQ
                    · rw [if_neg hc_29] at h
                      refine az_E.sn 2 (pc' := 31) (L' := [.ref 61, .int v2, .int v5]) (S' := [.int (1 : Int32)]) (σ' := (97, I, J, R)) rfl ?_
                      refine az_E.ret (v := some (.int (1 : Int32))) (σ' := (97, I, J, R)) rfl ?_
                      show az_E az_F ex 2 128 83 [.retAddr 0, .retAddr 0, .int v2, .retAddr 0, .int v4, .int v5, .ref 61, .ref 61] [.int (1 : Int32)] (97, I, J, R) _
                      refine az_E.br (c := (1 : Int32) = 0) (tt := 98) (ff := 86) (L' := [.retAddr 0, .retAddr 0, .int v2, .retAddr 0, .int v4, .int v5, .ref 61, .ref 61]) (S' := []) (σ' := (97, I, J, R)) rfl (fun hn => absurd hn (by decide)) (fun _ => ?_)
                      refine az_E.sn 3 (pc' := 92) (L' := [.retAddr 0, .retAddr 0, .int v2, .retAddr 0, .int v4, .int v5, .ref 61, .ref 61]) (S' := [.int v5, .int v4, .ref 61]) (σ' := (97, I, J, R)) rfl ?_
                      refine az_E.call (d := 1) (k' := 60) (vs := [.ref 61, .int v4, .int v5]) (pc' := 95) (S' := []) rfl ?_ (fun _ _ hq => hq)
                      show az_E az_F ex 1 60 0 [.ref 61, .int v4, .int v5] [] (97, I, J, R) _
                      refine az_E.sn 1 (pc' := 1) (L' := [.ref 61, .int v4, .int v5]) (S' := [.int v4]) (σ' := (97, I, J, R)) rfl ?_
                      refine az_E.br (c := v4 < 0) (tt := 30) (ff := 4) (L' := [.ref 61, .int v4, .int v5]) (S' := []) (σ' := (97, I, J, R)) rfl (fun hc_30 => ?_) (fun hc_30 => ?_)
                      · rw [if_pos hc_30] at h
                        refine az_E.sn 1 (pc' := 31) (L' := [.ref 61, .int v4, .int v5]) (S' := [.int (0 : Int32)]) (σ' := (97, I, J, R)) rfl ?_
                        refine az_E.ret (v := some (.int (0 : Int32))) (σ' := (97, I, J, R)) rfl ?_
                        show az_E az_F ex 2 128 95 [.retAddr 0, .retAddr 0, .int v2, .retAddr 0, .int v4, .int v5, .ref 61, .ref 61] [.int (0 : Int32)] (97, I, J, R) _
                        refine az_E.br (c := (0 : Int32) = 0) (tt := 98) (ff := 101) (L' := [.retAddr 0, .retAddr 0, .int v2, .retAddr 0, .int v4, .int v5, .ref 61, .ref 61]) (S' := []) (σ' := (97, I, J, R)) rfl (fun _ => ?_) (fun hn => absurd (by decide) hn)
                        refine az_E.sn 1 (pc' := 100) (L' := [.retAddr 0, .retAddr 0, .int v2, .retAddr 0, .int v4, .int v5, .ref 61, .ref 61]) (S' := [.int (-13 : Int32)]) (σ' := (97, I, J, R)) rfl ?_
                        have h := Option.some.inj h
                        subst h
                        exact az_E.ret (v := some (.int (-13 : Int32))) (σ' := (97, I, J, R)) rfl hQ
                      · rw [if_neg hc_30] at h
                        refine az_E.sn 1 (pc' := 5) (L' := [.ref 61, .int v4, .int v5]) (S' := [.int v5]) (σ' := (97, I, J, R)) rfl ?_
                        refine az_E.br (c := v5 < 0) (tt := 30) (ff := 8) (L' := [.ref 61, .int v4, .int v5]) (S' := []) (σ' := (97, I, J, R)) rfl (fun hc_31 => ?_) (fun hc_31 => ?_)
                        · rw [if_pos hc_31] at h
                          refine az_E.sn 1 (pc' := 31) (L' := [.ref 61, .int v4, .int v5]) (S' := [.int (0 : Int32)]) (σ' := (97, I, J, R)) rfl ?_
                          refine az_E.ret (v := some (.int (0 : Int32))) (σ' := (97, I, J, R)) rfl ?_
                          show az_E az_F ex 2 128 95 [.retAddr 0, .retAddr 0, .int v2, .retAddr 0, .int v4, .int v5, .ref 61, .ref 61] [.int (0 : Int32)] (97, I, J, R) _
                          refine az_E.br (c := (0 : Int32) = 0) (tt := 98) (ff := 101) (L' := [.retAddr 0, .retAddr 0, .int v2, .retAddr 0, .int v4, .int v5, .ref 61, .ref 61]) (S' := []) (σ' := (97, I, J, R)) rfl (fun _ => ?_) (fun hn => absurd (by decide) hn)
                          refine az_E.sn 1 (pc' := 100) (L' := [.retAddr 0, .retAddr 0, .int v2, .retAddr 0, .int v4, .int v5, .ref 61, .ref 61]) (S' := [.int (-13 : Int32)]) (σ' := (97, I, J, R)) rfl ?_
                          have h := Option.some.inj h
                          subst h
                          exact az_E.ret (v := some (.int (-13 : Int32))) (σ' := (97, I, J, R)) rfl hQ
                        · rw [if_neg hc_31] at h
                          refine az_E.sn 3 (pc' := 13) (L' := [.ref 61, .int v4, .int v5]) (S' := [.int (I 61 2), .int v4]) (σ' := (97, I, J, R)) rfl ?_
                          refine az_E.br (c := (I 61 2) < v4) (tt := 30) (ff := 16) (L' := [.ref 61, .int v4, .int v5]) (S' := []) (σ' := (97, I, J, R)) rfl (fun hc_32 => ?_) (fun hc_32 => ?_)
                          · rw [if_pos hc_32] at h
                            refine az_E.sn 1 (pc' := 31) (L' := [.ref 61, .int v4, .int v5]) (S' := [.int (0 : Int32)]) (σ' := (97, I, J, R)) rfl ?_
                            refine az_E.ret (v := some (.int (0 : Int32))) (σ' := (97, I, J, R)) rfl ?_
                            show az_E az_F ex 2 128 95 [.retAddr 0, .retAddr 0, .int v2, .retAddr 0, .int v4, .int v5, .ref 61, .ref 61] [.int (0 : Int32)] (97, I, J, R) _
                            refine az_E.br (c := (0 : Int32) = 0) (tt := 98) (ff := 101) (L' := [.retAddr 0, .retAddr 0, .int v2, .retAddr 0, .int v4, .int v5, .ref 61, .ref 61]) (S' := []) (σ' := (97, I, J, R)) rfl (fun _ => ?_) (fun hn => absurd (by decide) hn)
                            refine az_E.sn 1 (pc' := 100) (L' := [.retAddr 0, .retAddr 0, .int v2, .retAddr 0, .int v4, .int v5, .ref 61, .ref 61]) (S' := [.int (-13 : Int32)]) (σ' := (97, I, J, R)) rfl ?_
                            have h := Option.some.inj h
                            subst h
                            exact az_E.ret (v := some (.int (-13 : Int32))) (σ' := (97, I, J, R)) rfl hQ
                          · rw [if_neg hc_32] at h
                            refine az_E.sn 5 (pc' := 23) (L' := [.ref 61, .int v4, .int v5]) (S' := [.int ((I 61 2) - v4), .int v5]) (σ' := (97, I, J, R)) rfl ?_
                            refine az_E.br (c := ((I 61 2) - v4) < v5) (tt := 30) (ff := 26) (L' := [.ref 61, .int v4, .int v5]) (S' := []) (σ' := (97, I, J, R)) rfl (fun hc_33 => ?_) (fun hc_33 => ?_)
                            · rw [if_pos hc_33] at h
                              refine az_E.sn 1 (pc' := 31) (L' := [.ref 61, .int v4, .int v5]) (S' := [.int (0 : Int32)]) (σ' := (97, I, J, R)) rfl ?_
                              refine az_E.ret (v := some (.int (0 : Int32))) (σ' := (97, I, J, R)) rfl ?_
                              show az_E az_F ex 2 128 95 [.retAddr 0, .retAddr 0, .int v2, .retAddr 0, .int v4, .int v5, .ref 61, .ref 61] [.int (0 : Int32)] (97, I, J, R) _
                              refine az_E.br (c := (0 : Int32) = 0) (tt := 98) (ff := 101) (L' := [.retAddr 0, .retAddr 0, .int v2, .retAddr 0, .int v4, .int v5, .ref 61, .ref 61]) (S' := []) (σ' := (97, I, J, R)) rfl (fun _ => ?_) (fun hn => absurd (by decide) hn)
                              refine az_E.sn 1 (pc' := 100) (L' := [.retAddr 0, .retAddr 0, .int v2, .retAddr 0, .int v4, .int v5, .ref 61, .ref 61]) (S' := [.int (-13 : Int32)]) (σ' := (97, I, J, R)) rfl ?_
                              have h := Option.some.inj h
                              subst h
                              exact az_E.ret (v := some (.int (-13 : Int32))) (σ' := (97, I, J, R)) rfl hQ
                            · rw [if_neg hc_33] at h
                              refine az_E.sn 2 (pc' := 31) (L' := [.ref 61, .int v4, .int v5]) (S' := [.int (1 : Int32)]) (σ' := (97, I, J, R)) rfl ?_
                              refine az_E.ret (v := some (.int (1 : Int32))) (σ' := (97, I, J, R)) rfl ?_
                              show az_E az_F ex 2 128 95 [.retAddr 0, .retAddr 0, .int v2, .retAddr 0, .int v4, .int v5, .ref 61, .ref 61] [.int (1 : Int32)] (97, I, J, R) _
                              refine az_E.br (c := (1 : Int32) = 0) (tt := 98) (ff := 101) (L' := [.retAddr 0, .retAddr 0, .int v2, .retAddr 0, .int v4, .int v5, .ref 61, .ref 61]) (S' := []) (σ' := (97, I, J, R)) rfl (fun hn => absurd hn (by decide)) (fun _ => ?_)
                              refine az_E.sn 7 (pc' := 116) (L' := [.retAddr 0, .retAddr 0, .int v2, .retAddr 0, .int v4, .int v5, .ref 61, .ref 61]) (S' := [.int v5, .int v4, .ref (61 + 1), .int v2, .ref (61 + 1)]) (σ' := (97, I, J, R)) rfl ?_
                              by_cases hc_34 : v2 < 0 ∨ v4 < 0 ∨ v5 < 0 ∨ 60 < v2.toNatClampNeg + v5.toNatClampNeg ∨ 60 < v4.toNatClampNeg + v5.toNatClampNeg
                              · rw [if_pos hc_34] at h; cases h
                              · rw [if_neg hc_34] at h
                                refine az_E.o (o := az_cp az_F (97, I, J, R) (61 + 1) v2 (61 + 1) v4 v5) (pc' := 119) (L' := [.retAddr 0, .retAddr 0, .int v2, .retAddr 0, .int v4, .int v5, .ref 61, .ref 61]) (S' := []) (x := (97, I, (az_ur J (61 + 1) (va_cpy (J (61 + 1)) (J (61 + 1)) v2.toNatClampNeg v4.toNatClampNeg v5.toNatClampNeg)), R)) rfl (if_neg hc_34) ?_
                                refine az_E.sn 1 (pc' := 121) (L' := [.retAddr 0, .retAddr 0, .int v2, .retAddr 0, .int v4, .int v5, .ref 61, .ref 61]) (S' := [.int v5]) (σ' := (97, I, (az_ur J (61 + 1) (va_cpy (J (61 + 1)) (J (61 + 1)) v2.toNatClampNeg v4.toNatClampNeg v5.toNatClampNeg)), R)) rfl ?_
                                have h := Option.some.inj h
                                subst h
                                exact az_E.ret (v := some (.int v5)) (σ' := (97, I, (az_ur J (61 + 1) (va_cpy (J (61 + 1)) (J (61 + 1)) v2.toNatClampNeg v4.toNatClampNeg v5.toNatClampNeg)), R)) rfl hQ
            · rw [if_neg hc_25] at h
              refine az_E.sn 1 (pc' := 20) (L' := [.ref 61, .int (I 61 1)]) (S' := [.int (0 : Int32)]) (σ' := (97, I, J, R)) rfl ?_
              refine az_E.ret (v := some (.int (0 : Int32))) (σ' := (97, I, J, R)) rfl ?_
              show az_E az_F ex 2 128 69 [.retAddr 0, .retAddr 0, .int v2, .retAddr 0, .int v4, .int v5, .ref 61, .ref 61] [.int (0 : Int32)] (97, I, J, R) _
              refine az_E.br (c := (0 : Int32) = 0) (tt := 72) (ff := 75) (L' := [.retAddr 0, .retAddr 0, .int v2, .retAddr 0, .int v4, .int v5, .ref 61, .ref 61]) (S' := []) (σ' := (97, I, J, R)) rfl (fun _ => ?_) (fun hn => absurd (by decide) hn)
              refine az_E.sn 1 (pc' := 74) (L' := [.retAddr 0, .retAddr 0, .int v2, .retAddr 0, .int v4, .int v5, .ref 61, .ref 61]) (S' := [.int (-12 : Int32)]) (σ' := (97, I, J, R)) rfl ?_
              have h := Option.some.inj h
              subst h
              exact az_E.ret (v := some (.int (-12 : Int32))) (σ' := (97, I, J, R)) rfl hQ
  · rw [if_neg hc_7] at h
    refine az_E.sn 1 (pc' := 21) (L' := [.ref 61]) (S' := [.int (0 : Int32)]) (σ' := (97, I, J, R)) rfl ?_
    refine az_E.ret (v := some (.int (0 : Int32))) (σ' := (97, I, J, R)) rfl ?_
    show az_E az_F ex 2 128 37 [.retAddr 0, .retAddr 0, .int v2, .retAddr 0, .int v4, .int v5, .ref 61, .ref 61] [.int (0 : Int32)] (97, I, J, R) _
    refine az_E.br (c := (0 : Int32) = 0) (tt := 40) (ff := 48) (L' := [.retAddr 0, .retAddr 0, .int v2, .retAddr 0, .int v4, .int v5, .ref 61, .ref 61]) (S' := []) (σ' := (97, I, J, R)) rfl (fun _ => ?_) (fun hn => absurd (by decide) hn)
    refine az_E.sn 1 (pc' := 42) (L' := [.retAddr 0, .retAddr 0, .int v2, .retAddr 0, .int v4, .int v5, .ref 61, .ref 61]) (S' := [.ref 61]) (σ' := (97, I, J, R)) rfl ?_
    refine az_E.call (d := 1) (k' := 54) (vs := [.ref 61]) (pc' := 45) (S' := []) rfl ?_ (fun _ _ hq => hq)
    show az_E az_F ex 1 54 0 [.ref 61] [] (97, I, J, R) _
    refine az_E.sn 3 (pc' := 5) (L' := [.ref 61]) (S' := [.int (-1 : Int32), .int (I 61 0)]) (σ' := (97, I, J, R)) rfl ?_
    refine az_E.br (c := (I 61 0) = (-1 : Int32)) (tt := 8) (ff := 20) (L' := [.ref 61]) (S' := []) (σ' := (97, I, J, R)) rfl (fun hc_35 => ?_) (fun hc_35 => ?_)
    · rw [if_pos hc_35] at h
      refine az_E.sn 3 (pc' := 13) (L' := [.ref 61]) (S' := [.int (-1 : Int32), .int (I 61 1)]) (σ' := (97, I, J, R)) rfl ?_
      refine az_E.br (c := (I 61 1) = (-1 : Int32)) (tt := 16) (ff := 20) (L' := [.ref 61]) (S' := []) (σ' := (97, I, J, R)) rfl (fun hc_36 => ?_) (fun hc_36 => ?_)
      · rw [if_pos hc_36] at h
        refine az_E.sn 2 (pc' := 21) (L' := [.ref 61]) (S' := [.int (1 : Int32)]) (σ' := (97, I, J, R)) rfl ?_
        refine az_E.ret (v := some (.int (1 : Int32))) (σ' := (97, I, J, R)) rfl ?_
        show az_E az_F ex 2 128 45 [.retAddr 0, .retAddr 0, .int v2, .retAddr 0, .int v4, .int v5, .ref 61, .ref 61] [.int (1 : Int32)] (97, I, J, R) _
        refine az_E.br (c := (1 : Int32) = 0) (tt := 51) (ff := 48) (L' := [.retAddr 0, .retAddr 0, .int v2, .retAddr 0, .int v4, .int v5, .ref 61, .ref 61]) (S' := []) (σ' := (97, I, J, R)) rfl (fun hn => absurd hn (by decide)) (fun _ => ?_)
        refine az_E.sn 1 (pc' := 50) (L' := [.retAddr 0, .retAddr 0, .int v2, .retAddr 0, .int v4, .int v5, .ref 61, .ref 61]) (S' := [.int (-11 : Int32)]) (σ' := (97, I, J, R)) rfl ?_
        have h := Option.some.inj h
        subst h
        exact az_E.ret (v := some (.int (-11 : Int32))) (σ' := (97, I, J, R)) rfl hQ
      · rw [if_neg hc_36] at h
        refine az_E.sn 1 (pc' := 21) (L' := [.ref 61]) (S' := [.int (0 : Int32)]) (σ' := (97, I, J, R)) rfl ?_
        refine az_E.ret (v := some (.int (0 : Int32))) (σ' := (97, I, J, R)) rfl ?_
        show az_E az_F ex 2 128 45 [.retAddr 0, .retAddr 0, .int v2, .retAddr 0, .int v4, .int v5, .ref 61, .ref 61] [.int (0 : Int32)] (97, I, J, R) _
        refine az_E.br (c := (0 : Int32) = 0) (tt := 51) (ff := 48) (L' := [.retAddr 0, .retAddr 0, .int v2, .retAddr 0, .int v4, .int v5, .ref 61, .ref 61]) (S' := []) (σ' := (97, I, J, R)) rfl (fun _ => ?_) (fun hn => absurd (by decide) hn)
        refine az_E.sn 1 (pc' := 53) (L' := [.retAddr 0, .retAddr 0, .int v2, .retAddr 0, .int v4, .int v5, .ref 61, .ref 61]) (S' := [.ref 61]) (σ' := (97, I, J, R)) rfl ?_
        refine az_E.call (d := 1) (k' := 55) (vs := [.ref 61]) (pc' := 56) (S' := []) rfl ?_ (fun _ _ hq => hq)
        show az_E az_F ex 1 55 0 [.ref 61] [] (97, I, J, R) _
        refine az_E.sn 3 (pc' := 5) (L' := [.ref 61]) (S' := [.int (-1 : Int32), .int (I 61 1)]) (σ' := (97, I, J, R)) rfl ?_
        refine az_E.br (c := (I 61 1) = (-1 : Int32)) (tt := 12) (ff := 8) (L' := [.ref 61]) (S' := []) (σ' := (97, I, J, R)) rfl (fun hc_37 => ?_) (fun hc_37 => ?_)
        · rw [if_pos hc_37] at h
          refine az_E.sn 1 (pc' := 13) (L' := [.ref 61]) (S' := [.int (0 : Int32)]) (σ' := (97, I, J, R)) rfl ?_
          refine az_E.ret (v := some (.int (0 : Int32))) (σ' := (97, I, J, R)) rfl ?_
          show az_E az_F ex 2 128 56 [.retAddr 0, .retAddr 0, .int v2, .retAddr 0, .int v4, .int v5, .ref 61, .ref 61] [.int (0 : Int32)] (97, I, J, R) _
          refine az_E.br (c := (0 : Int32) = 0) (tt := 72) (ff := 59) (L' := [.retAddr 0, .retAddr 0, .int v2, .retAddr 0, .int v4, .int v5, .ref 61, .ref 61]) (S' := []) (σ' := (97, I, J, R)) rfl (fun _ => ?_) (fun hn => absurd (by decide) hn)
          refine az_E.sn 1 (pc' := 74) (L' := [.retAddr 0, .retAddr 0, .int v2, .retAddr 0, .int v4, .int v5, .ref 61, .ref 61]) (S' := [.int (-12 : Int32)]) (σ' := (97, I, J, R)) rfl ?_
          have h := Option.some.inj h
          subst h
          exact az_E.ret (v := some (.int (-12 : Int32))) (σ' := (97, I, J, R)) rfl hQ
        · rw [if_neg hc_37] at h
          refine az_E.sn 2 (pc' := 13) (L' := [.ref 61]) (S' := [.int (1 : Int32)]) (σ' := (97, I, J, R)) rfl ?_
          refine az_E.ret (v := some (.int (1 : Int32))) (σ' := (97, I, J, R)) rfl ?_
          show az_E az_F ex 2 128 56 [.retAddr 0, .retAddr 0, .int v2, .retAddr 0, .int v4, .int v5, .ref 61, .ref 61] [.int (1 : Int32)] (97, I, J, R) _
          refine az_E.br (c := (1 : Int32) = 0) (tt := 72) (ff := 59) (L' := [.retAddr 0, .retAddr 0, .int v2, .retAddr 0, .int v4, .int v5, .ref 61, .ref 61]) (S' := []) (σ' := (97, I, J, R)) rfl (fun hn => absurd hn (by decide)) (fun _ => ?_)
          refine az_E.sn 3 (pc' := 66) (L' := [.retAddr 0, .retAddr 0, .int v2, .retAddr 0, .int v4, .int v5, .ref 61, .ref 61]) (S' := [.int (I 61 1), .ref 61]) (σ' := (97, I, J, R)) rfl ?_
          refine az_E.call (d := 1) (k' := 56) (vs := [.ref 61, .int (I 61 1)]) (pc' := 69) (S' := []) rfl ?_ (fun _ _ hq => hq)
          show az_E az_F ex 1 56 0 [.ref 61, .int (I 61 1)] [] (97, I, J, R) _
          refine az_E.sn 1 (pc' := 1) (L' := [.ref 61, .int (I 61 1)]) (S' := [.ref 61]) (σ' := (97, I, J, R)) rfl ?_
          refine az_E.call (d := 0) (k' := 55) (vs := [.ref 61]) (pc' := 4) (S' := []) rfl ?_ (fun _ _ hq => hq)
          show az_E az_F ex 0 55 0 [.ref 61] [] (97, I, J, R) _
          refine az_E.sn 3 (pc' := 5) (L' := [.ref 61]) (S' := [.int (-1 : Int32), .int (I 61 1)]) (σ' := (97, I, J, R)) rfl ?_
          refine az_E.br (c := (I 61 1) = (-1 : Int32)) (tt := 12) (ff := 8) (L' := [.ref 61]) (S' := []) (σ' := (97, I, J, R)) rfl (fun hc_38 => ?_) (fun hc_38 => ?_)
          · rw [if_pos hc_38] at h
            refine az_E.sn 1 (pc' := 13) (L' := [.ref 61]) (S' := [.int (0 : Int32)]) (σ' := (97, I, J, R)) rfl ?_
            refine az_E.ret (v := some (.int (0 : Int32))) (σ' := (97, I, J, R)) rfl ?_
            show az_E az_F ex 1 56 4 [.ref 61, .int (I 61 1)] [.int (0 : Int32)] (97, I, J, R) _
            refine az_E.br (c := (0 : Int32) = 0) (tt := 19) (ff := 7) (L' := [.ref 61, .int (I 61 1)]) (S' := []) (σ' := (97, I, J, R)) rfl (fun _ => ?_) (fun hn => absurd (by decide) hn)
            refine az_E.sn 1 (pc' := 20) (L' := [.ref 61, .int (I 61 1)]) (S' := [.int (0 : Int32)]) (σ' := (97, I, J, R)) rfl ?_
            refine az_E.ret (v := some (.int (0 : Int32))) (σ' := (97, I, J, R)) rfl ?_
            show az_E az_F ex 2 128 69 [.retAddr 0, .retAddr 0, .int v2, .retAddr 0, .int v4, .int v5, .ref 61, .ref 61] [.int (0 : Int32)] (97, I, J, R) _
            refine az_E.br (c := (0 : Int32) = 0) (tt := 72) (ff := 75) (L' := [.retAddr 0, .retAddr 0, .int v2, .retAddr 0, .int v4, .int v5, .ref 61, .ref 61]) (S' := []) (σ' := (97, I, J, R)) rfl (fun _ => ?_) (fun hn => absurd (by decide) hn)
            refine az_E.sn 1 (pc' := 74) (L' := [.retAddr 0, .retAddr 0, .int v2, .retAddr 0, .int v4, .int v5, .ref 61, .ref 61]) (S' := [.int (-12 : Int32)]) (σ' := (97, I, J, R)) rfl ?_
            have h := Option.some.inj h
            subst h
            exact az_E.ret (v := some (.int (-12 : Int32))) (σ' := (97, I, J, R)) rfl hQ
          · rw [if_neg hc_38] at h
            refine az_E.sn 2 (pc' := 13) (L' := [.ref 61]) (S' := [.int (1 : Int32)]) (σ' := (97, I, J, R)) rfl ?_
            refine az_E.ret (v := some (.int (1 : Int32))) (σ' := (97, I, J, R)) rfl ?_
            show az_E az_F ex 1 56 4 [.ref 61, .int (I 61 1)] [.int (1 : Int32)] (97, I, J, R) _
            refine az_E.br (c := (1 : Int32) = 0) (tt := 19) (ff := 7) (L' := [.ref 61, .int (I 61 1)]) (S' := []) (σ' := (97, I, J, R)) rfl (fun hn => absurd hn (by decide)) (fun _ => ?_)
            refine az_E.sn 3 (pc' := 12) (L' := [.ref 61, .int (I 61 1)]) (S' := [.int (I 61 1), .int (I 61 1)]) (σ' := (97, I, J, R)) rfl ?_
            refine az_E.br (c := (I 61 1) = (I 61 1)) (tt := 15) (ff := 19) (L' := [.ref 61, .int (I 61 1)]) (S' := []) (σ' := (97, I, J, R)) rfl (fun hc_39 => ?_) (fun hc_39 => ?_)
            · rw [if_pos hc_39] at h
              refine az_E.sn 2 (pc' := 20) (L' := [.ref 61, .int (I 61 1)]) (S' := [.int (1 : Int32)]) (σ' := (97, I, J, R)) rfl ?_
              refine az_E.ret (v := some (.int (1 : Int32))) (σ' := (97, I, J, R)) rfl ?_
              show az_E az_F ex 2 128 69 [.retAddr 0, .retAddr 0, .int v2, .retAddr 0, .int v4, .int v5, .ref 61, .ref 61] [.int (1 : Int32)] (97, I, J, R) _
              refine az_E.br (c := (1 : Int32) = 0) (tt := 72) (ff := 75) (L' := [.retAddr 0, .retAddr 0, .int v2, .retAddr 0, .int v4, .int v5, .ref 61, .ref 61]) (S' := []) (σ' := (97, I, J, R)) rfl (fun hn => absurd hn (by decide)) (fun _ => ?_)
              refine az_E.sn 3 (pc' := 80) (L' := [.retAddr 0, .retAddr 0, .int v2, .retAddr 0, .int v4, .int v5, .ref 61, .ref 61]) (S' := [.int v5, .int v2, .ref 61]) (σ' := (97, I, J, R)) rfl ?_
              refine az_E.call (d := 1) (k' := 60) (vs := [.ref 61, .int v2, .int v5]) (pc' := 83) (S' := []) rfl ?_ (fun _ _ hq => hq)
              show az_E az_F ex 1 60 0 [.ref 61, .int v2, .int v5] [] (97, I, J, R) _
              refine az_E.sn 1 (pc' := 1) (L' := [.ref 61, .int v2, .int v5]) (S' := [.int v2]) (σ' := (97, I, J, R)) rfl ?_
              refine az_E.br (c := v2 < 0) (tt := 30) (ff := 4) (L' := [.ref 61, .int v2, .int v5]) (S' := []) (σ' := (97, I, J, R)) rfl (fun hc_40 => ?_) (fun hc_40 => ?_)
              · rw [if_pos hc_40] at h
                refine az_E.sn 1 (pc' := 31) (L' := [.ref 61, .int v2, .int v5]) (S' := [.int (0 : Int32)]) (σ' := (97, I, J, R)) rfl ?_
                refine az_E.ret (v := some (.int (0 : Int32))) (σ' := (97, I, J, R)) rfl ?_
                show az_E az_F ex 2 128 83 [.retAddr 0, .retAddr 0, .int v2, .retAddr 0, .int v4, .int v5, .ref 61, .ref 61] [.int (0 : Int32)] (97, I, J, R) _
                refine az_E.br (c := (0 : Int32) = 0) (tt := 98) (ff := 86) (L' := [.retAddr 0, .retAddr 0, .int v2, .retAddr 0, .int v4, .int v5, .ref 61, .ref 61]) (S' := []) (σ' := (97, I, J, R)) rfl (fun _ => ?_) (fun hn => absurd (by decide) hn)
                refine az_E.sn 1 (pc' := 100) (L' := [.retAddr 0, .retAddr 0, .int v2, .retAddr 0, .int v4, .int v5, .ref 61, .ref 61]) (S' := [.int (-13 : Int32)]) (σ' := (97, I, J, R)) rfl ?_
                have h := Option.some.inj h
                subst h
                exact az_E.ret (v := some (.int (-13 : Int32))) (σ' := (97, I, J, R)) rfl hQ
              · rw [if_neg hc_40] at h
                refine az_E.sn 1 (pc' := 5) (L' := [.ref 61, .int v2, .int v5]) (S' := [.int v5]) (σ' := (97, I, J, R)) rfl ?_
                refine az_E.br (c := v5 < 0) (tt := 30) (ff := 8) (L' := [.ref 61, .int v2, .int v5]) (S' := []) (σ' := (97, I, J, R)) rfl (fun hc_41 => ?_) (fun hc_41 => ?_)
                · rw [if_pos hc_41] at h
                  refine az_E.sn 1 (pc' := 31) (L' := [.ref 61, .int v2, .int v5]) (S' := [.int (0 : Int32)]) (σ' := (97, I, J, R)) rfl ?_
                  refine az_E.ret (v := some (.int (0 : Int32))) (σ' := (97, I, J, R)) rfl ?_
                  show az_E az_F ex 2 128 83 [.retAddr 0, .retAddr 0, .int v2, .retAddr 0, .int v4, .int v5, .ref 61, .ref 61] [.int (0 : Int32)] (97, I, J, R) _
                  refine az_E.br (c := (0 : Int32) = 0) (tt := 98) (ff := 86) (L' := [.retAddr 0, .retAddr 0, .int v2, .retAddr 0, .int v4, .int v5, .ref 61, .ref 61]) (S' := []) (σ' := (97, I, J, R)) rfl (fun _ => ?_) (fun hn => absurd (by decide) hn)
                  refine az_E.sn 1 (pc' := 100) (L' := [.retAddr 0, .retAddr 0, .int v2, .retAddr 0, .int v4, .int v5, .ref 61, .ref 61]) (S' := [.int (-13 : Int32)]) (σ' := (97, I, J, R)) rfl ?_
                  have h := Option.some.inj h
                  subst h
                  exact az_E.ret (v := some (.int (-13 : Int32))) (σ' := (97, I, J, R)) rfl hQ
                · rw [if_neg hc_41] at h
                  refine az_E.sn 3 (pc' := 13) (L' := [.ref 61, .int v2, .int v5]) (S' := [.int (I 61 2), .int v2]) (σ' := (97, I, J, R)) rfl ?_
                  refine az_E.br (c := (I 61 2) < v2) (tt := 30) (ff := 16) (L' := [.ref 61, .int v2, .int v5]) (S' := []) (σ' := (97, I, J, R)) rfl (fun hc_42 => ?_) (fun hc_42 => ?_)
                  · rw [if_pos hc_42] at h
                    refine az_E.sn 1 (pc' := 31) (L' := [.ref 61, .int v2, .int v5]) (S' := [.int (0 : Int32)]) (σ' := (97, I, J, R)) rfl ?_
                    refine az_E.ret (v := some (.int (0 : Int32))) (σ' := (97, I, J, R)) rfl ?_
                    show az_E az_F ex 2 128 83 [.retAddr 0, .retAddr 0, .int v2, .retAddr 0, .int v4, .int v5, .ref 61, .ref 61] [.int (0 : Int32)] (97, I, J, R) _
                    refine az_E.br (c := (0 : Int32) = 0) (tt := 98) (ff := 86) (L' := [.retAddr 0, .retAddr 0, .int v2, .retAddr 0, .int v4, .int v5, .ref 61, .ref 61]) (S' := []) (σ' := (97, I, J, R)) rfl (fun _ => ?_) (fun hn => absurd (by decide) hn)
                    refine az_E.sn 1 (pc' := 100) (L' := [.retAddr 0, .retAddr 0, .int v2, .retAddr 0, .int v4, .int v5, .ref 61, .ref 61]) (S' := [.int (-13 : Int32)]) (σ' := (97, I, J, R)) rfl ?_
                    have h := Option.some.inj h
                    subst h
                    exact az_E.ret (v := some (.int (-13 : Int32))) (σ' := (97, I, J, R)) rfl hQ
                  · rw [if_neg hc_42] at h
                    refine az_E.sn 5 (pc' := 23) (L' := [.ref 61, .int v2, .int v5]) (S' := [.int ((I 61 2) - v2), .int v5]) (σ' := (97, I, J, R)) rfl ?_
                    refine az_E.br (c := ((I 61 2) - v2) < v5) (tt := 30) (ff := 26) (L' := [.ref 61, .int v2, .int v5]) (S' := []) (σ' := (97, I, J, R)) rfl (fun hc_43 => ?_) (fun hc_43 => ?_)
                    · rw [if_pos hc_43] at h
                      refine az_E.sn 1 (pc' := 31) (L' := [.ref 61, .int v2, .int v5]) (S' := [.int (0 : Int32)]) (σ' := (97, I, J, R)) rfl ?_
                      refine az_E.ret (v := some (.int (0 : Int32))) (σ' := (97, I, J, R)) rfl ?_
                      show az_E az_F ex 2 128 83 [.retAddr 0, .retAddr 0, .int v2, .retAddr 0, .int v4, .int v5, .ref 61, .ref 61] [.int (0 : Int32)] (97, I, J, R) _
                      refine az_E.br (c := (0 : Int32) = 0) (tt := 98) (ff := 86) (L' := [.retAddr 0, .retAddr 0, .int v2, .retAddr 0, .int v4, .int v5, .ref 61, .ref 61]) (S' := []) (σ' := (97, I, J, R)) rfl (fun _ => ?_) (fun hn => absurd (by decide) hn)
                      refine az_E.sn 1 (pc' := 100) (L' := [.retAddr 0, .retAddr 0, .int v2, .retAddr 0, .int v4, .int v5, .ref 61, .ref 61]) (S' := [.int (-13 : Int32)]) (σ' := (97, I, J, R)) rfl ?_
                      have h := Option.some.inj h
                      subst h
                      exact az_E.ret (v := some (.int (-13 : Int32))) (σ' := (97, I, J, R)) rfl hQ
                    · rw [if_neg hc_43] at h
                      refine az_E.sn 2 (pc' := 31) (L' := [.ref 61, .int v2, .int v5]) (S' := [.int (1 : Int32)]) (σ' := (97, I, J, R)) rfl ?_
                      refine az_E.ret (v := some (.int (1 : Int32))) (σ' := (97, I, J, R)) rfl ?_
                      show az_E az_F ex 2 128 83 [.retAddr 0, .retAddr 0, .int v2, .retAddr 0, .int v4, .int v5, .ref 61, .ref 61] [.int (1 : Int32)] (97, I, J, R) _
                      refine az_E.br (c := (1 : Int32) = 0) (tt := 98) (ff := 86) (L' := [.retAddr 0, .retAddr 0, .int v2, .retAddr 0, .int v4, .int v5, .ref 61, .ref 61]) (S' := []) (σ' := (97, I, J, R)) rfl (fun hn => absurd hn (by decide)) (fun _ => ?_)
                      refine az_E.sn 3 (pc' := 92) (L' := [.retAddr 0, .retAddr 0, .int v2, .retAddr 0, .int v4, .int v5, .ref 61, .ref 61]) (S' := [.int v5, .int v4, .ref 61]) (σ' := (97, I, J, R)) rfl ?_
                      refine az_E.call (d := 1) (k' := 60) (vs := [.ref 61, .int v4, .int v5]) (pc' := 95) (S' := []) rfl ?_ (fun _ _ hq => hq)
                      show az_E az_F ex 1 60 0 [.ref 61, .int v4, .int v5] [] (97, I, J, R) _
                      refine az_E.sn 1 (pc' := 1) (L' := [.ref 61, .int v4, .int v5]) (S' := [.int v4]) (σ' := (97, I, J, R)) rfl ?_
                      refine az_E.br (c := v4 < 0) (tt := 30) (ff := 4) (L' := [.ref 61, .int v4, .int v5]) (S' := []) (σ' := (97, I, J, R)) rfl (fun hc_44 => ?_) (fun hc_44 => ?_)
                      · rw [if_pos hc_44] at h
                        refine az_E.sn 1 (pc' := 31) (L' := [.ref 61, .int v4, .int v5]) (S' := [.int (0 : Int32)]) (σ' := (97, I, J, R)) rfl ?_
                        refine az_E.ret (v := some (.int (0 : Int32))) (σ' := (97, I, J, R)) rfl ?_
                        show az_E az_F ex 2 128 95 [.retAddr 0, .retAddr 0, .int v2, .retAddr 0, .int v4, .int v5, .ref 61, .ref 61] [.int (0 : Int32)] (97, I, J, R) _
                        refine az_E.br (c := (0 : Int32) = 0) (tt := 98) (ff := 101) (L' := [.retAddr 0, .retAddr 0, .int v2, .retAddr 0, .int v4, .int v5, .ref 61, .ref 61]) (S' := []) (σ' := (97, I, J, R)) rfl (fun _ => ?_) (fun hn => absurd (by decide) hn)
                        refine az_E.sn 1 (pc' := 100) (L' := [.retAddr 0, .retAddr 0, .int v2, .retAddr 0, .int v4, .int v5, .ref 61, .ref 61]) (S' := [.int (-13 : Int32)]) (σ' := (97, I, J, R)) rfl ?_
                        have h := Option.some.inj h
                        subst h
                        exact az_E.ret (v := some (.int (-13 : Int32))) (σ' := (97, I, J, R)) rfl hQ
                      · rw [if_neg hc_44] at h
                        refine az_E.sn 1 (pc' := 5) (L' := [.ref 61, .int v4, .int v5]) (S' := [.int v5]) (σ' := (97, I, J, R)) rfl ?_
                        refine az_E.br (c := v5 < 0) (tt := 30) (ff := 8) (L' := [.ref 61, .int v4, .int v5]) (S' := []) (σ' := (97, I, J, R)) rfl (fun hc_45 => ?_) (fun hc_45 => ?_)
                        · rw [if_pos hc_45] at h
                          refine az_E.sn 1 (pc' := 31) (L' := [.ref 61, .int v4, .int v5]) (S' := [.int (0 : Int32)]) (σ' := (97, I, J, R)) rfl ?_
                          refine az_E.ret (v := some (.int (0 : Int32))) (σ' := (97, I, J, R)) rfl ?_
                          show az_E az_F ex 2 128 95 [.retAddr 0, .retAddr 0, .int v2, .retAddr 0, .int v4, .int v5, .ref 61, .ref 61] [.int (0 : Int32)] (97, I, J, R) _
                          refine az_E.br (c := (0 : Int32) = 0) (tt := 98) (ff := 101) (L' := [.retAddr 0, .retAddr 0, .int v2, .retAddr 0, .int v4, .int v5, .ref 61, .ref 61]) (S' := []) (σ' := (97, I, J, R)) rfl (fun _ => ?_) (fun hn => absurd (by decide) hn)
                          refine az_E.sn 1 (pc' := 100) (L' := [.retAddr 0, .retAddr 0, .int v2, .retAddr 0, .int v4, .int v5, .ref 61, .ref 61]) (S' := [.int (-13 : Int32)]) (σ' := (97, I, J, R)) rfl ?_
                          have h := Option.some.inj h
                          subst h
                          exact az_E.ret (v := some (.int (-13 : Int32))) (σ' := (97, I, J, R)) rfl hQ
                        · rw [if_neg hc_45] at h
                          refine az_E.sn 3 (pc' := 13) (L' := [.ref 61, .int v4, .int v5]) (S' := [.int (I 61 2), .int v4]) (σ' := (97, I, J, R)) rfl ?_
                          refine az_E.br (c := (I 61 2) < v4) (tt := 30) (ff := 16) (L' := [.ref 61, .int v4, .int v5]) (S' := []) (σ' := (97, I, J, R)) rfl (fun hc_46 => ?_) (fun hc_46 => ?_)
                          · rw [if_pos hc_46] at h
                            refine az_E.sn 1 (pc' := 31) (L' := [.ref 61, .int v4, .int v5]) (S' := [.int (0 : Int32)]) (σ' := (97, I, J, R)) rfl ?_
                            refine az_E.ret (v := some (.int (0 : Int32))) (σ' := (97, I, J, R)) rfl ?_
                            show az_E az_F ex 2 128 95 [.retAddr 0, .retAddr 0, .int v2, .retAddr 0, .int v4, .int v5, .ref 61, .ref 61] [.int (0 : Int32)] (97, I, J, R) _
                            refine az_E.br (c := (0 : Int32) = 0) (tt := 98) (ff := 101) (L' := [.retAddr 0, .retAddr 0, .int v2, .retAddr 0, .int v4, .int v5, .ref 61, .ref 61]) (S' := []) (σ' := (97, I, J, R)) rfl (fun _ => ?_) (fun hn => absurd (by decide) hn)
                            refine az_E.sn 1 (pc' := 100) (L' := [.retAddr 0, .retAddr 0, .int v2, .retAddr 0, .int v4, .int v5, .ref 61, .ref 61]) (S' := [.int (-13 : Int32)]) (σ' := (97, I, J, R)) rfl ?_
                            have h := Option.some.inj h
                            subst h
                            exact az_E.ret (v := some (.int (-13 : Int32))) (σ' := (97, I, J, R)) rfl hQ
                          · rw [if_neg hc_46] at h
                            refine az_E.sn 5 (pc' := 23) (L' := [.ref 61, .int v4, .int v5]) (S' := [.int ((I 61 2) - v4), .int v5]) (σ' := (97, I, J, R)) rfl ?_
                            refine az_E.br (c := ((I 61 2) - v4) < v5) (tt := 30) (ff := 26) (L' := [.ref 61, .int v4, .int v5]) (S' := []) (σ' := (97, I, J, R)) rfl (fun hc_47 => ?_) (fun hc_47 => ?_)
                            · rw [if_pos hc_47] at h
                              refine az_E.sn 1 (pc' := 31) (L' := [.ref 61, .int v4, .int v5]) (S' := [.int (0 : Int32)]) (σ' := (97, I, J, R)) rfl ?_
                              refine az_E.ret (v := some (.int (0 : Int32))) (σ' := (97, I, J, R)) rfl ?_
                              show az_E az_F ex 2 128 95 [.retAddr 0, .retAddr 0, .int v2, .retAddr 0, .int v4, .int v5, .ref 61, .ref 61] [.int (0 : Int32)] (97, I, J, R) _
                              refine az_E.br (c := (0 : Int32) = 0) (tt := 98) (ff := 101) (L' := [.retAddr 0, .retAddr 0, .int v2, .retAddr 0, .int v4, .int v5, .ref 61, .ref 61]) (S' := []) (σ' := (97, I, J, R)) rfl (fun _ => ?_) (fun hn => absurd (by decide) hn)
                              refine az_E.sn 1 (pc' := 100) (L' := [.retAddr 0, .retAddr 0, .int v2, .retAddr 0, .int v4, .int v5, .ref 61, .ref 61]) (S' := [.int (-13 : Int32)]) (σ' := (97, I, J, R)) rfl ?_
                              have h := Option.some.inj h
                              subst h
                              exact az_E.ret (v := some (.int (-13 : Int32))) (σ' := (97, I, J, R)) rfl hQ
                            · rw [if_neg hc_47] at h
                              refine az_E.sn 2 (pc' := 31) (L' := [.ref 61, .int v4, .int v5]) (S' := [.int (1 : Int32)]) (σ' := (97, I, J, R)) rfl ?_
                              refine az_E.ret (v := some (.int (1 : Int32))) (σ' := (97, I, J, R)) rfl ?_
                              show az_E az_F ex 2 128 95 [.retAddr 0, .retAddr 0, .int v2, .retAddr 0, .int v4, .int v5, .ref 61, .ref 61] [.int (1 : Int32)] (97, I, J, R) _
                              refine az_E.br (c := (1 : Int32) = 0) (tt := 98) (ff := 101) (L' := [.retAddr 0, .retAddr 0, .int v2, .retAddr 0, .int v4, .int v5, .ref 61, .ref 61]) (S' := []) (σ' := (97, I, J, R)) rfl (fun hn => absurd hn (by decide)) (fun _ => ?_)
                              refine az_E.sn 7 (pc' := 116) (L' := [.retAddr 0, .retAddr 0, .int v2, .retAddr 0, .int v4, .int v5, .ref 61, .ref 61]) (S' := [.int v5, .int v4, .ref (61 + 1), .int v2, .ref (61 + 1)]) (σ' := (97, I, J, R)) rfl ?_
                              by_cases hc_48 : v2 < 0 ∨ v4 < 0 ∨ v5 < 0 ∨ 60 < v2.toNatClampNeg + v5.toNatClampNeg ∨ 60 < v4.toNatClampNeg + v5.toNatClampNeg
                              · rw [if_pos hc_48] at h; cases h
                              · rw [if_neg hc_48] at h
                                refine az_E.o (o := az_cp az_F (97, I, J, R) (61 + 1) v2 (61 + 1) v4 v5) (pc' := 119) (L' := [.retAddr 0, .retAddr 0, .int v2, .retAddr 0, .int v4, .int v5, .ref 61, .ref 61]) (S' := []) (x := (97, I, (az_ur J (61 + 1) (va_cpy (J (61 + 1)) (J (61 + 1)) v2.toNatClampNeg v4.toNatClampNeg v5.toNatClampNeg)), R)) rfl (if_neg hc_48) ?_
                                refine az_E.sn 1 (pc' := 121) (L' := [.retAddr 0, .retAddr 0, .int v2, .retAddr 0, .int v4, .int v5, .ref 61, .ref 61]) (S' := [.int v5]) (σ' := (97, I, (az_ur J (61 + 1) (va_cpy (J (61 + 1)) (J (61 + 1)) v2.toNatClampNeg v4.toNatClampNeg v5.toNatClampNeg)), R)) rfl ?_
                                have h := Option.some.inj h
                                subst h
                                exact az_E.ret (v := some (.int v5)) (σ' := (97, I, (az_ur J (61 + 1) (va_cpy (J (61 + 1)) (J (61 + 1)) v2.toNatClampNeg v4.toNatClampNeg v5.toNatClampNeg)), R)) rfl hQ
            · rw [if_neg hc_39] at h
              refine az_E.sn 1 (pc' := 20) (L' := [.ref 61, .int (I 61 1)]) (S' := [.int (0 : Int32)]) (σ' := (97, I, J, R)) rfl ?_
              refine az_E.ret (v := some (.int (0 : Int32))) (σ' := (97, I, J, R)) rfl ?_
              show az_E az_F ex 2 128 69 [.retAddr 0, .retAddr 0, .int v2, .retAddr 0, .int v4, .int v5, .ref 61, .ref 61] [.int (0 : Int32)] (97, I, J, R) _
              refine az_E.br (c := (0 : Int32) = 0) (tt := 72) (ff := 75) (L' := [.retAddr 0, .retAddr 0, .int v2, .retAddr 0, .int v4, .int v5, .ref 61, .ref 61]) (S' := []) (σ' := (97, I, J, R)) rfl (fun _ => ?_) (fun hn => absurd (by decide) hn)
              refine az_E.sn 1 (pc' := 74) (L' := [.retAddr 0, .retAddr 0, .int v2, .retAddr 0, .int v4, .int v5, .ref 61, .ref 61]) (S' := [.int (-12 : Int32)]) (σ' := (97, I, J, R)) rfl ?_
              have h := Option.some.inj h
              subst h
              exact az_E.ret (v := some (.int (-12 : Int32))) (σ' := (97, I, J, R)) rfl hQ
    · rw [if_neg hc_35] at h
      refine az_E.sn 1 (pc' := 21) (L' := [.ref 61]) (S' := [.int (0 : Int32)]) (σ' := (97, I, J, R)) rfl ?_
      refine az_E.ret (v := some (.int (0 : Int32))) (σ' := (97, I, J, R)) rfl ?_
      show az_E az_F ex 2 128 45 [.retAddr 0, .retAddr 0, .int v2, .retAddr 0, .int v4, .int v5, .ref 61, .ref 61] [.int (0 : Int32)] (97, I, J, R) _
      refine az_E.br (c := (0 : Int32) = 0) (tt := 51) (ff := 48) (L' := [.retAddr 0, .retAddr 0, .int v2, .retAddr 0, .int v4, .int v5, .ref 61, .ref 61]) (S' := []) (σ' := (97, I, J, R)) rfl (fun _ => ?_) (fun hn => absurd (by decide) hn)
      refine az_E.sn 1 (pc' := 53) (L' := [.retAddr 0, .retAddr 0, .int v2, .retAddr 0, .int v4, .int v5, .ref 61, .ref 61]) (S' := [.ref 61]) (σ' := (97, I, J, R)) rfl ?_
      refine az_E.call (d := 1) (k' := 55) (vs := [.ref 61]) (pc' := 56) (S' := []) rfl ?_ (fun _ _ hq => hq)
      show az_E az_F ex 1 55 0 [.ref 61] [] (97, I, J, R) _
      refine az_E.sn 3 (pc' := 5) (L' := [.ref 61]) (S' := [.int (-1 : Int32), .int (I 61 1)]) (σ' := (97, I, J, R)) rfl ?_
      refine az_E.br (c := (I 61 1) = (-1 : Int32)) (tt := 12) (ff := 8) (L' := [.ref 61]) (S' := []) (σ' := (97, I, J, R)) rfl (fun hc_49 => ?_) (fun hc_49 => ?_)
      · rw [if_pos hc_49] at h
        refine az_E.sn 1 (pc' := 13) (L' := [.ref 61]) (S' := [.int (0 : Int32)]) (σ' := (97, I, J, R)) rfl ?_
        refine az_E.ret (v := some (.int (0 : Int32))) (σ' := (97, I, J, R)) rfl ?_
        show az_E az_F ex 2 128 56 [.retAddr 0, .retAddr 0, .int v2, .retAddr 0, .int v4, .int v5, .ref 61, .ref 61] [.int (0 : Int32)] (97, I, J, R) _
        refine az_E.br (c := (0 : Int32) = 0) (tt := 72) (ff := 59) (L' := [.retAddr 0, .retAddr 0, .int v2, .retAddr 0, .int v4, .int v5, .ref 61, .ref 61]) (S' := []) (σ' := (97, I, J, R)) rfl (fun _ => ?_) (fun hn => absurd (by decide) hn)
        refine az_E.sn 1 (pc' := 74) (L' := [.retAddr 0, .retAddr 0, .int v2, .retAddr 0, .int v4, .int v5, .ref 61, .ref 61]) (S' := [.int (-12 : Int32)]) (σ' := (97, I, J, R)) rfl ?_
        have h := Option.some.inj h
        subst h
        exact az_E.ret (v := some (.int (-12 : Int32))) (σ' := (97, I, J, R)) rfl hQ
      · rw [if_neg hc_49] at h
        refine az_E.sn 2 (pc' := 13) (L' := [.ref 61]) (S' := [.int (1 : Int32)]) (σ' := (97, I, J, R)) rfl ?_
        refine az_E.ret (v := some (.int (1 : Int32))) (σ' := (97, I, J, R)) rfl ?_
        show az_E az_F ex 2 128 56 [.retAddr 0, .retAddr 0, .int v2, .retAddr 0, .int v4, .int v5, .ref 61, .ref 61] [.int (1 : Int32)] (97, I, J, R) _
        refine az_E.br (c := (1 : Int32) = 0) (tt := 72) (ff := 59) (L' := [.retAddr 0, .retAddr 0, .int v2, .retAddr 0, .int v4, .int v5, .ref 61, .ref 61]) (S' := []) (σ' := (97, I, J, R)) rfl (fun hn => absurd hn (by decide)) (fun _ => ?_)
        refine az_E.sn 3 (pc' := 66) (L' := [.retAddr 0, .retAddr 0, .int v2, .retAddr 0, .int v4, .int v5, .ref 61, .ref 61]) (S' := [.int (I 61 1), .ref 61]) (σ' := (97, I, J, R)) rfl ?_
        refine az_E.call (d := 1) (k' := 56) (vs := [.ref 61, .int (I 61 1)]) (pc' := 69) (S' := []) rfl ?_ (fun _ _ hq => hq)
        show az_E az_F ex 1 56 0 [.ref 61, .int (I 61 1)] [] (97, I, J, R) _
        refine az_E.sn 1 (pc' := 1) (L' := [.ref 61, .int (I 61 1)]) (S' := [.ref 61]) (σ' := (97, I, J, R)) rfl ?_
        refine az_E.call (d := 0) (k' := 55) (vs := [.ref 61]) (pc' := 4) (S' := []) rfl ?_ (fun _ _ hq => hq)
        show az_E az_F ex 0 55 0 [.ref 61] [] (97, I, J, R) _
        refine az_E.sn 3 (pc' := 5) (L' := [.ref 61]) (S' := [.int (-1 : Int32), .int (I 61 1)]) (σ' := (97, I, J, R)) rfl ?_
        refine az_E.br (c := (I 61 1) = (-1 : Int32)) (tt := 12) (ff := 8) (L' := [.ref 61]) (S' := []) (σ' := (97, I, J, R)) rfl (fun hc_50 => ?_) (fun hc_50 => ?_)
        · rw [if_pos hc_50] at h
          refine az_E.sn 1 (pc' := 13) (L' := [.ref 61]) (S' := [.int (0 : Int32)]) (σ' := (97, I, J, R)) rfl ?_
          refine az_E.ret (v := some (.int (0 : Int32))) (σ' := (97, I, J, R)) rfl ?_
          show az_E az_F ex 1 56 4 [.ref 61, .int (I 61 1)] [.int (0 : Int32)] (97, I, J, R) _
          refine az_E.br (c := (0 : Int32) = 0) (tt := 19) (ff := 7) (L' := [.ref 61, .int (I 61 1)]) (S' := []) (σ' := (97, I, J, R)) rfl (fun _ => ?_) (fun hn => absurd (by decide) hn)
          refine az_E.sn 1 (pc' := 20) (L' := [.ref 61, .int (I 61 1)]) (S' := [.int (0 : Int32)]) (σ' := (97, I, J, R)) rfl ?_
          refine az_E.ret (v := some (.int (0 : Int32))) (σ' := (97, I, J, R)) rfl ?_
          show az_E az_F ex 2 128 69 [.retAddr 0, .retAddr 0, .int v2, .retAddr 0, .int v4, .int v5, .ref 61, .ref 61] [.int (0 : Int32)] (97, I, J, R) _
          refine az_E.br (c := (0 : Int32) = 0) (tt := 72) (ff := 75) (L' := [.retAddr 0, .retAddr 0, .int v2, .retAddr 0, .int v4, .int v5, .ref 61, .ref 61]) (S' := []) (σ' := (97, I, J, R)) rfl (fun _ => ?_) (fun hn => absurd (by decide) hn)
          refine az_E.sn 1 (pc' := 74) (L' := [.retAddr 0, .retAddr 0, .int v2, .retAddr 0, .int v4, .int v5, .ref 61, .ref 61]) (S' := [.int (-12 : Int32)]) (σ' := (97, I, J, R)) rfl ?_
          have h := Option.some.inj h
          subst h
          exact az_E.ret (v := some (.int (-12 : Int32))) (σ' := (97, I, J, R)) rfl hQ
        · rw [if_neg hc_50] at h
          refine az_E.sn 2 (pc' := 13) (L' := [.ref 61]) (S' := [.int (1 : Int32)]) (σ' := (97, I, J, R)) rfl ?_
          refine az_E.ret (v := some (.int (1 : Int32))) (σ' := (97, I, J, R)) rfl ?_
          show az_E az_F ex 1 56 4 [.ref 61, .int (I 61 1)] [.int (1 : Int32)] (97, I, J, R) _
          refine az_E.br (c := (1 : Int32) = 0) (tt := 19) (ff := 7) (L' := [.ref 61, .int (I 61 1)]) (S' := []) (σ' := (97, I, J, R)) rfl (fun hn => absurd hn (by decide)) (fun _ => ?_)
          refine az_E.sn 3 (pc' := 12) (L' := [.ref 61, .int (I 61 1)]) (S' := [.int (I 61 1), .int (I 61 1)]) (σ' := (97, I, J, R)) rfl ?_
          refine az_E.br (c := (I 61 1) = (I 61 1)) (tt := 15) (ff := 19) (L' := [.ref 61, .int (I 61 1)]) (S' := []) (σ' := (97, I, J, R)) rfl (fun hc_51 => ?_) (fun hc_51 => ?_)
          · rw [if_pos hc_51] at h
            refine az_E.sn 2 (pc' := 20) (L' := [.ref 61, .int (I 61 1)]) (S' := [.int (1 : Int32)]) (σ' := (97, I, J, R)) rfl ?_
            refine az_E.ret (v := some (.int (1 : Int32))) (σ' := (97, I, J, R)) rfl ?_
            show az_E az_F ex 2 128 69 [.retAddr 0, .retAddr 0, .int v2, .retAddr 0, .int v4, .int v5, .ref 61, .ref 61] [.int (1 : Int32)] (97, I, J, R) _
            refine az_E.br (c := (1 : Int32) = 0) (tt := 72) (ff := 75) (L' := [.retAddr 0, .retAddr 0, .int v2, .retAddr 0, .int v4, .int v5, .ref 61, .ref 61]) (S' := []) (σ' := (97, I, J, R)) rfl (fun hn => absurd hn (by decide)) (fun _ => ?_)
            refine az_E.sn 3 (pc' := 80) (L' := [.retAddr 0, .retAddr 0, .int v2, .retAddr 0, .int v4, .int v5, .ref 61, .ref 61]) (S' := [.int v5, .int v2, .ref 61]) (σ' := (97, I, J, R)) rfl ?_
            refine az_E.call (d := 1) (k' := 60) (vs := [.ref 61, .int v2, .int v5]) (pc' := 83) (S' := []) rfl ?_ (fun _ _ hq => hq)
            show az_E az_F ex 1 60 0 [.ref 61, .int v2, .int v5] [] (97, I, J, R) _
            refine az_E.sn 1 (pc' := 1) (L' := [.ref 61, .int v2, .int v5]) (S' := [.int v2]) (σ' := (97, I, J, R)) rfl ?_
            refine az_E.br (c := v2 < 0) (tt := 30) (ff := 4) (L' := [.ref 61, .int v2, .int v5]) (S' := []) (σ' := (97, I, J, R)) rfl (fun hc_52 => ?_) (fun hc_52 => ?_)
            · rw [if_pos hc_52] at h
              refine az_E.sn 1 (pc' := 31) (L' := [.ref 61, .int v2, .int v5]) (S' := [.int (0 : Int32)]) (σ' := (97, I, J, R)) rfl ?_
              refine az_E.ret (v := some (.int (0 : Int32))) (σ' := (97, I, J, R)) rfl ?_
              show az_E az_F ex 2 128 83 [.retAddr 0, .retAddr 0, .int v2, .retAddr 0, .int v4, .int v5, .ref 61, .ref 61] [.int (0 : Int32)] (97, I, J, R) _
              refine az_E.br (c := (0 : Int32) = 0) (tt := 98) (ff := 86) (L' := [.retAddr 0, .retAddr 0, .int v2, .retAddr 0, .int v4, .int v5, .ref 61, .ref 61]) (S' := []) (σ' := (97, I, J, R)) rfl (fun _ => ?_) (fun hn => absurd (by decide) hn)
              refine az_E.sn 1 (pc' := 100) (L' := [.retAddr 0, .retAddr 0, .int v2, .retAddr 0, .int v4, .int v5, .ref 61, .ref 61]) (S' := [.int (-13 : Int32)]) (σ' := (97, I, J, R)) rfl ?_
              have h := Option.some.inj h
              subst h
              exact az_E.ret (v := some (.int (-13 : Int32))) (σ' := (97, I, J, R)) rfl hQ
            · rw [if_neg hc_52] at h
              refine az_E.sn 1 (pc' := 5) (L' := [.ref 61, .int v2, .int v5]) (S' := [.int v5]) (σ' := (97, I, J, R)) rfl ?_
              refine az_E.br (c := v5 < 0) (tt := 30) (ff := 8) (L' := [.ref 61, .int v2, .int v5]) (S' := []) (σ' := (97, I, J, R)) rfl (fun hc_53 => ?_) (fun hc_53 => ?_)
              · rw [if_pos hc_53] at h
                refine az_E.sn 1 (pc' := 31) (L' := [.ref 61, .int v2, .int v5]) (S' := [.int (0 : Int32)]) (σ' := (97, I, J, R)) rfl ?_
                refine az_E.ret (v := some (.int (0 : Int32))) (σ' := (97, I, J, R)) rfl ?_
                show az_E az_F ex 2 128 83 [.retAddr 0, .retAddr 0, .int v2, .retAddr 0, .int v4, .int v5, .ref 61, .ref 61] [.int (0 : Int32)] (97, I, J, R) _
                refine az_E.br (c := (0 : Int32) = 0) (tt := 98) (ff := 86) (L' := [.retAddr 0, .retAddr 0, .int v2, .retAddr 0, .int v4, .int v5, .ref 61, .ref 61]) (S' := []) (σ' := (97, I, J, R)) rfl (fun _ => ?_) (fun hn => absurd (by decide) hn)
                refine az_E.sn 1 (pc' := 100) (L' := [.retAddr 0, .retAddr 0, .int v2, .retAddr 0, .int v4, .int v5, .ref 61, .ref 61]) (S' := [.int (-13 : Int32)]) (σ' := (97, I, J, R)) rfl ?_
                have h := Option.some.inj h
                subst h
                exact az_E.ret (v := some (.int (-13 : Int32))) (σ' := (97, I, J, R)) rfl hQ
              · rw [if_neg hc_53] at h
                refine az_E.sn 3 (pc' := 13) (L' := [.ref 61, .int v2, .int v5]) (S' := [.int (I 61 2), .int v2]) (σ' := (97, I, J, R)) rfl ?_
                refine az_E.br (c := (I 61 2) < v2) (tt := 30) (ff := 16) (L' := [.ref 61, .int v2, .int v5]) (S' := []) (σ' := (97, I, J, R)) rfl (fun hc_54 => ?_) (fun hc_54 => ?_)
                · rw [if_pos hc_54] at h
                  refine az_E.sn 1 (pc' := 31) (L' := [.ref 61, .int v2, .int v5]) (S' := [.int (0 : Int32)]) (σ' := (97, I, J, R)) rfl ?_
                  refine az_E.ret (v := some (.int (0 : Int32))) (σ' := (97, I, J, R)) rfl ?_
                  show az_E az_F ex 2 128 83 [.retAddr 0, .retAddr 0, .int v2, .retAddr 0, .int v4, .int v5, .ref 61, .ref 61] [.int (0 : Int32)] (97, I, J, R) _
                  refine az_E.br (c := (0 : Int32) = 0) (tt := 98) (ff := 86) (L' := [.retAddr 0, .retAddr 0, .int v2, .retAddr 0, .int v4, .int v5, .ref 61, .ref 61]) (S' := []) (σ' := (97, I, J, R)) rfl (fun _ => ?_) (fun hn => absurd (by decide) hn)
                  refine az_E.sn 1 (pc' := 100) (L' := [.retAddr 0, .retAddr 0, .int v2, .retAddr 0, .int v4, .int v5, .ref 61, .ref 61]) (S' := [.int (-13 : Int32)]) (σ' := (97, I, J, R)) rfl ?_
                  have h := Option.some.inj h
                  subst h
                  exact az_E.ret (v := some (.int (-13 : Int32))) (σ' := (97, I, J, R)) rfl hQ
                · rw [if_neg hc_54] at h
                  refine az_E.sn 5 (pc' := 23) (L' := [.ref 61, .int v2, .int v5]) (S' := [.int ((I 61 2) - v2), .int v5]) (σ' := (97, I, J, R)) rfl ?_
                  refine az_E.br (c := ((I 61 2) - v2) < v5) (tt := 30) (ff := 26) (L' := [.ref 61, .int v2, .int v5]) (S' := []) (σ' := (97, I, J, R)) rfl (fun hc_55 => ?_) (fun hc_55 => ?_)
                  · rw [if_pos hc_55] at h
                    refine az_E.sn 1 (pc' := 31) (L' := [.ref 61, .int v2, .int v5]) (S' := [.int (0 : Int32)]) (σ' := (97, I, J, R)) rfl ?_
                    refine az_E.ret (v := some (.int (0 : Int32))) (σ' := (97, I, J, R)) rfl ?_
                    show az_E az_F ex 2 128 83 [.retAddr 0, .retAddr 0, .int v2, .retAddr 0, .int v4, .int v5, .ref 61, .ref 61] [.int (0 : Int32)] (97, I, J, R) _
                    refine az_E.br (c := (0 : Int32) = 0) (tt := 98) (ff := 86) (L' := [.retAddr 0, .retAddr 0, .int v2, .retAddr 0, .int v4, .int v5, .ref 61, .ref 61]) (S' := []) (σ' := (97, I, J, R)) rfl (fun _ => ?_) (fun hn => absurd (by decide) hn)
                    refine az_E.sn 1 (pc' := 100) (L' := [.retAddr 0, .retAddr 0, .int v2, .retAddr 0, .int v4, .int v5, .ref 61, .ref 61]) (S' := [.int (-13 : Int32)]) (σ' := (97, I, J, R)) rfl ?_
                    have h := Option.some.inj h
                    subst h
                    exact az_E.ret (v := some (.int (-13 : Int32))) (σ' := (97, I, J, R)) rfl hQ
                  · rw [if_neg hc_55] at h
                    refine az_E.sn 2 (pc' := 31) (L' := [.ref 61, .int v2, .int v5]) (S' := [.int (1 : Int32)]) (σ' := (97, I, J, R)) rfl ?_
                    refine az_E.ret (v := some (.int (1 : Int32))) (σ' := (97, I, J, R)) rfl ?_
                    show az_E az_F ex 2 128 83 [.retAddr 0, .retAddr 0, .int v2, .retAddr 0, .int v4, .int v5, .ref 61, .ref 61] [.int (1 : Int32)] (97, I, J, R) _
                    refine az_E.br (c := (1 : Int32) = 0) (tt := 98) (ff := 86) (L' := [.retAddr 0, .retAddr 0, .int v2, .retAddr 0, .int v4, .int v5, .ref 61, .ref 61]) (S' := []) (σ' := (97, I, J, R)) rfl (fun hn => absurd hn (by decide)) (fun _ => ?_)
                    refine az_E.sn 3 (pc' := 92) (L' := [.retAddr 0, .retAddr 0, .int v2, .retAddr 0, .int v4, .int v5, .ref 61, .ref 61]) (S' := [.int v5, .int v4, .ref 61]) (σ' := (97, I, J, R)) rfl ?_
                    refine az_E.call (d := 1) (k' := 60) (vs := [.ref 61, .int v4, .int v5]) (pc' := 95) (S' := []) rfl ?_ (fun _ _ hq => hq)
                    show az_E az_F ex 1 60 0 [.ref 61, .int v4, .int v5] [] (97, I, J, R) _
                    refine az_E.sn 1 (pc' := 1) (L' := [.ref 61, .int v4, .int v5]) (S' := [.int v4]) (σ' := (97, I, J, R)) rfl ?_
                    refine az_E.br (c := v4 < 0) (tt := 30) (ff := 4) (L' := [.ref 61, .int v4, .int v5]) (S' := []) (σ' := (97, I, J, R)) rfl (fun hc_56 => ?_) (fun hc_56 => ?_)
                    · rw [if_pos hc_56] at h
                      refine az_E.sn 1 (pc' := 31) (L' := [.ref 61, .int v4, .int v5]) (S' := [.int (0 : Int32)]) (σ' := (97, I, J, R)) rfl ?_
                      refine az_E.ret (v := some (.int (0 : Int32))) (σ' := (97, I, J, R)) rfl ?_
                      show az_E az_F ex 2 128 95 [.retAddr 0, .retAddr 0, .int v2, .retAddr 0, .int v4, .int v5, .ref 61, .ref 61] [.int (0 : Int32)] (97, I, J, R) _
                      refine az_E.br (c := (0 : Int32) = 0) (tt := 98) (ff := 101) (L' := [.retAddr 0, .retAddr 0, .int v2, .retAddr 0, .int v4, .int v5, .ref 61, .ref 61]) (S' := []) (σ' := (97, I, J, R)) rfl (fun _ => ?_) (fun hn => absurd (by decide) hn)
                      refine az_E.sn 1 (pc' := 100) (L' := [.retAddr 0, .retAddr 0, .int v2, .retAddr 0, .int v4, .int v5, .ref 61, .ref 61]) (S' := [.int (-13 : Int32)]) (σ' := (97, I, J, R)) rfl ?_
                      have h := Option.some.inj h
                      subst h
                      exact az_E.ret (v := some (.int (-13 : Int32))) (σ' := (97, I, J, R)) rfl hQ
                    · rw [if_neg hc_56] at h
                      refine az_E.sn 1 (pc' := 5) (L' := [.ref 61, .int v4, .int v5]) (S' := [.int v5]) (σ' := (97, I, J, R)) rfl ?_
                      refine az_E.br (c := v5 < 0) (tt := 30) (ff := 8) (L' := [.ref 61, .int v4, .int v5]) (S' := []) (σ' := (97, I, J, R)) rfl (fun hc_57 => ?_) (fun hc_57 => ?_)
                      · rw [if_pos hc_57] at h
                        refine az_E.sn 1 (pc' := 31) (L' := [.ref 61, .int v4, .int v5]) (S' := [.int (0 : Int32)]) (σ' := (97, I, J, R)) rfl ?_
                        refine az_E.ret (v := some (.int (0 : Int32))) (σ' := (97, I, J, R)) rfl ?_
                        show az_E az_F ex 2 128 95 [.retAddr 0, .retAddr 0, .int v2, .retAddr 0, .int v4, .int v5, .ref 61, .ref 61] [.int (0 : Int32)] (97, I, J, R) _
                        refine az_E.br (c := (0 : Int32) = 0) (tt := 98) (ff := 101) (L' := [.retAddr 0, .retAddr 0, .int v2, .retAddr 0, .int v4, .int v5, .ref 61, .ref 61]) (S' := []) (σ' := (97, I, J, R)) rfl (fun _ => ?_) (fun hn => absurd (by decide) hn)
                        refine az_E.sn 1 (pc' := 100) (L' := [.retAddr 0, .retAddr 0, .int v2, .retAddr 0, .int v4, .int v5, .ref 61, .ref 61]) (S' := [.int (-13 : Int32)]) (σ' := (97, I, J, R)) rfl ?_
                        have h := Option.some.inj h
                        subst h
                        exact az_E.ret (v := some (.int (-13 : Int32))) (σ' := (97, I, J, R)) rfl hQ
                      · rw [if_neg hc_57] at h
                        refine az_E.sn 3 (pc' := 13) (L' := [.ref 61, .int v4, .int v5]) (S' := [.int (I 61 2), .int v4]) (σ' := (97, I, J, R)) rfl ?_
                        refine az_E.br (c := (I 61 2) < v4) (tt := 30) (ff := 16) (L' := [.ref 61, .int v4, .int v5]) (S' := []) (σ' := (97, I, J, R)) rfl (fun hc_58 => ?_) (fun hc_58 => ?_)
                        · rw [if_pos hc_58] at h
                          refine az_E.sn 1 (pc' := 31) (L' := [.ref 61, .int v4, .int v5]) (S' := [.int (0 : Int32)]) (σ' := (97, I, J, R)) rfl ?_
                          refine az_E.ret (v := some (.int (0 : Int32))) (σ' := (97, I, J, R)) rfl ?_
                          show az_E az_F ex 2 128 95 [.retAddr 0, .retAddr 0, .int v2, .retAddr 0, .int v4, .int v5, .ref 61, .ref 61] [.int (0 : Int32)] (97, I, J, R) _
                          refine az_E.br (c := (0 : Int32) = 0) (tt := 98) (ff := 101) (L' := [.retAddr 0, .retAddr 0, .int v2, .retAddr 0, .int v4, .int v5, .ref 61, .ref 61]) (S' := []) (σ' := (97, I, J, R)) rfl (fun _ => ?_) (fun hn => absurd (by decide) hn)
                          refine az_E.sn 1 (pc' := 100) (L' := [.retAddr 0, .retAddr 0, .int v2, .retAddr 0, .int v4, .int v5, .ref 61, .ref 61]) (S' := [.int (-13 : Int32)]) (σ' := (97, I, J, R)) rfl ?_
                          have h := Option.some.inj h
                          subst h
                          exact az_E.ret (v := some (.int (-13 : Int32))) (σ' := (97, I, J, R)) rfl hQ
                        · rw [if_neg hc_58] at h
                          refine az_E.sn 5 (pc' := 23) (L' := [.ref 61, .int v4, .int v5]) (S' := [.int ((I 61 2) - v4), .int v5]) (σ' := (97, I, J, R)) rfl ?_
                          refine az_E.br (c := ((I 61 2) - v4) < v5) (tt := 30) (ff := 26) (L' := [.ref 61, .int v4, .int v5]) (S' := []) (σ' := (97, I, J, R)) rfl (fun hc_59 => ?_) (fun hc_59 => ?_)
                          · rw [if_pos hc_59] at h
                            refine az_E.sn 1 (pc' := 31) (L' := [.ref 61, .int v4, .int v5]) (S' := [.int (0 : Int32)]) (σ' := (97, I, J, R)) rfl ?_
                            refine az_E.ret (v := some (.int (0 : Int32))) (σ' := (97, I, J, R)) rfl ?_
                            show az_E az_F ex 2 128 95 [.retAddr 0, .retAddr 0, .int v2, .retAddr 0, .int v4, .int v5, .ref 61, .ref 61] [.int (0 : Int32)] (97, I, J, R) _
                            refine az_E.br (c := (0 : Int32) = 0) (tt := 98) (ff := 101) (L' := [.retAddr 0, .retAddr 0, .int v2, .retAddr 0, .int v4, .int v5, .ref 61, .ref 61]) (S' := []) (σ' := (97, I, J, R)) rfl (fun _ => ?_) (fun hn => absurd (by decide) hn)
                            refine az_E.sn 1 (pc' := 100) (L' := [.retAddr 0, .retAddr 0, .int v2, .retAddr 0, .int v4, .int v5, .ref 61, .ref 61]) (S' := [.int (-13 : Int32)]) (σ' := (97, I, J, R)) rfl ?_
                            have h := Option.some.inj h
                            subst h
                            exact az_E.ret (v := some (.int (-13 : Int32))) (σ' := (97, I, J, R)) rfl hQ
                          · rw [if_neg hc_59] at h
                            refine az_E.sn 2 (pc' := 31) (L' := [.ref 61, .int v4, .int v5]) (S' := [.int (1 : Int32)]) (σ' := (97, I, J, R)) rfl ?_
                            refine az_E.ret (v := some (.int (1 : Int32))) (σ' := (97, I, J, R)) rfl ?_
                            show az_E az_F ex 2 128 95 [.retAddr 0, .retAddr 0, .int v2, .retAddr 0, .int v4, .int v5, .ref 61, .ref 61] [.int (1 : Int32)] (97, I, J, R) _
                            refine az_E.br (c := (1 : Int32) = 0) (tt := 98) (ff := 101) (L' := [.retAddr 0, .retAddr 0, .int v2, .retAddr 0, .int v4, .int v5, .ref 61, .ref 61]) (S' := []) (σ' := (97, I, J, R)) rfl (fun hn => absurd hn (by decide)) (fun _ => ?_)
                            refine az_E.sn 7 (pc' := 116) (L' := [.retAddr 0, .retAddr 0, .int v2, .retAddr 0, .int v4, .int v5, .ref 61, .ref 61]) (S' := [.int v5, .int v4, .ref (61 + 1), .int v2, .ref (61 + 1)]) (σ' := (97, I, J, R)) rfl ?_
                            by_cases hc_60 : v2 < 0 ∨ v4 < 0 ∨ v5 < 0 ∨ 60 < v2.toNatClampNeg + v5.toNatClampNeg ∨ 60 < v4.toNatClampNeg + v5.toNatClampNeg
                            · rw [if_pos hc_60] at h; cases h
                            · rw [if_neg hc_60] at h
                              refine az_E.o (o := az_cp az_F (97, I, J, R) (61 + 1) v2 (61 + 1) v4 v5) (pc' := 119) (L' := [.retAddr 0, .retAddr 0, .int v2, .retAddr 0, .int v4, .int v5, .ref 61, .ref 61]) (S' := []) (x := (97, I, (az_ur J (61 + 1) (va_cpy (J (61 + 1)) (J (61 + 1)) v2.toNatClampNeg v4.toNatClampNeg v5.toNatClampNeg)), R)) rfl (if_neg hc_60) ?_
                              refine az_E.sn 1 (pc' := 121) (L' := [.retAddr 0, .retAddr 0, .int v2, .retAddr 0, .int v4, .int v5, .ref 61, .ref 61]) (S' := [.int v5]) (σ' := (97, I, (az_ur J (61 + 1) (va_cpy (J (61 + 1)) (J (61 + 1)) v2.toNatClampNeg v4.toNatClampNeg v5.toNatClampNeg)), R)) rfl ?_
                              have h := Option.some.inj h
                              subst h
                              exact az_E.ret (v := some (.int v5)) (σ' := (97, I, (az_ur J (61 + 1) (va_cpy (J (61 + 1)) (J (61 + 1)) v2.toNatClampNeg v4.toNatClampNeg v5.toNatClampNeg)), R)) rfl hQ
          · rw [if_neg hc_51] at h
            refine az_E.sn 1 (pc' := 20) (L' := [.ref 61, .int (I 61 1)]) (S' := [.int (0 : Int32)]) (σ' := (97, I, J, R)) rfl ?_
            refine az_E.ret (v := some (.int (0 : Int32))) (σ' := (97, I, J, R)) rfl ?_
            show az_E az_F ex 2 128 69 [.retAddr 0, .retAddr 0, .int v2, .retAddr 0, .int v4, .int v5, .ref 61, .ref 61] [.int (0 : Int32)] (97, I, J, R) _
            refine az_E.br (c := (0 : Int32) = 0) (tt := 72) (ff := 75) (L' := [.retAddr 0, .retAddr 0, .int v2, .retAddr 0, .int v4, .int v5, .ref 61, .ref 61]) (S' := []) (σ' := (97, I, J, R)) rfl (fun _ => ?_) (fun hn => absurd (by decide) hn)
            refine az_E.sn 1 (pc' := 74) (L' := [.retAddr 0, .retAddr 0, .int v2, .retAddr 0, .int v4, .int v5, .ref 61, .ref 61]) (S' := [.int (-12 : Int32)]) (σ' := (97, I, J, R)) rfl ?_
            have h := Option.some.inj h
            subst h
            exact az_E.ret (v := some (.int (-12 : Int32))) (σ' := (97, I, J, R)) rfl hQ

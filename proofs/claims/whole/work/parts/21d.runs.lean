set_option maxRecDepth 100000 in
set_option maxHeartbeats 4000000 in
theorem re_X_fillArmsByHeart_21_b_16_5 {ex : az_X} {I : Nat → Nat → Int32} {J : Nat → Nat → Int64} {R : Nat → Nat → Option Nat} {v1 : Int32} {v2 : Int32} (hR_26_2 : R 26 2 = some 16) (hR_26_3 : R 26 3 = some 5) {x : ((Int32 × (Nat → Nat → Int32)) ⊕ (((Int32 × (Nat → Nat → Int32)) ⊕ ((Nat → Nat → Int32)))))} (h : rs_X_fillArmsByHeart_21_b 16 v1 v2 I = some x) {Q : Option Value → az_S → Prop} (hQ : Sum.elim (fun s => az_E az_F ex 5 148 21 [.ref 3, .int v1, .int s.1] [] (97, s.2, J, R) Q) (fun x => Sum.elim (fun s => az_E az_F ex 5 148 2 [.ref 3, .int s.1, .retAddr 0] [] (97, s.2, J, R) Q) (fun x => Q none (97, x, J, R)) x) x) : az_E az_F ex 5 148 21 [.ref 3, .int v1, .int v2] [] (97, I, J, R) Q := by
  unfold rs_X_fillArmsByHeart_21_b at h
  refine az_E.sn 4 (pc' := 29) (L' := [.ref 3, .int v1, .int v2]) (S' := [.int (I 4 3), .int v2]) (σ' := (97, I, J, R)) rfl ?_
  refine az_E.br (c := (I 4 3) ≤ v2) (tt := 54) (ff := 32) (L' := [.ref 3, .int v1, .int v2]) (S' := []) (σ' := (97, I, J, R)) rfl (fun hc_4 => ?_) (fun hc_4 => ?_)
  · rw [if_pos hc_4] at h
    refine az_E.sn 2 (pc' := 2) (L' := [.ref 3, .int (v1 + (1 : Int32)), .int v2]) (S' := []) (σ' := (97, I, J, R)) rfl ?_
    have h := Option.some.inj h
    subst h
    exact az_E.forget (L := [.ref 3, .int (v1 + (1 : Int32)), .retAddr 0]) ⟨rfl, rfl, trivial, trivial⟩ hQ
  · rw [if_neg hc_4] at h
    refine az_E.sn 9 (pc' := 44) (L' := [.ref 3, .int v1, .int v2]) (S' := [.int v2, .ref 3, .int ((v2 * (19 : Int32)) + v1), .ref 60]) (σ' := (97, I, J, R)) rfl ?_
    cases hx_7 : rs_X_armAt I v2 with
    | none => rw [hx_7] at h; cases h
    | some o =>
      rw [hx_7] at h
      obtain ⟨x_5, I_6⟩ := o
      dsimp only at h
      refine az_E.call (d := 4) (k' := 146) (vs := [.ref 3, .int v2]) (pc' := 47) (S' := [.int ((v2 * (19 : Int32)) + v1), .ref 60]) (Q1 := fun v s => v = some (.int x_5) ∧ s = (97, I_6, J, R)) rfl (az_E.deep (by omega) (re_X_armAt_5 (J := J) (R := R) hR_26_3 hx_7 ⟨rfl, rfl⟩)) (fun v s hq => ?_)
      obtain ⟨rfl, rfl⟩ := hq
      show az_E az_F ex 5 148 47 [.ref 3, .int v1, .int v2] [.int x_5, .int ((v2 * (19 : Int32)) + v1), .ref 60] (97, I_6, J, R) _
      by_cases hc_8 : ((v2 * (19 : Int32)) + v1) < 0 ∨ 152 ≤ ((v2 * (19 : Int32)) + v1).toNatClampNeg
      · rw [if_pos hc_8] at h; cases h
      · rw [if_neg hc_8] at h
        refine az_E.o (o := az_si az_F (97, I_6, J, R) 60 ((v2 * (19 : Int32)) + v1) x_5) (pc' := 48) (L' := [.ref 3, .int v1, .int v2]) (S' := []) (x := (97, (az_u I_6 60 ((v2 * (19 : Int32)) + v1).toNatClampNeg x_5), J, R)) rfl (if_neg hc_8) ?_
        refine az_E.sn 2 (pc' := 21) (L' := [.ref 3, .int v1, .int (v2 + (1 : Int32))]) (S' := []) (σ' := (97, (az_u I_6 60 ((v2 * (19 : Int32)) + v1).toNatClampNeg x_5), J, R)) rfl ?_
        have h := Option.some.inj h
        subst h
        exact az_E.forget (L := [.ref 3, .int v1, .int (v2 + (1 : Int32))]) ⟨rfl, rfl, rfl, trivial⟩ hQ
set_option maxRecDepth 100000 in
set_option maxHeartbeats 4000000 in
theorem re_X_fillArmsByHeart_21_16_5 {ex : az_X} {I : Nat → Nat → Int32} {J : Nat → Nat → Int64} {R : Nat → Nat → Option Nat} {v1 : Int32} {v2 : Int32} (hR_26_2 : R 26 2 = some 16) (hR_26_3 : R 26 3 = some 5) {x : ((Int32 × (Nat → Nat → Int32)) ⊕ ((Nat → Nat → Int32)))} (h : rs_X_fillArmsByHeart_21 16 I v1 v2 = some x) {Q : Option Value → az_S → Prop} (hQ : Sum.elim (fun s => az_E az_F ex 5 148 2 [.ref 3, .int s.1, .retAddr 0] [] (97, s.2, J, R) Q) (fun x => Q none (97, x, J, R)) x) : az_E az_F ex 5 148 21 [.ref 3, .int v1, .int v2] [] (97, I, J, R) Q := by
  unfold rs_X_fillArmsByHeart_21 at h
  refine az_lp_E (G := fun s => az_E az_F ex 5 148 21 [.ref 3, .int v1, .int s.1] [] (97, s.2, J, R) Q) (H := fun x => Sum.elim (fun s => az_E az_F ex 5 148 2 [.ref 3, .int s.1, .retAddr 0] [] (97, s.2, J, R) Q) (fun x => Q none (97, x, J, R)) x) (fun s o hb ho => ?_) _ _ _ h hQ
  exact re_X_fillArmsByHeart_21_b_16_5 hR_26_2 hR_26_3 hb ho
set_option maxRecDepth 100000 in
set_option maxHeartbeats 4000000 in
theorem re_X_fillArmsByHeart_2_b_16_5 {ex : az_X} {I : Nat → Nat → Int32} {J : Nat → Nat → Int64} {R : Nat → Nat → Option Nat} {v1 : Int32} (hR_26_2 : R 26 2 = some 16) (hR_26_3 : R 26 3 = some 5) {x : ((Int32 × (Nat → Nat → Int32)) ⊕ ((Nat → Nat → Int32)))} (h : rs_X_fillArmsByHeart_2_b 16 v1 I = some x) {Q : Option Value → az_S → Prop} (hQ : Sum.elim (fun s => az_E az_F ex 5 148 2 [.ref 3, .int s.1, .retAddr 0] [] (97, s.2, J, R) Q) (fun x => Q none (97, x, J, R)) x) : az_E az_F ex 5 148 2 [.ref 3, .int v1, .retAddr 0] [] (97, I, J, R) Q := by
  unfold rs_X_fillArmsByHeart_2_b at h
  refine az_E.sn 2 (pc' := 5) (L' := [.ref 3, .int v1, .retAddr 0]) (S' := [.int (19 : Int32), .int v1]) (σ' := (97, I, J, R)) rfl ?_
  refine az_E.br (c := (19 : Int32) ≤ v1) (tt := 60) (ff := 8) (L' := [.ref 3, .int v1, .retAddr 0]) (S' := []) (σ' := (97, I, J, R)) rfl (fun hc_1 => ?_) (fun hc_1 => ?_)
  · rw [if_pos hc_1] at h
    have h := Option.some.inj h
    subst h
    exact az_E.ret (v := none) (σ' := (97, I, J, R)) rfl hQ
  · rw [if_neg hc_1] at h
    refine az_E.sn 5 (pc' := 16) (L' := [.ref 3, .int v1, .retAddr 0]) (S' := [.int ((-9 : Int32) + v1), .ref 26]) (σ' := (97, I, J, R)) rfl ?_
    cases hx_3 : rs_Pa_withHeart 26 16 I ((-9 : Int32) + v1) with
    | none => rw [hx_3] at h; cases h
    | some I_2 =>
      rw [hx_3] at h
      dsimp only at h
      refine az_E.call (d := 4) (k' := 44) (vs := [.ref 26, .int ((-9 : Int32) + v1)]) (pc' := 19) (S' := []) (Q1 := fun v s => v = none ∧ s = (97, I_2, J, R)) rfl (az_E.deep (by omega) (re_Pa_withHeart_26_16 (J := J) (R := R) hR_26_2 hx_3 ⟨rfl, rfl⟩)) (fun v s hq => ?_)
      obtain ⟨rfl, rfl⟩ := hq
      show az_E az_F ex 5 148 19 [.ref 3, .int v1, .retAddr 0] [] (97, I_2, J, R) _
      refine az_E.sn 2 (pc' := 21) (L' := [.ref 3, .int v1, .int (0 : Int32)]) (S' := []) (σ' := (97, I_2, J, R)) rfl ?_
      exact az_E.forget (L := [.ref 3, .int v1, .int (0 : Int32)]) ⟨rfl, rfl, rfl, trivial⟩ (re_X_fillArmsByHeart_21_16_5 (I := I_2) (J := J) (R := R) hR_26_2 hR_26_3 h hQ)
set_option maxRecDepth 100000 in
set_option maxHeartbeats 4000000 in
theorem re_X_fillArmsByHeart_2_16_5 {ex : az_X} {I : Nat → Nat → Int32} {J : Nat → Nat → Int64} {R : Nat → Nat → Option Nat} {v1 : Int32} (hR_26_2 : R 26 2 = some 16) (hR_26_3 : R 26 3 = some 5) {x : (Nat → Nat → Int32)} (h : rs_X_fillArmsByHeart_2 16 I v1 = some x) {Q : Option Value → az_S → Prop} (hQ : Q none (97, x, J, R)) : az_E az_F ex 5 148 2 [.ref 3, .int v1, .retAddr 0] [] (97, I, J, R) Q := by
  unfold rs_X_fillArmsByHeart_2 at h
  refine az_lp_E (G := fun s => az_E az_F ex 5 148 2 [.ref 3, .int s.1, .retAddr 0] [] (97, s.2, J, R) Q) (H := fun x => Q none (97, x, J, R)) (fun s o hb ho => ?_) _ _ _ h hQ
  exact re_X_fillArmsByHeart_2_b_16_5 hR_26_2 hR_26_3 hb ho
set_option maxRecDepth 100000 in
set_option maxHeartbeats 4000000 in
theorem re_X_fillArmsByHeart_16_5 {ex : az_X} {I : Nat → Nat → Int32} {J : Nat → Nat → Int64} {R : Nat → Nat → Option Nat} (hR_26_2 : R 26 2 = some 16) (hR_26_3 : R 26 3 = some 5) {o : (Nat → Nat → Int32)} (h : rs_X_fillArmsByHeart 16 I = some o) {Q : Option Value → az_S → Prop} (hQ : Q none (97, o, J, R)) : az_E az_F ex 5 148 0 [.ref 3, .retAddr 0, .retAddr 0] [] (97, I, J, R) Q := by
  unfold rs_X_fillArmsByHeart at h
  refine az_E.sn 2 (pc' := 2) (L' := [.ref 3, .int (0 : Int32), .retAddr 0]) (S' := []) (σ' := (97, I, J, R)) rfl ?_
  exact az_E.forget (L := [.ref 3, .int (0 : Int32), .retAddr 0]) ⟨rfl, rfl, trivial, trivial⟩ (re_X_fillArmsByHeart_2_16_5 (I := I) (J := J) (R := R) hR_26_2 hR_26_3 h hQ)
set_option maxRecDepth 100000 in
set_option maxHeartbeats 4000000 in
theorem re_X_greatestCrowd_58 {ex : az_X} {I : Nat → Nat → Int32} {J : Nat → Nat → Int64} {R : Nat → Nat → Option Nat} {v1 : Int32} {v2 : Int32} {v3 : Int32} {v4 : Int32} {x : ((Int32 × Int32) ⊕ (Int32))} (h : rs_X_greatestCrowd_58 I v1 v2 v3 v4 = some x) {Q : Option Value → az_S → Prop} (hQ : Sum.elim (fun s => az_E az_F ex 1 149 4 [.ref 3, .int v1, .int s.1, .int s.2, .retAddr 0, .retAddr 0] [] (97, I, J, R) Q) (fun x => Q (some (.int x)) (97, I, J, R)) x) : az_E az_F ex 1 149 58 [.ref 3, .int v1, .int v2, .int v3, .int v4, .retAddr 0] [] (97, I, J, R) Q := by
  unfold rs_X_greatestCrowd_58 at h
  refine az_E.sn 6 (pc' := 4) (L' := [.ref 3, .int v1, .int (if v2 < v4 then v4 else v2), .int (v3 + (1 : Int32)), .int v4, .retAddr 0]) (S' := []) (σ' := (97, I, J, R)) rfl ?_
  have h := Option.some.inj h
  subst h
  exact az_E.forget (L := [.ref 3, .int v1, .int (if v2 < v4 then v4 else v2), .int (v3 + (1 : Int32)), .retAddr 0, .retAddr 0]) ⟨rfl, rfl, rfl, rfl, trivial, trivial, trivial⟩ hQ
set_option maxRecDepth 100000 in
set_option maxHeartbeats 4000000 in
theorem re_X_greatestCrowd_16_b {ex : az_X} {I : Nat → Nat → Int32} {J : Nat → Nat → Int64} {R : Nat → Nat → Option Nat} {v1 : Int32} {v2 : Int32} {v3 : Int32} {v4 : Int32} {v5 : Int32} {x : ((Int32 × Int32) ⊕ (((Int32 × Int32) ⊕ (Int32))))} (h : rs_X_greatestCrowd_16_b I v1 v2 v3 v4 v5 = some x) {Q : Option Value → az_S → Prop} (hQ : Sum.elim (fun s => az_E az_F ex 1 149 16 [.ref 3, .int v1, .int v2, .int v3, .int s.1, .int s.2] [] (97, I, J, R) Q) (fun x => Sum.elim (fun s => az_E az_F ex 1 149 4 [.ref 3, .int v1, .int s.1, .int s.2, .retAddr 0, .retAddr 0] [] (97, I, J, R) Q) (fun x => Q (some (.int x)) (97, I, J, R)) x) x) : az_E az_F ex 1 149 16 [.ref 3, .int v1, .int v2, .int v3, .int v4, .int v5] [] (97, I, J, R) Q := by
  unfold rs_X_greatestCrowd_16_b at h
  refine az_E.sn 2 (pc' := 20) (L' := [.ref 3, .int v1, .int v2, .int v3, .int v4, .int v5]) (S' := [.int (19 : Int32), .int v5]) (σ' := (97, I, J, R)) rfl ?_
  refine az_E.br (c := (19 : Int32) ≤ v5) (tt := 58) (ff := 23) (L' := [.ref 3, .int v1, .int v2, .int v3, .int v4, .int v5]) (S' := []) (σ' := (97, I, J, R)) rfl (fun hc_2 => ?_) (fun hc_2 => ?_)
  · rw [if_pos hc_2] at h
    obtain ⟨x, hx, rfl⟩ := Option.map_eq_some_iff.mp h
    exact az_E.forget (L := [.ref 3, .int v1, .int v2, .int v3, .int v4, .retAddr 0]) ⟨rfl, rfl, rfl, rfl, rfl, trivial, trivial⟩ (re_X_greatestCrowd_58 (I := I) (J := J) (R := R)  hx hQ)
  · rw [if_neg hc_2] at h
    refine az_E.sn 7 (pc' := 33) (L' := [.ref 3, .int v1, .int v2, .int v3, .int v4, .int v5]) (S' := [.int ((v1 * (19 : Int32)) + v3), .ref 60]) (σ' := (97, I, J, R)) rfl ?_
    by_cases hc_3 : ((v1 * (19 : Int32)) + v3) < 0 ∨ 152 ≤ ((v1 * (19 : Int32)) + v3).toNatClampNeg
    · rw [if_pos hc_3] at h; cases h
    · rw [if_neg hc_3] at h
      refine az_E.oi (o := az_ai az_F ex (97, I, J, R) 60 ((v1 * (19 : Int32)) + v3)) (pc' := 34) (L' := [.ref 3, .int v1, .int v2, .int v3, .int v4, .int v5]) (S' := []) (σ' := (97, I, J, R)) (x := (I 60 ((v1 * (19 : Int32)) + v3).toNatClampNeg)) rfl (if_neg hc_3) ?_
      refine az_E.sn 7 (pc' := 45) (L' := [.ref 3, .int v1, .int v2, .int v3, .int v4, .int v5]) (S' := [.int ((v1 * (19 : Int32)) + v5), .ref 60, .int (I 60 ((v1 * (19 : Int32)) + v3).toNatClampNeg)]) (σ' := (97, I, J, R)) rfl ?_
      by_cases hc_4 : ((v1 * (19 : Int32)) + v5) < 0 ∨ 152 ≤ ((v1 * (19 : Int32)) + v5).toNatClampNeg
      · rw [if_pos hc_4] at h; cases h
      · rw [if_neg hc_4] at h
        refine az_E.oi (o := az_ai az_F ex (97, I, J, R) 60 ((v1 * (19 : Int32)) + v5)) (pc' := 46) (L' := [.ref 3, .int v1, .int v2, .int v3, .int v4, .int v5]) (S' := [.int (I 60 ((v1 * (19 : Int32)) + v3).toNatClampNeg)]) (σ' := (97, I, J, R)) (x := (I 60 ((v1 * (19 : Int32)) + v5).toNatClampNeg)) rfl (if_neg hc_4) ?_
        refine az_E.br (c := (I 60 ((v1 * (19 : Int32)) + v3).toNatClampNeg) = (I 60 ((v1 * (19 : Int32)) + v5).toNatClampNeg)) (tt := 49) (ff := 52) (L' := [.ref 3, .int v1, .int v2, .int v3, .int v4, .int v5]) (S' := []) (σ' := (97, I, J, R)) rfl (fun hc_5 => ?_) (fun hc_5 => ?_)
        · rw [if_pos hc_5] at h
          refine az_E.sn 3 (pc' := 16) (L' := [.ref 3, .int v1, .int v2, .int v3, .int (v4 + (1 : Int32)), .int (v5 + (1 : Int32))]) (S' := []) (σ' := (97, I, J, R)) rfl ?_
          have h := Option.some.inj h
          subst h
          exact az_E.forget (L := [.ref 3, .int v1, .int v2, .int v3, .int (v4 + (1 : Int32)), .int (v5 + (1 : Int32))]) ⟨rfl, rfl, rfl, rfl, rfl, rfl, trivial⟩ hQ
        · rw [if_neg hc_5] at h
          refine az_E.sn 2 (pc' := 16) (L' := [.ref 3, .int v1, .int v2, .int v3, .int v4, .int (v5 + (1 : Int32))]) (S' := []) (σ' := (97, I, J, R)) rfl ?_
          have h := Option.some.inj h
          subst h
          exact az_E.forget (L := [.ref 3, .int v1, .int v2, .int v3, .int v4, .int (v5 + (1 : Int32))]) ⟨rfl, rfl, rfl, rfl, rfl, rfl, trivial⟩ hQ
set_option maxRecDepth 100000 in
set_option maxHeartbeats 4000000 in
theorem re_X_greatestCrowd_16 {ex : az_X} {I : Nat → Nat → Int32} {J : Nat → Nat → Int64} {R : Nat → Nat → Option Nat} {v1 : Int32} {v2 : Int32} {v3 : Int32} {v4 : Int32} {v5 : Int32} {x : ((Int32 × Int32) ⊕ (Int32))} (h : rs_X_greatestCrowd_16 I v1 v2 v3 v4 v5 = some x) {Q : Option Value → az_S → Prop} (hQ : Sum.elim (fun s => az_E az_F ex 1 149 4 [.ref 3, .int v1, .int s.1, .int s.2, .retAddr 0, .retAddr 0] [] (97, I, J, R) Q) (fun x => Q (some (.int x)) (97, I, J, R)) x) : az_E az_F ex 1 149 16 [.ref 3, .int v1, .int v2, .int v3, .int v4, .int v5] [] (97, I, J, R) Q := by
  unfold rs_X_greatestCrowd_16 at h
  refine az_lp_E (G := fun s => az_E az_F ex 1 149 16 [.ref 3, .int v1, .int v2, .int v3, .int s.1, .int s.2] [] (97, I, J, R) Q) (H := fun x => Sum.elim (fun s => az_E az_F ex 1 149 4 [.ref 3, .int v1, .int s.1, .int s.2, .retAddr 0, .retAddr 0] [] (97, I, J, R) Q) (fun x => Q (some (.int x)) (97, I, J, R)) x) (fun s o hb ho => ?_) _ _ _ h hQ
  exact re_X_greatestCrowd_16_b  hb ho
set_option maxRecDepth 100000 in
set_option maxHeartbeats 4000000 in
theorem re_X_greatestCrowd_4_b {ex : az_X} {I : Nat → Nat → Int32} {J : Nat → Nat → Int64} {R : Nat → Nat → Option Nat} {v1 : Int32} {v2 : Int32} {v3 : Int32} {x : ((Int32 × Int32) ⊕ (Int32))} (h : rs_X_greatestCrowd_4_b I v1 v2 v3 = some x) {Q : Option Value → az_S → Prop} (hQ : Sum.elim (fun s => az_E az_F ex 1 149 4 [.ref 3, .int v1, .int s.1, .int s.2, .retAddr 0, .retAddr 0] [] (97, I, J, R) Q) (fun x => Q (some (.int x)) (97, I, J, R)) x) : az_E az_F ex 1 149 4 [.ref 3, .int v1, .int v2, .int v3, .retAddr 0, .retAddr 0] [] (97, I, J, R) Q := by
  unfold rs_X_greatestCrowd_4_b at h
  refine az_E.sn 2 (pc' := 7) (L' := [.ref 3, .int v1, .int v2, .int v3, .retAddr 0, .retAddr 0]) (S' := [.int (19 : Int32), .int v3]) (σ' := (97, I, J, R)) rfl ?_
  refine az_E.br (c := (19 : Int32) ≤ v3) (tt := 71) (ff := 10) (L' := [.ref 3, .int v1, .int v2, .int v3, .retAddr 0, .retAddr 0]) (S' := []) (σ' := (97, I, J, R)) rfl (fun hc_1 => ?_) (fun hc_1 => ?_)
  · rw [if_pos hc_1] at h
    refine az_E.sn 1 (pc' := 72) (L' := [.ref 3, .int v1, .int v2, .int v3, .retAddr 0, .retAddr 0]) (S' := [.int v2]) (σ' := (97, I, J, R)) rfl ?_
    have h := Option.some.inj h
    subst h
    exact az_E.ret (v := some (.int v2)) (σ' := (97, I, J, R)) rfl hQ
  · rw [if_neg hc_1] at h
    refine az_E.sn 4 (pc' := 16) (L' := [.ref 3, .int v1, .int v2, .int v3, .int (0 : Int32), .int (0 : Int32)]) (S' := []) (σ' := (97, I, J, R)) rfl ?_
    exact az_E.forget (L := [.ref 3, .int v1, .int v2, .int v3, .int (0 : Int32), .int (0 : Int32)]) ⟨rfl, rfl, rfl, rfl, rfl, rfl, trivial⟩ (re_X_greatestCrowd_16 (I := I) (J := J) (R := R)  h hQ)
set_option maxRecDepth 100000 in
set_option maxHeartbeats 4000000 in
theorem re_X_greatestCrowd_4 {ex : az_X} {I : Nat → Nat → Int32} {J : Nat → Nat → Int64} {R : Nat → Nat → Option Nat} {v1 : Int32} {v2 : Int32} {v3 : Int32} {x : Int32} (h : rs_X_greatestCrowd_4 I v1 v2 v3 = some x) {Q : Option Value → az_S → Prop} (hQ : Q (some (.int x)) (97, I, J, R)) : az_E az_F ex 1 149 4 [.ref 3, .int v1, .int v2, .int v3, .retAddr 0, .retAddr 0] [] (97, I, J, R) Q := by
  unfold rs_X_greatestCrowd_4 at h
  refine az_lp_E (G := fun s => az_E az_F ex 1 149 4 [.ref 3, .int v1, .int s.1, .int s.2, .retAddr 0, .retAddr 0] [] (97, I, J, R) Q) (H := fun x => Q (some (.int x)) (97, I, J, R)) (fun s o hb ho => ?_) _ _ _ h hQ
  exact re_X_greatestCrowd_4_b  hb ho
set_option maxRecDepth 100000 in
set_option maxHeartbeats 4000000 in
theorem re_X_greatestCrowd {ex : az_X} {I : Nat → Nat → Int32} {J : Nat → Nat → Int64} {R : Nat → Nat → Option Nat} {a1 : Int32} {o : Int32} (h : rs_X_greatestCrowd I a1 = some o) {Q : Option Value → az_S → Prop} (hQ : Q (some (.int o)) (97, I, J, R)) : az_E az_F ex 1 149 0 [.ref 3, .int a1, .retAddr 0, .retAddr 0, .retAddr 0, .retAddr 0] [] (97, I, J, R) Q := by
  unfold rs_X_greatestCrowd at h
  refine az_E.sn 4 (pc' := 4) (L' := [.ref 3, .int a1, .int (0 : Int32), .int (0 : Int32), .retAddr 0, .retAddr 0]) (S' := []) (σ' := (97, I, J, R)) rfl ?_
  exact az_E.forget (L := [.ref 3, .int a1, .int (0 : Int32), .int (0 : Int32), .retAddr 0, .retAddr 0]) ⟨rfl, rfl, rfl, rfl, trivial, trivial, trivial⟩ (re_X_greatestCrowd_4 (I := I) (J := J) (R := R)  h hQ)
set_option maxRecDepth 100000 in
set_option maxHeartbeats 4000000 in
theorem re_X_next_81_16_21 {ex : az_X} {I : Nat → Nat → Int32} {J : Nat → Nat → Int64} {R : Nat → Nat → Option Nat} {v2 : Int32} {v3 : Int32} {v4 : Int32} (hR_3_2 : R 3 2 = some 16) (hR_3_3 : R 3 3 = some 21) {x : Int32 × (Nat → Nat → Int32)} (h : rs_X_next_81 21 16 I v2 v3 v4 = some x) {Q : Option Value → az_S → Prop} (hQ : ∀ R' : Nat → Nat → Option Nat, R' 3 2 = some 16 → R' 3 3 = some 21 → Q (some (.int x.1)) (97, x.2, J, R')) : az_E az_F ex 6 104 81 [.retAddr 0, .retAddr 0, .int v2, .int v3, .int v4, .retAddr 0, .retAddr 0] [] (97, I, J, (az_u (az_u R 26 2 (some 16)) 26 3 (some 5))) Q := by
  unfold rs_X_next_81 at h
  refine az_E.sn 1 (pc' := 82) (L' := [.retAddr 0, .retAddr 0, .int v2, .int v3, .int v4, .retAddr 0, .retAddr 0]) (S' := [.int v2]) (σ' := (97, I, J, (az_u (az_u R 26 2 (some 16)) 26 3 (some 5)))) rfl ?_
  refine az_E.br (c := v2 = 0) (tt := 91) (ff := 85) (L' := [.retAddr 0, .retAddr 0, .int v2, .int v3, .int v4, .retAddr 0, .retAddr 0]) (S' := []) (σ' := (97, I, J, (az_u (az_u R 26 2 (some 16)) 26 3 (some 5)))) rfl (fun hc_9 => ?_) (fun hc_9 => ?_)
  · rw [if_pos hc_9] at h
    refine az_E.sn 2 (pc' := 97) (L' := [.retAddr 0, .retAddr 0, .int v2, .int v3, .int v4, .retAddr 0, .retAddr 0]) (S' := [.int v3]) (σ' := (97, I, J, (az_u (az_u R 26 2 (some 16)) 26 3 (some 5)))) rfl ?_
    have h := Option.some.inj h
    subst h
    exact az_E.ret (v := some (.int v3)) (σ' := (97, I, J, (az_u (az_u R 26 2 (some 16)) 26 3 (some 5)))) rfl (hQ _ hR_3_2 hR_3_3)
  · rw [if_neg hc_9] at h
    refine az_E.sn 2 (pc' := 88) (L' := [.retAddr 0, .retAddr 0, .int v2, .int v3, .int v4, .retAddr 0, .retAddr 0]) (S' := [.int (-2 : Int32), .int v3]) (σ' := (97, I, J, (az_u (az_u R 26 2 (some 16)) 26 3 (some 5)))) rfl ?_
    refine az_E.br (c := v3 = (-2 : Int32)) (tt := 91) (ff := 95) (L' := [.retAddr 0, .retAddr 0, .int v2, .int v3, .int v4, .retAddr 0, .retAddr 0]) (S' := []) (σ' := (97, I, J, (az_u (az_u R 26 2 (some 16)) 26 3 (some 5)))) rfl (fun hc_10 => ?_) (fun hc_10 => ?_)
    · rw [if_pos hc_10] at h
      refine az_E.sn 2 (pc' := 97) (L' := [.retAddr 0, .retAddr 0, .int v2, .int v3, .int v4, .retAddr 0, .retAddr 0]) (S' := [.int v3]) (σ' := (97, I, J, (az_u (az_u R 26 2 (some 16)) 26 3 (some 5)))) rfl ?_
      have h := Option.some.inj h
      subst h
      exact az_E.ret (v := some (.int v3)) (σ' := (97, I, J, (az_u (az_u R 26 2 (some 16)) 26 3 (some 5)))) rfl (hQ _ hR_3_2 hR_3_3)
    · rw [if_neg hc_10] at h
      refine az_E.sn 1 (pc' := 97) (L' := [.retAddr 0, .retAddr 0, .int v2, .int v3, .int v4, .retAddr 0, .retAddr 0]) (S' := [.int v4]) (σ' := (97, I, J, (az_u (az_u R 26 2 (some 16)) 26 3 (some 5)))) rfl ?_
      have h := Option.some.inj h
      subst h
      exact az_E.ret (v := some (.int v4)) (σ' := (97, I, J, (az_u (az_u R 26 2 (some 16)) 26 3 (some 5)))) rfl (hQ _ hR_3_2 hR_3_3)
set_option maxRecDepth 100000 in
set_option maxHeartbeats 4000000 in
theorem re_X_next_35_b_16_21 {ex : az_X} {I : Nat → Nat → Int32} {J : Nat → Nat → Int64} {R : Nat → Nat → Option Nat} {v2 : Int32} {v3 : Int32} {v4 : Int32} {v5 : Int32} (hR_3_2 : R 3 2 = some 16) (hR_3_3 : R 3 3 = some 21) {x : ((Int32 × Int32 × Int32) ⊕ (Int32 × (Nat → Nat → Int32)))} (h : rs_X_next_35_b 21 16 I v2 v3 v4 v5 = some x) {Q : Option Value → az_S → Prop} (hQ : Sum.elim (fun s => az_E az_F ex 6 104 35 [.ref 3, .retAddr 0, .int v2, .int s.1, .int s.2.1, .int s.2.2, .retAddr 0] [] (97, I, J, (az_u (az_u R 26 2 (some 16)) 26 3 (some 5))) Q) (fun x => ∀ R' : Nat → Nat → Option Nat, R' 3 2 = some 16 → R' 3 3 = some 21 → Q (some (.int x.1)) (97, x.2, J, R')) x) : az_E az_F ex 6 104 35 [.ref 3, .retAddr 0, .int v2, .int v3, .int v4, .int v5, .retAddr 0] [] (97, I, J, (az_u (az_u R 26 2 (some 16)) 26 3 (some 5))) Q := by
  unfold rs_X_next_35_b at h
  refine az_E.sn 4 (pc' := 44) (L' := [.ref 3, .retAddr 0, .int v2, .int v3, .int v4, .int v5, .retAddr 0]) (S' := [.int (I 4 3), .int v5]) (σ' := (97, I, J, (az_u (az_u R 26 2 (some 16)) 26 3 (some 5)))) rfl ?_
  refine az_E.br (c := (I 4 3) ≤ v5) (tt := 81) (ff := 47) (L' := [.ref 3, .retAddr 0, .int v2, .int v3, .int v4, .int v5, .retAddr 0]) (S' := []) (σ' := (97, I, J, (az_u (az_u R 26 2 (some 16)) 26 3 (some 5)))) rfl (fun hc_8 => ?_) (fun hc_8 => ?_)
  · rw [if_pos hc_8] at h
    obtain ⟨x, hx, rfl⟩ := Option.map_eq_some_iff.mp h
    exact az_E.forget (L := [.retAddr 0, .retAddr 0, .int v2, .int v3, .int v4, .retAddr 0, .retAddr 0]) ⟨trivial, trivial, rfl, rfl, rfl, trivial, trivial, trivial⟩ (re_X_next_81_16_21 (I := I) (J := J) (R := R) hR_3_2 hR_3_3 hx hQ)
  · rw [if_neg hc_8] at h
    refine az_E.sn 2 (pc' := 50) (L' := [.ref 3, .retAddr 0, .int v2, .int v3, .int v4, .int v5, .retAddr 0]) (S' := [.int v5, .ref 3]) (σ' := (97, I, J, (az_u (az_u R 26 2 (some 16)) 26 3 (some 5)))) rfl ?_
    cases hx_12 : rs_X_greatestCrowd I v5 with
    | none => rw [hx_12] at h; cases h
    | some x_11 =>
      rw [hx_12] at h
      dsimp only at h
      refine az_E.call (d := 5) (k' := 149) (vs := [.ref 3, .int v5]) (pc' := 53) (S' := []) (Q1 := fun v s => v = some (.int x_11) ∧ s = (97, I, J, (az_u (az_u R 26 2 (some 16)) 26 3 (some 5)))) rfl (az_E.deep (by omega) (re_X_greatestCrowd (J := J) (R := (az_u (az_u R 26 2 (some 16)) 26 3 (some 5)))  hx_12 ⟨rfl, rfl⟩)) (fun v s hq => ?_)
      obtain ⟨rfl, rfl⟩ := hq
      show az_E az_F ex 6 104 53 [.ref 3, .retAddr 0, .int v2, .int v3, .int v4, .int v5, .retAddr 0] [.int x_11] (97, I, J, (az_u (az_u R 26 2 (some 16)) 26 3 (some 5))) _
      refine az_E.sn 3 (pc' := 58) (L' := [.ref 3, .retAddr 0, .int v2, .int v3, .int v4, .int v5, .int x_11]) (S' := [.int (-2 : Int32), .int v3]) (σ' := (97, I, J, (az_u (az_u R 26 2 (some 16)) 26 3 (some 5)))) rfl ?_
      refine az_E.br (c := v3 = (-2 : Int32)) (tt := 68) (ff := 61) (L' := [.ref 3, .retAddr 0, .int v2, .int v3, .int v4, .int v5, .int x_11]) (S' := []) (σ' := (97, I, J, (az_u (az_u R 26 2 (some 16)) 26 3 (some 5)))) rfl (fun hc_13 => ?_) (fun hc_13 => ?_)
      · rw [if_pos hc_13] at h
        refine az_E.sn 6 (pc' := 35) (L' := [.ref 3, .retAddr 0, .int v2, .int v5, .int x_11, .int (v5 + (1 : Int32)), .int x_11]) (S' := []) (σ' := (97, I, J, (az_u (az_u R 26 2 (some 16)) 26 3 (some 5)))) rfl ?_
        have h := Option.some.inj h
        subst h
        exact az_E.forget (L := [.ref 3, .retAddr 0, .int v2, .int v5, .int x_11, .int (v5 + (1 : Int32)), .retAddr 0]) ⟨rfl, trivial, rfl, rfl, rfl, rfl, trivial, trivial⟩ hQ
      · rw [if_neg hc_13] at h
        refine az_E.sn 2 (pc' := 65) (L' := [.ref 3, .retAddr 0, .int v2, .int v3, .int v4, .int v5, .int x_11]) (S' := [.int v4, .int x_11]) (σ' := (97, I, J, (az_u (az_u R 26 2 (some 16)) 26 3 (some 5)))) rfl ?_
        refine az_E.br (c := v4 ≤ x_11) (tt := 75) (ff := 68) (L' := [.ref 3, .retAddr 0, .int v2, .int v3, .int v4, .int v5, .int x_11]) (S' := []) (σ' := (97, I, J, (az_u (az_u R 26 2 (some 16)) 26 3 (some 5)))) rfl (fun hc_14 => ?_) (fun hc_14 => ?_)
        · rw [if_pos hc_14] at h
          refine az_E.sn 2 (pc' := 35) (L' := [.ref 3, .retAddr 0, .int v2, .int v3, .int v4, .int (v5 + (1 : Int32)), .int x_11]) (S' := []) (σ' := (97, I, J, (az_u (az_u R 26 2 (some 16)) 26 3 (some 5)))) rfl ?_
          have h := Option.some.inj h
          subst h
          exact az_E.forget (L := [.ref 3, .retAddr 0, .int v2, .int v3, .int v4, .int (v5 + (1 : Int32)), .retAddr 0]) ⟨rfl, trivial, rfl, rfl, rfl, rfl, trivial, trivial⟩ hQ
        · rw [if_neg hc_14] at h
          refine az_E.sn 6 (pc' := 35) (L' := [.ref 3, .retAddr 0, .int v2, .int v5, .int x_11, .int (v5 + (1 : Int32)), .int x_11]) (S' := []) (σ' := (97, I, J, (az_u (az_u R 26 2 (some 16)) 26 3 (some 5)))) rfl ?_
          have h := Option.some.inj h
          subst h
          exact az_E.forget (L := [.ref 3, .retAddr 0, .int v2, .int v5, .int x_11, .int (v5 + (1 : Int32)), .retAddr 0]) ⟨rfl, trivial, rfl, rfl, rfl, rfl, trivial, trivial⟩ hQ
set_option maxRecDepth 100000 in
set_option maxHeartbeats 4000000 in
theorem re_X_next_35_16_21 {ex : az_X} {I : Nat → Nat → Int32} {J : Nat → Nat → Int64} {R : Nat → Nat → Option Nat} {v2 : Int32} {v3 : Int32} {v4 : Int32} {v5 : Int32} (hR_3_2 : R 3 2 = some 16) (hR_3_3 : R 3 3 = some 21) {x : Int32 × (Nat → Nat → Int32)} (h : rs_X_next_35 21 16 I v2 v3 v4 v5 = some x) {Q : Option Value → az_S → Prop} (hQ : ∀ R' : Nat → Nat → Option Nat, R' 3 2 = some 16 → R' 3 3 = some 21 → Q (some (.int x.1)) (97, x.2, J, R')) : az_E az_F ex 6 104 35 [.ref 3, .retAddr 0, .int v2, .int v3, .int v4, .int v5, .retAddr 0] [] (97, I, J, (az_u (az_u R 26 2 (some 16)) 26 3 (some 5))) Q := by
  unfold rs_X_next_35 at h
  refine az_lp_E (G := fun s => az_E az_F ex 6 104 35 [.ref 3, .retAddr 0, .int v2, .int s.1, .int s.2.1, .int s.2.2, .retAddr 0] [] (97, I, J, (az_u (az_u R 26 2 (some 16)) 26 3 (some 5))) Q) (H := fun x => ∀ R' : Nat → Nat → Option Nat, R' 3 2 = some 16 → R' 3 3 = some 21 → Q (some (.int x.1)) (97, x.2, J, R')) (fun s o hb ho => ?_) _ _ _ h hQ
  exact re_X_next_35_b_16_21 hR_3_2 hR_3_3 hb ho
set_option maxRecDepth 100000 in
set_option maxHeartbeats 4000000 in
theorem re_X_next_16_21 {ex : az_X} {I : Nat → Nat → Int32} {J : Nat → Nat → Int64} {R : Nat → Nat → Option Nat} {a1 : Int32} {a2 : Int32} (hR_3_2 : R 3 2 = some 16) (hR_3_3 : R 3 3 = some 21) {o : Int32 × (Nat → Nat → Int32)} (h : rs_X_next 21 16 I a1 a2 = some o) {Q : Option Value → az_S → Prop} (hQ : ∀ R' : Nat → Nat → Option Nat, R' 3 2 = some 16 → R' 3 3 = some 21 → Q (some (.int o.1)) (97, o.2, J, R')) : az_E az_F ex 6 104 0 [.ref 3, .int a1, .int a2, .retAddr 0, .retAddr 0, .retAddr 0, .retAddr 0] [] (97, I, J, R) Q := by
  unfold rs_X_next at h
  refine az_E.sn 2 (pc' := 2) (L' := [.ref 3, .int a1, .int a2, .retAddr 0, .retAddr 0, .retAddr 0, .retAddr 0]) (S' := [.int a1, .ref 3]) (σ' := (97, I, J, R)) rfl ?_
  refine az_E.call (d := 5) (k' := 138) (vs := [.ref 3, .int a1]) (pc' := 5) (S' := []) rfl ?_ (fun _ _ hq => hq)
  show az_E az_F ex 5 138 0 [.ref 3, .int a1] [] (97, I, J, R) _
  refine az_E.sn 7 (pc' := 11) (L' := [.ref 3, .int a1]) (S' := [.int ((I 4 9) - (1 : Int32)), .int (0 : Int32), .int a1]) (σ' := (97, I, J, R)) rfl ?_
  refine az_E.call (d := 4) (k' := 131) (vs := [.int a1, .int (0 : Int32), .int ((I 4 9) - (1 : Int32))]) (pc' := 14) (S' := []) rfl ?_ (fun _ _ hq => hq)
  show az_E az_F ex 4 131 0 [.int a1, .int (0 : Int32), .int ((I 4 9) - (1 : Int32))] [] (97, I, J, R) _
  refine az_E.sn 2 (pc' := 2) (L' := [.int a1, .int (0 : Int32), .int ((I 4 9) - (1 : Int32))]) (S' := [.int (0 : Int32), .int a1]) (σ' := (97, I, J, R)) rfl ?_
  refine az_E.br (c := a1 < (0 : Int32)) (tt := 14) (ff := 5) (L' := [.int a1, .int (0 : Int32), .int ((I 4 9) - (1 : Int32))]) (S' := []) (σ' := (97, I, J, R)) rfl (fun hc_1 => ?_) (fun hc_1 => ?_)
  · rw [if_pos hc_1] at h
    refine az_E.sn 1 (pc' := 15) (L' := [.int a1, .int (0 : Int32), .int ((I 4 9) - (1 : Int32))]) (S' := [.int (0 : Int32)]) (σ' := (97, I, J, R)) rfl ?_
    refine az_E.ret (v := some (.int (0 : Int32))) (σ' := (97, I, J, R)) rfl ?_
    show az_E az_F ex 5 138 14 [.ref 3, .int a1] [.int (0 : Int32)] (97, I, J, R) _
    refine az_E.ret (v := some (.int (0 : Int32))) (σ' := (97, I, J, R)) rfl ?_
    show az_E az_F ex 6 104 5 [.ref 3, .int a1, .int a2, .retAddr 0, .retAddr 0, .retAddr 0, .retAddr 0] [.int (0 : Int32)] (97, I, J, R) _
    refine az_E.br (c := (0 : Int32) = 0) (tt := 15) (ff := 8) (L' := [.ref 3, .int a1, .int a2, .retAddr 0, .retAddr 0, .retAddr 0, .retAddr 0]) (S' := []) (σ' := (97, I, J, R)) rfl (fun _ => ?_) (fun hn => absurd (by decide) hn)
    refine az_E.sn 1 (pc' := 16) (L' := [.ref 3, .int a1, .int a2, .retAddr 0, .retAddr 0, .retAddr 0, .retAddr 0]) (S' := [.int (-1 : Int32)]) (σ' := (97, I, J, R)) rfl ?_
    have h := Option.some.inj h
    subst h
    exact az_E.ret (v := some (.int (-1 : Int32))) (σ' := (97, I, J, R)) rfl (hQ _ hR_3_2 hR_3_3)
  · rw [if_neg hc_1] at h
    refine az_E.sn 2 (pc' := 7) (L' := [.int a1, .int (0 : Int32), .int ((I 4 9) - (1 : Int32))]) (S' := [.int ((I 4 9) - (1 : Int32)), .int a1]) (σ' := (97, I, J, R)) rfl ?_
    refine az_E.br (c := ((I 4 9) - (1 : Int32)) < a1) (tt := 14) (ff := 10) (L' := [.int a1, .int (0 : Int32), .int ((I 4 9) - (1 : Int32))]) (S' := []) (σ' := (97, I, J, R)) rfl (fun hc_2 => ?_) (fun hc_2 => ?_)
    · rw [if_pos hc_2] at h
      refine az_E.sn 1 (pc' := 15) (L' := [.int a1, .int (0 : Int32), .int ((I 4 9) - (1 : Int32))]) (S' := [.int (0 : Int32)]) (σ' := (97, I, J, R)) rfl ?_
      refine az_E.ret (v := some (.int (0 : Int32))) (σ' := (97, I, J, R)) rfl ?_
      show az_E az_F ex 5 138 14 [.ref 3, .int a1] [.int (0 : Int32)] (97, I, J, R) _
      refine az_E.ret (v := some (.int (0 : Int32))) (σ' := (97, I, J, R)) rfl ?_
      show az_E az_F ex 6 104 5 [.ref 3, .int a1, .int a2, .retAddr 0, .retAddr 0, .retAddr 0, .retAddr 0] [.int (0 : Int32)] (97, I, J, R) _
      refine az_E.br (c := (0 : Int32) = 0) (tt := 15) (ff := 8) (L' := [.ref 3, .int a1, .int a2, .retAddr 0, .retAddr 0, .retAddr 0, .retAddr 0]) (S' := []) (σ' := (97, I, J, R)) rfl (fun _ => ?_) (fun hn => absurd (by decide) hn)
      refine az_E.sn 1 (pc' := 16) (L' := [.ref 3, .int a1, .int a2, .retAddr 0, .retAddr 0, .retAddr 0, .retAddr 0]) (S' := [.int (-1 : Int32)]) (σ' := (97, I, J, R)) rfl ?_
      have h := Option.some.inj h
      subst h
      exact az_E.ret (v := some (.int (-1 : Int32))) (σ' := (97, I, J, R)) rfl (hQ _ hR_3_2 hR_3_3)
    · rw [if_neg hc_2] at h
      refine az_E.sn 2 (pc' := 15) (L' := [.int a1, .int (0 : Int32), .int ((I 4 9) - (1 : Int32))]) (S' := [.int (1 : Int32)]) (σ' := (97, I, J, R)) rfl ?_
      refine az_E.ret (v := some (.int (1 : Int32))) (σ' := (97, I, J, R)) rfl ?_
      show az_E az_F ex 5 138 14 [.ref 3, .int a1] [.int (1 : Int32)] (97, I, J, R) _
      refine az_E.ret (v := some (.int (1 : Int32))) (σ' := (97, I, J, R)) rfl ?_
      show az_E az_F ex 6 104 5 [.ref 3, .int a1, .int a2, .retAddr 0, .retAddr 0, .retAddr 0, .retAddr 0] [.int (1 : Int32)] (97, I, J, R) _
      refine az_E.br (c := (1 : Int32) = 0) (tt := 15) (ff := 8) (L' := [.ref 3, .int a1, .int a2, .retAddr 0, .retAddr 0, .retAddr 0, .retAddr 0]) (S' := []) (σ' := (97, I, J, R)) rfl (fun hn => absurd hn (by decide)) (fun _ => ?_)
      refine az_E.sn 1 (pc' := 9) (L' := [.ref 3, .int a1, .int a2, .retAddr 0, .retAddr 0, .retAddr 0, .retAddr 0]) (S' := [.int a2]) (σ' := (97, I, J, R)) rfl ?_
      refine az_E.call (d := 5) (k' := 132) (vs := [.int a2]) (pc' := 12) (S' := []) rfl ?_ (fun _ _ hq => hq)
      show az_E az_F ex 5 132 0 [.int a2] [] (97, I, J, R) _
      refine az_E.sn 1 (pc' := 1) (L' := [.int a2]) (S' := [.int a2]) (σ' := (97, I, J, R)) rfl ?_
      refine az_E.br (c := a2 = 0) (tt := 9) (ff := 4) (L' := [.int a2]) (S' := []) (σ' := (97, I, J, R)) rfl (fun hc_3 => ?_) (fun hc_3 => ?_)
      · rw [if_pos hc_3] at h
        refine az_E.sn 2 (pc' := 14) (L' := [.int a2]) (S' := [.int (1 : Int32)]) (σ' := (97, I, J, R)) rfl ?_
        refine az_E.ret (v := some (.int (1 : Int32))) (σ' := (97, I, J, R)) rfl ?_
        show az_E az_F ex 6 104 12 [.ref 3, .int a1, .int a2, .retAddr 0, .retAddr 0, .retAddr 0, .retAddr 0] [.int (1 : Int32)] (97, I, J, R) _
        refine az_E.br (c := (1 : Int32) = 0) (tt := 15) (ff := 17) (L' := [.ref 3, .int a1, .int a2, .retAddr 0, .retAddr 0, .retAddr 0, .retAddr 0]) (S' := []) (σ' := (97, I, J, R)) rfl (fun hn => absurd hn (by decide)) (fun _ => ?_)
        refine az_E.sn 2 (pc' := 19) (L' := [.ref 3, .int a1, .int a2, .retAddr 0, .retAddr 0, .retAddr 0, .retAddr 0]) (S' := [.int a1, .ref 3]) (σ' := (97, I, J, R)) rfl ?_
        cases hx_5 : rs_X_setPace 16 I a1 with
        | none => rw [hx_5] at h; cases h
        | some I_4 =>
          rw [hx_5] at h
          dsimp only at h
          refine az_E.call (d := 5) (k' := 144) (vs := [.ref 3, .int a1]) (pc' := 22) (S' := []) (Q1 := fun v s => v = none ∧ s = (97, I_4, J, (az_u (az_u R 26 2 (some 16)) 26 3 (some 5)))) rfl (az_E.deep (by omega) (re_X_setPace_16 (J := J) (R := R) hR_3_2 hx_5 ⟨rfl, rfl⟩)) (fun v s hq => ?_)
          obtain ⟨rfl, rfl⟩ := hq
          show az_E az_F ex 6 104 22 [.ref 3, .int a1, .int a2, .retAddr 0, .retAddr 0, .retAddr 0, .retAddr 0] [] (97, I_4, J, (az_u (az_u R 26 2 (some 16)) 26 3 (some 5))) _
          refine az_E.sn 1 (pc' := 23) (L' := [.ref 3, .int a1, .int a2, .retAddr 0, .retAddr 0, .retAddr 0, .retAddr 0]) (S' := [.ref 3]) (σ' := (97, I_4, J, (az_u (az_u R 26 2 (some 16)) 26 3 (some 5)))) rfl ?_
          cases hx_7 : rs_X_fillArmsByHeart 16 I_4 with
          | none => rw [hx_7] at h; cases h
          | some I_6 =>
            rw [hx_7] at h
            dsimp only at h
            refine az_E.call (d := 5) (k' := 148) (vs := [.ref 3]) (pc' := 26) (S' := []) (Q1 := fun v s => v = none ∧ s = (97, I_6, J, (az_u (az_u R 26 2 (some 16)) 26 3 (some 5)))) rfl (az_E.deep (by omega) (re_X_fillArmsByHeart_16_5 (J := J) (R := (az_u (az_u R 26 2 (some 16)) 26 3 (some 5))) rfl rfl hx_7 ⟨rfl, rfl⟩)) (fun v s hq => ?_)
            obtain ⟨rfl, rfl⟩ := hq
            show az_E az_F ex 6 104 26 [.ref 3, .int a1, .int a2, .retAddr 0, .retAddr 0, .retAddr 0, .retAddr 0] [] (97, I_6, J, (az_u (az_u R 26 2 (some 16)) 26 3 (some 5))) _
            refine az_E.sn 6 (pc' := 35) (L' := [.ref 3, .int a1, .int a2, .int (-2 : Int32), .int (0 : Int32), .int (0 : Int32), .retAddr 0]) (S' := []) (σ' := (97, I_6, J, (az_u (az_u R 26 2 (some 16)) 26 3 (some 5)))) rfl ?_
            exact az_E.forget (L := [.ref 3, .retAddr 0, .int a2, .int (-2 : Int32), .int (0 : Int32), .int (0 : Int32), .retAddr 0]) ⟨rfl, trivial, rfl, rfl, rfl, rfl, trivial, trivial⟩ (re_X_next_35_16_21 (I := I_6) (J := J) (R := R) hR_3_2 hR_3_3 h hQ)
      · rw [if_neg hc_3] at h
        refine az_E.sn 2 (pc' := 6) (L' := [.int a2]) (S' := [.int (1 : Int32), .int a2]) (σ' := (97, I, J, R)) rfl ?_
        refine az_E.br (c := a2 = (1 : Int32)) (tt := 9) (ff := 13) (L' := [.int a2]) (S' := []) (σ' := (97, I, J, R)) rfl (fun hc_15 => ?_) (fun hc_15 => ?_)
        · rw [if_pos hc_15] at h
          refine az_E.sn 2 (pc' := 14) (L' := [.int a2]) (S' := [.int (1 : Int32)]) (σ' := (97, I, J, R)) rfl ?_
          refine az_E.ret (v := some (.int (1 : Int32))) (σ' := (97, I, J, R)) rfl ?_
          show az_E az_F ex 6 104 12 [.ref 3, .int a1, .int a2, .retAddr 0, .retAddr 0, .retAddr 0, .retAddr 0] [.int (1 : Int32)] (97, I, J, R) _
          refine az_E.br (c := (1 : Int32) = 0) (tt := 15) (ff := 17) (L' := [.ref 3, .int a1, .int a2, .retAddr 0, .retAddr 0, .retAddr 0, .retAddr 0]) (S' := []) (σ' := (97, I, J, R)) rfl (fun hn => absurd hn (by decide)) (fun _ => ?_)
          refine az_E.sn 2 (pc' := 19) (L' := [.ref 3, .int a1, .int a2, .retAddr 0, .retAddr 0, .retAddr 0, .retAddr 0]) (S' := [.int a1, .ref 3]) (σ' := (97, I, J, R)) rfl ?_
          cases hx_17 : rs_X_setPace 16 I a1 with
          | none => rw [hx_17] at h; cases h
          | some I_16 =>
            rw [hx_17] at h
            dsimp only at h
            refine az_E.call (d := 5) (k' := 144) (vs := [.ref 3, .int a1]) (pc' := 22) (S' := []) (Q1 := fun v s => v = none ∧ s = (97, I_16, J, (az_u (az_u R 26 2 (some 16)) 26 3 (some 5)))) rfl (az_E.deep (by omega) (re_X_setPace_16 (J := J) (R := R) hR_3_2 hx_17 ⟨rfl, rfl⟩)) (fun v s hq => ?_)
            obtain ⟨rfl, rfl⟩ := hq
            show az_E az_F ex 6 104 22 [.ref 3, .int a1, .int a2, .retAddr 0, .retAddr 0, .retAddr 0, .retAddr 0] [] (97, I_16, J, (az_u (az_u R 26 2 (some 16)) 26 3 (some 5))) _
            refine az_E.sn 1 (pc' := 23) (L' := [.ref 3, .int a1, .int a2, .retAddr 0, .retAddr 0, .retAddr 0, .retAddr 0]) (S' := [.ref 3]) (σ' := (97, I_16, J, (az_u (az_u R 26 2 (some 16)) 26 3 (some 5)))) rfl ?_
            cases hx_19 : rs_X_fillArmsByHeart 16 I_16 with
            | none => rw [hx_19] at h; cases h
            | some I_18 =>
              rw [hx_19] at h
              dsimp only at h
              refine az_E.call (d := 5) (k' := 148) (vs := [.ref 3]) (pc' := 26) (S' := []) (Q1 := fun v s => v = none ∧ s = (97, I_18, J, (az_u (az_u R 26 2 (some 16)) 26 3 (some 5)))) rfl (az_E.deep (by omega) (re_X_fillArmsByHeart_16_5 (J := J) (R := (az_u (az_u R 26 2 (some 16)) 26 3 (some 5))) rfl rfl hx_19 ⟨rfl, rfl⟩)) (fun v s hq => ?_)
              obtain ⟨rfl, rfl⟩ := hq
              show az_E az_F ex 6 104 26 [.ref 3, .int a1, .int a2, .retAddr 0, .retAddr 0, .retAddr 0, .retAddr 0] [] (97, I_18, J, (az_u (az_u R 26 2 (some 16)) 26 3 (some 5))) _
              refine az_E.sn 6 (pc' := 35) (L' := [.ref 3, .int a1, .int a2, .int (-2 : Int32), .int (0 : Int32), .int (0 : Int32), .retAddr 0]) (S' := []) (σ' := (97, I_18, J, (az_u (az_u R 26 2 (some 16)) 26 3 (some 5)))) rfl ?_
              exact az_E.forget (L := [.ref 3, .retAddr 0, .int a2, .int (-2 : Int32), .int (0 : Int32), .int (0 : Int32), .retAddr 0]) ⟨rfl, trivial, rfl, rfl, rfl, rfl, trivial, trivial⟩ (re_X_next_35_16_21 (I := I_18) (J := J) (R := R) hR_3_2 hR_3_3 h hQ)
        · rw [if_neg hc_15] at h
          refine az_E.sn 1 (pc' := 14) (L' := [.int a2]) (S' := [.int (0 : Int32)]) (σ' := (97, I, J, R)) rfl ?_
          refine az_E.ret (v := some (.int (0 : Int32))) (σ' := (97, I, J, R)) rfl ?_
          show az_E az_F ex 6 104 12 [.ref 3, .int a1, .int a2, .retAddr 0, .retAddr 0, .retAddr 0, .retAddr 0] [.int (0 : Int32)] (97, I, J, R) _
          refine az_E.br (c := (0 : Int32) = 0) (tt := 15) (ff := 17) (L' := [.ref 3, .int a1, .int a2, .retAddr 0, .retAddr 0, .retAddr 0, .retAddr 0]) (S' := []) (σ' := (97, I, J, R)) rfl (fun _ => ?_) (fun hn => absurd (by decide) hn)
          refine az_E.sn 1 (pc' := 16) (L' := [.ref 3, .int a1, .int a2, .retAddr 0, .retAddr 0, .retAddr 0, .retAddr 0]) (S' := [.int (-1 : Int32)]) (σ' := (97, I, J, R)) rfl ?_
          have h := Option.some.inj h
          subst h
          exact az_E.ret (v := some (.int (-1 : Int32))) (σ' := (97, I, J, R)) rfl (hQ _ hR_3_2 hR_3_3)
set_option maxRecDepth 100000 in
set_option maxHeartbeats 4000000 in
theorem re_M_next_164 {ex : az_X} {I : Nat → Nat → Int32} {J : Nat → Nat → Int64} {R : Nat → Nat → Option Nat} {v2 : Int32} {v3 : Int32} {v4 : Int32} {x : Int32 × (Nat → Nat → Int32)} (h : rs_M_next_164 I v2 v3 v4 = some x) {Q : Option Value → az_S → Prop} (hQ : Q (some (.int x.1)) (97, x.2, J, R)) : az_E az_F ex 125 217 164 [.retAddr 0, .retAddr 0, .int v2, .int v3, .int v4, .retAddr 0, .retAddr 0, .retAddr 0, .retAddr 0, .retAddr 0] [] (97, I, J, R) Q := by
  unfold rs_M_next_164 at h
  refine az_E.sn 1 (pc' := 165) (L' := [.retAddr 0, .retAddr 0, .int v2, .int v3, .int v4, .retAddr 0, .retAddr 0, .retAddr 0, .retAddr 0, .retAddr 0]) (S' := [.int v2]) (σ' := (97, I, J, R)) rfl ?_
  refine az_E.br (c := v2 = 0) (tt := 168) (ff := 172) (L' := [.retAddr 0, .retAddr 0, .int v2, .int v3, .int v4, .retAddr 0, .retAddr 0, .retAddr 0, .retAddr 0, .retAddr 0]) (S' := []) (σ' := (97, I, J, R)) rfl (fun hc_6 => ?_) (fun hc_6 => ?_)
  · rw [if_pos hc_6] at h
    refine az_E.sn 2 (pc' := 174) (L' := [.retAddr 0, .retAddr 0, .int v2, .int v3, .int v4, .retAddr 0, .retAddr 0, .retAddr 0, .retAddr 0, .retAddr 0]) (S' := [.int v3]) (σ' := (97, I, J, R)) rfl ?_
    have h := Option.some.inj h
    subst h
    exact az_E.ret (v := some (.int v3)) (σ' := (97, I, J, R)) rfl hQ
  · rw [if_neg hc_6] at h
    refine az_E.sn 1 (pc' := 174) (L' := [.retAddr 0, .retAddr 0, .int v2, .int v3, .int v4, .retAddr 0, .retAddr 0, .retAddr 0, .retAddr 0, .retAddr 0]) (S' := [.int v4]) (σ' := (97, I, J, R)) rfl ?_
    have h := Option.some.inj h
    subst h
    exact az_E.ret (v := some (.int v4)) (σ' := (97, I, J, R)) rfl hQ
set_option maxRecDepth 100000 in
set_option maxHeartbeats 4000000 in
theorem re_M_next_140 {ex : az_X} {I : Nat → Nat → Int32} {J : Nat → Nat → Int64} {R : Nat → Nat → Option Nat} {v1 : Int32} {v2 : Int32} {v3 : Int32} {v4 : Int32} {v5 : Int32} {v6 : Int32} {x : ((Int32 × Int32 × Int32 × (Nat → Nat → Int32)) ⊕ (Int32 × (Nat → Nat → Int32)))} (h : rs_M_next_140 I v1 v2 v3 v4 v5 v6 = some x) {Q : Option Value → az_S → Prop} (hQ : Sum.elim (fun s => az_E az_F ex 125 217 31 [.ref 73, .int v1, .int v2, .int s.1, .int s.2.1, .int s.2.2.1, .retAddr 0, .retAddr 0, .retAddr 0, .retAddr 0] [] (97, s.2.2.2, J, R) Q) (fun x => Q (some (.int x.1)) (97, x.2, J, R)) x) : az_E az_F ex 125 217 140 [.ref 73, .int v1, .int v2, .int v3, .int v4, .int v5, .int v6, .retAddr 0, .retAddr 0, .retAddr 0] [] (97, I, J, R) Q := by
  unfold rs_M_next_140 at h
  refine az_E.sn 1 (pc' := 141) (L' := [.ref 73, .int v1, .int v2, .int v3, .int v4, .int v5, .int v6, .retAddr 0, .retAddr 0, .retAddr 0]) (S' := [.int v3]) (σ' := (97, I, J, R)) rfl ?_
  refine az_E.br (c := v3 < 0) (tt := 151) (ff := 144) (L' := [.ref 73, .int v1, .int v2, .int v3, .int v4, .int v5, .int v6, .retAddr 0, .retAddr 0, .retAddr 0]) (S' := []) (σ' := (97, I, J, R)) rfl (fun hc_8 => ?_) (fun hc_8 => ?_)
  · rw [if_pos hc_8] at h
    refine az_E.sn 6 (pc' := 31) (L' := [.ref 73, .int v1, .int v2, .int v5, .int v6, .int (v5 + (1 : Int32)), .int v6, .retAddr 0, .retAddr 0, .retAddr 0]) (S' := []) (σ' := (97, I, J, R)) rfl ?_
    have h := Option.some.inj h
    subst h
    exact az_E.forget (L := [.ref 73, .int v1, .int v2, .int v5, .int v6, .int (v5 + (1 : Int32)), .retAddr 0, .retAddr 0, .retAddr 0, .retAddr 0]) ⟨rfl, rfl, rfl, rfl, rfl, rfl, trivial, trivial, trivial, trivial, trivial⟩ hQ
  · rw [if_neg hc_8] at h
    refine az_E.sn 2 (pc' := 148) (L' := [.ref 73, .int v1, .int v2, .int v3, .int v4, .int v5, .int v6, .retAddr 0, .retAddr 0, .retAddr 0]) (S' := [.int v4, .int v6]) (σ' := (97, I, J, R)) rfl ?_
    refine az_E.br (c := v4 ≤ v6) (tt := 158) (ff := 151) (L' := [.ref 73, .int v1, .int v2, .int v3, .int v4, .int v5, .int v6, .retAddr 0, .retAddr 0, .retAddr 0]) (S' := []) (σ' := (97, I, J, R)) rfl (fun hc_9 => ?_) (fun hc_9 => ?_)
    · rw [if_pos hc_9] at h
      refine az_E.sn 2 (pc' := 31) (L' := [.ref 73, .int v1, .int v2, .int v3, .int v4, .int (v5 + (1 : Int32)), .int v6, .retAddr 0, .retAddr 0, .retAddr 0]) (S' := []) (σ' := (97, I, J, R)) rfl ?_
      have h := Option.some.inj h
      subst h
      exact az_E.forget (L := [.ref 73, .int v1, .int v2, .int v3, .int v4, .int (v5 + (1 : Int32)), .retAddr 0, .retAddr 0, .retAddr 0, .retAddr 0]) ⟨rfl, rfl, rfl, rfl, rfl, rfl, trivial, trivial, trivial, trivial, trivial⟩ hQ
    · rw [if_neg hc_9] at h
      refine az_E.sn 6 (pc' := 31) (L' := [.ref 73, .int v1, .int v2, .int v5, .int v6, .int (v5 + (1 : Int32)), .int v6, .retAddr 0, .retAddr 0, .retAddr 0]) (S' := []) (σ' := (97, I, J, R)) rfl ?_
      have h := Option.some.inj h
      subst h
      exact az_E.forget (L := [.ref 73, .int v1, .int v2, .int v5, .int v6, .int (v5 + (1 : Int32)), .retAddr 0, .retAddr 0, .retAddr 0, .retAddr 0]) ⟨rfl, rfl, rfl, rfl, rfl, rfl, trivial, trivial, trivial, trivial, trivial⟩ hQ
set_option maxRecDepth 100000 in
set_option maxHeartbeats 4000000 in
theorem re_M_next_118 {ex : az_X} {I : Nat → Nat → Int32} {J : Nat → Nat → Int64} {R : Nat → Nat → Option Nat} {v1 : Int32} {v2 : Int32} {v3 : Int32} {v4 : Int32} {v5 : Int32} {v6 : Int32} {v7 : Int32} {v8 : Int32} {x : ((Int32 × Int32 × (Nat → Nat → Int32)) ⊕ (((Int32 × Int32 × Int32 × (Nat → Nat → Int32)) ⊕ (Int32 × (Nat → Nat → Int32)))))} (h : rs_M_next_118 I v1 v2 v3 v4 v5 v6 v7 v8 = some x) {Q : Option Value → az_S → Prop} (hQ : Sum.elim (fun s => az_E az_F ex 125 217 46 [.ref 73, .int v1, .int v2, .int v3, .int v4, .int v5, .int s.1, .int s.2.1, .retAddr 0, .retAddr 0] [] (97, s.2.2, J, R) Q) (fun x => Sum.elim (fun s => az_E az_F ex 125 217 31 [.ref 73, .int v1, .int v2, .int s.1, .int s.2.1, .int s.2.2.1, .retAddr 0, .retAddr 0, .retAddr 0, .retAddr 0] [] (97, s.2.2.2, J, R) Q) (fun x => Q (some (.int x.1)) (97, x.2, J, R)) x) x) : az_E az_F ex 125 217 118 [.ref 73, .int v1, .int v2, .int v3, .int v4, .int v5, .int v6, .int v7, .int v8, .retAddr 0] [] (97, I, J, R) Q := by
  unfold rs_M_next_118 at h
  refine az_E.sn 2 (pc' := 122) (L' := [.ref 73, .int v1, .int v2, .int v3, .int v4, .int v5, .int v6, .int v7, .int v8, .retAddr 0]) (S' := [.int v6, .int v8]) (σ' := (97, I, J, R)) rfl ?_
  refine az_E.br (c := v8 ≤ v6) (tt := 130) (ff := 125) (L' := [.ref 73, .int v1, .int v2, .int v3, .int v4, .int v5, .int v6, .int v7, .int v8, .retAddr 0]) (S' := []) (σ' := (97, I, J, R)) rfl (fun hc_15 => ?_) (fun hc_15 => ?_)
  · rw [if_pos hc_15] at h
    refine az_E.sn 4 (pc' := 46) (L' := [.ref 73, .int v1, .int v2, .int v3, .int v4, .int v5, .int v6, .int (v7 + (1 : Int32)), .int v8, .retAddr 0]) (S' := []) (σ' := (97, I, J, R)) rfl ?_
    have h := Option.some.inj h
    subst h
    exact az_E.forget (L := [.ref 73, .int v1, .int v2, .int v3, .int v4, .int v5, .int v6, .int (v7 + (1 : Int32)), .retAddr 0, .retAddr 0]) ⟨rfl, rfl, rfl, rfl, rfl, rfl, rfl, rfl, trivial, trivial, trivial⟩ hQ
  · rw [if_neg hc_15] at h
    refine az_E.sn 5 (pc' := 46) (L' := [.ref 73, .int v1, .int v2, .int v3, .int v4, .int v5, .int v8, .int (v7 + (1 : Int32)), .int v8, .retAddr 0]) (S' := []) (σ' := (97, I, J, R)) rfl ?_
    have h := Option.some.inj h
    subst h
    exact az_E.forget (L := [.ref 73, .int v1, .int v2, .int v3, .int v4, .int v5, .int v8, .int (v7 + (1 : Int32)), .retAddr 0, .retAddr 0]) ⟨rfl, rfl, rfl, rfl, rfl, rfl, rfl, rfl, trivial, trivial, trivial⟩ hQ
set_option maxRecDepth 100000 in
set_option maxHeartbeats 4000000 in
theorem re_M_next_78_b {ex : az_X} {I : Nat → Nat → Int32} {J : Nat → Nat → Int64} {R : Nat → Nat → Option Nat} {v1 : Int32} {v2 : Int32} {v3 : Int32} {v4 : Int32} {v5 : Int32} {v6 : Int32} {v7 : Int32} {v8 : Int32} {v9 : Int32} {x : ((Int32 × Int32) ⊕ (((Int32 × Int32 × (Nat → Nat → Int32)) ⊕ (((Int32 × Int32 × Int32 × (Nat → Nat → Int32)) ⊕ (Int32 × (Nat → Nat → Int32)))))))} (h : rs_M_next_78_b I v1 v2 v3 v4 v5 v6 v7 v8 v9 = some x) {Q : Option Value → az_S → Prop} (hQ : Sum.elim (fun s => az_E az_F ex 125 217 78 [.ref 73, .int v1, .int v2, .int v3, .int v4, .int v5, .int v6, .int v7, .int s.1, .int s.2] [] (97, I, J, R) Q) (fun x => Sum.elim (fun s => az_E az_F ex 125 217 46 [.ref 73, .int v1, .int v2, .int v3, .int v4, .int v5, .int s.1, .int s.2.1, .retAddr 0, .retAddr 0] [] (97, s.2.2, J, R) Q) (fun x => Sum.elim (fun s => az_E az_F ex 125 217 31 [.ref 73, .int v1, .int v2, .int s.1, .int s.2.1, .int s.2.2.1, .retAddr 0, .retAddr 0, .retAddr 0, .retAddr 0] [] (97, s.2.2.2, J, R) Q) (fun x => Q (some (.int x.1)) (97, x.2, J, R)) x) x) x) : az_E az_F ex 125 217 78 [.ref 73, .int v1, .int v2, .int v3, .int v4, .int v5, .int v6, .int v7, .int v8, .int v9] [] (97, I, J, R) Q := by
  unfold rs_M_next_78_b at h
  refine az_E.sn 2 (pc' := 82) (L' := [.ref 73, .int v1, .int v2, .int v3, .int v4, .int v5, .int v6, .int v7, .int v8, .int v9]) (S' := [.int v7, .int v9]) (σ' := (97, I, J, R)) rfl ?_
  refine az_E.br (c := v7 < v9) (tt := 118) (ff := 85) (L' := [.ref 73, .int v1, .int v2, .int v3, .int v4, .int v5, .int v6, .int v7, .int v8, .int v9]) (S' := []) (σ' := (97, I, J, R)) rfl (fun hc_14 => ?_) (fun hc_14 => ?_)
  · rw [if_pos hc_14] at h
    obtain ⟨x, hx, rfl⟩ := Option.map_eq_some_iff.mp h
    exact az_E.forget (L := [.ref 73, .int v1, .int v2, .int v3, .int v4, .int v5, .int v6, .int v7, .int v8, .retAddr 0]) ⟨rfl, rfl, rfl, rfl, rfl, rfl, rfl, rfl, rfl, trivial, trivial⟩ (re_M_next_118 (I := I) (J := J) (R := R)  hx hQ)
  · rw [if_neg hc_14] at h
    refine az_E.sn 4 (pc' := 93) (L' := [.ref 73, .int v1, .int v2, .int v3, .int v4, .int v5, .int v6, .int v7, .int v8, .int v9]) (S' := [.int v9, .ref 90, .int v8]) (σ' := (97, I, J, R)) rfl ?_
    by_cases hc_16 : v9 < 0 ∨ 19 ≤ v9.toNatClampNeg
    · rw [if_pos hc_16] at h; cases h
    · rw [if_neg hc_16] at h
      refine az_E.oi (o := az_ai az_F ex (97, I, J, R) 90 v9) (pc' := 94) (L' := [.ref 73, .int v1, .int v2, .int v3, .int v4, .int v5, .int v6, .int v7, .int v8, .int v9]) (S' := [.int v8]) (σ' := (97, I, J, R)) (x := (I 90 v9.toNatClampNeg)) rfl (if_neg hc_16) ?_
      refine az_E.sn 3 (pc' := 100) (L' := [.ref 73, .int v1, .int v2, .int v3, .int v4, .int v5, .int v6, .int v7, .int v8, .int v9]) (S' := [.int v7, .ref 90, .int (I 90 v9.toNatClampNeg), .int v8]) (σ' := (97, I, J, R)) rfl ?_
      by_cases hc_17 : v7 < 0 ∨ 19 ≤ v7.toNatClampNeg
      · rw [if_pos hc_17] at h; cases h
      · rw [if_neg hc_17] at h
        refine az_E.oi (o := az_ai az_F ex (97, I, J, R) 90 v7) (pc' := 101) (L' := [.ref 73, .int v1, .int v2, .int v3, .int v4, .int v5, .int v6, .int v7, .int v8, .int v9]) (S' := [.int (I 90 v9.toNatClampNeg), .int v8]) (σ' := (97, I, J, R)) (x := (I 90 v7.toNatClampNeg)) rfl (if_neg hc_17) ?_
        refine az_E.br (c := (I 90 v9.toNatClampNeg) = (I 90 v7.toNatClampNeg)) (tt := 104) (ff := 108) (L' := [.ref 73, .int v1, .int v2, .int v3, .int v4, .int v5, .int v6, .int v7, .int v8, .int v9]) (S' := [.int v8]) (σ' := (97, I, J, R)) rfl (fun hc_18 => ?_) (fun hc_18 => ?_)
        · rw [if_pos hc_18] at h
          refine az_E.sn 6 (pc' := 78) (L' := [.ref 73, .int v1, .int v2, .int v3, .int v4, .int v5, .int v6, .int v7, .int (v8 + (1 : Int32)), .int (v9 + (1 : Int32))]) (S' := []) (σ' := (97, I, J, R)) rfl ?_
          have h := Option.some.inj h
          subst h
          exact az_E.forget (L := [.ref 73, .int v1, .int v2, .int v3, .int v4, .int v5, .int v6, .int v7, .int (v8 + (1 : Int32)), .int (v9 + (1 : Int32))]) ⟨rfl, rfl, rfl, rfl, rfl, rfl, rfl, rfl, rfl, rfl, trivial⟩ hQ
        · rw [if_neg hc_18] at h
          refine az_E.sn 5 (pc' := 78) (L' := [.ref 73, .int v1, .int v2, .int v3, .int v4, .int v5, .int v6, .int v7, .int (v8 + (0 : Int32)), .int (v9 + (1 : Int32))]) (S' := []) (σ' := (97, I, J, R)) rfl ?_
          have h := Option.some.inj h
          subst h
          exact az_E.forget (L := [.ref 73, .int v1, .int v2, .int v3, .int v4, .int v5, .int v6, .int v7, .int (v8 + (0 : Int32)), .int (v9 + (1 : Int32))]) ⟨rfl, rfl, rfl, rfl, rfl, rfl, rfl, rfl, rfl, rfl, trivial⟩ hQ
set_option maxRecDepth 100000 in
set_option maxHeartbeats 4000000 in
theorem re_M_next_78 {ex : az_X} {I : Nat → Nat → Int32} {J : Nat → Nat → Int64} {R : Nat → Nat → Option Nat} {v1 : Int32} {v2 : Int32} {v3 : Int32} {v4 : Int32} {v5 : Int32} {v6 : Int32} {v7 : Int32} {v8 : Int32} {v9 : Int32} {x : ((Int32 × Int32 × (Nat → Nat → Int32)) ⊕ (((Int32 × Int32 × Int32 × (Nat → Nat → Int32)) ⊕ (Int32 × (Nat → Nat → Int32)))))} (h : rs_M_next_78 I v1 v2 v3 v4 v5 v6 v7 v8 v9 = some x) {Q : Option Value → az_S → Prop} (hQ : Sum.elim (fun s => az_E az_F ex 125 217 46 [.ref 73, .int v1, .int v2, .int v3, .int v4, .int v5, .int s.1, .int s.2.1, .retAddr 0, .retAddr 0] [] (97, s.2.2, J, R) Q) (fun x => Sum.elim (fun s => az_E az_F ex 125 217 31 [.ref 73, .int v1, .int v2, .int s.1, .int s.2.1, .int s.2.2.1, .retAddr 0, .retAddr 0, .retAddr 0, .retAddr 0] [] (97, s.2.2.2, J, R) Q) (fun x => Q (some (.int x.1)) (97, x.2, J, R)) x) x) : az_E az_F ex 125 217 78 [.ref 73, .int v1, .int v2, .int v3, .int v4, .int v5, .int v6, .int v7, .int v8, .int v9] [] (97, I, J, R) Q := by
  unfold rs_M_next_78 at h
  refine az_lp_E (G := fun s => az_E az_F ex 125 217 78 [.ref 73, .int v1, .int v2, .int v3, .int v4, .int v5, .int v6, .int v7, .int s.1, .int s.2] [] (97, I, J, R) Q) (H := fun x => Sum.elim (fun s => az_E az_F ex 125 217 46 [.ref 73, .int v1, .int v2, .int v3, .int v4, .int v5, .int s.1, .int s.2.1, .retAddr 0, .retAddr 0] [] (97, s.2.2, J, R) Q) (fun x => Sum.elim (fun s => az_E az_F ex 125 217 31 [.ref 73, .int v1, .int v2, .int s.1, .int s.2.1, .int s.2.2.1, .retAddr 0, .retAddr 0, .retAddr 0, .retAddr 0] [] (97, s.2.2.2, J, R) Q) (fun x => Q (some (.int x.1)) (97, x.2, J, R)) x) x) (fun s o hb ho => ?_) _ _ _ h hQ
  exact re_M_next_78_b  hb ho
set_option maxRecDepth 100000 in
set_option maxHeartbeats 4000000 in
theorem re_M_next_46_b {ex : az_X} {I : Nat → Nat → Int32} {J : Nat → Nat → Int64} {R : Nat → Nat → Option Nat} {v1 : Int32} {v2 : Int32} {v3 : Int32} {v4 : Int32} {v5 : Int32} {v6 : Int32} {v7 : Int32} {x : ((Int32 × Int32 × (Nat → Nat → Int32)) ⊕ (((Int32 × Int32 × Int32 × (Nat → Nat → Int32)) ⊕ (Int32 × (Nat → Nat → Int32)))))} (h : rs_M_next_46_b v1 v2 v3 v4 v5 v6 v7 I = some x) {Q : Option Value → az_S → Prop} (hQ : Sum.elim (fun s => az_E az_F ex 125 217 46 [.ref 73, .int v1, .int v2, .int v3, .int v4, .int v5, .int s.1, .int s.2.1, .retAddr 0, .retAddr 0] [] (97, s.2.2, J, R) Q) (fun x => Sum.elim (fun s => az_E az_F ex 125 217 31 [.ref 73, .int v1, .int v2, .int s.1, .int s.2.1, .int s.2.2.1, .retAddr 0, .retAddr 0, .retAddr 0, .retAddr 0] [] (97, s.2.2.2, J, R) Q) (fun x => Q (some (.int x.1)) (97, x.2, J, R)) x) x) : az_E az_F ex 125 217 46 [.ref 73, .int v1, .int v2, .int v3, .int v4, .int v5, .int v6, .int v7, .retAddr 0, .retAddr 0] [] (97, I, J, R) Q := by
  unfold rs_M_next_46_b at h
  refine az_E.sn 2 (pc' := 50) (L' := [.ref 73, .int v1, .int v2, .int v3, .int v4, .int v5, .int v6, .int v7, .retAddr 0, .retAddr 0]) (S' := [.int (19 : Int32), .int v7]) (σ' := (97, I, J, R)) rfl ?_
  refine az_E.br (c := (19 : Int32) ≤ v7) (tt := 140) (ff := 53) (L' := [.ref 73, .int v1, .int v2, .int v3, .int v4, .int v5, .int v6, .int v7, .retAddr 0, .retAddr 0]) (S' := []) (σ' := (97, I, J, R)) rfl (fun hc_7 => ?_) (fun hc_7 => ?_)
  · rw [if_pos hc_7] at h
    obtain ⟨x, hx, rfl⟩ := Option.map_eq_some_iff.mp h
    exact az_E.forget (L := [.ref 73, .int v1, .int v2, .int v3, .int v4, .int v5, .int v6, .retAddr 0, .retAddr 0, .retAddr 0]) ⟨rfl, rfl, rfl, rfl, rfl, rfl, rfl, trivial, trivial, trivial, trivial⟩ (re_M_next_140 (I := I) (J := J) (R := R)  hx hQ)
  · rw [if_neg hc_7] at h
    refine az_E.sn 9 (pc' := 68) (L' := [.ref 73, .int v1, .int v2, .int v3, .int v4, .int v5, .int v6, .int v7, .retAddr 0, .retAddr 0]) (S' := [.int (v7 - (9 : Int32)), .int v1, .int v5, .ref 73, .int v7, .ref 90]) (σ' := (97, I, J, R)) rfl ?_
    cases hx_12 : rs_M_armBy I v5 v1 (v7 - (9 : Int32)) with
    | none => rw [hx_12] at h; cases h
    | some o =>
      rw [hx_12] at h
      obtain ⟨x_10, I_11⟩ := o
      dsimp only at h
      refine az_E.call (d := 124) (k' := 214) (vs := [.ref 73, .int v5, .int v1, .int (v7 - (9 : Int32))]) (pc' := 71) (S' := [.int v7, .ref 90]) (Q1 := fun v s => v = some (.int x_10) ∧ s = (97, I_11, J, R)) rfl (az_E.deep (by omega) (re_M_armBy (J := J) (R := R)  hx_12 ⟨rfl, rfl⟩)) (fun v s hq => ?_)
      obtain ⟨rfl, rfl⟩ := hq
      show az_E az_F ex 125 217 71 [.ref 73, .int v1, .int v2, .int v3, .int v4, .int v5, .int v6, .int v7, .retAddr 0, .retAddr 0] [.int x_10, .int v7, .ref 90] (97, I_11, J, R) _
      by_cases hc_13 : v7 < 0 ∨ 19 ≤ v7.toNatClampNeg
      · rw [if_pos hc_13] at h; cases h
      · rw [if_neg hc_13] at h
        refine az_E.o (o := az_si az_F (97, I_11, J, R) 90 v7 x_10) (pc' := 72) (L' := [.ref 73, .int v1, .int v2, .int v3, .int v4, .int v5, .int v6, .int v7, .retAddr 0, .retAddr 0]) (S' := []) (x := (97, (az_u I_11 90 v7.toNatClampNeg x_10), J, R)) rfl (if_neg hc_13) ?_
        refine az_E.sn 4 (pc' := 78) (L' := [.ref 73, .int v1, .int v2, .int v3, .int v4, .int v5, .int v6, .int v7, .int (0 : Int32), .int (0 : Int32)]) (S' := []) (σ' := (97, (az_u I_11 90 v7.toNatClampNeg x_10), J, R)) rfl ?_
        exact az_E.forget (L := [.ref 73, .int v1, .int v2, .int v3, .int v4, .int v5, .int v6, .int v7, .int (0 : Int32), .int (0 : Int32)]) ⟨rfl, rfl, rfl, rfl, rfl, rfl, rfl, rfl, rfl, rfl, trivial⟩ (re_M_next_78 (I := (az_u I_11 90 v7.toNatClampNeg x_10)) (J := J) (R := R)  h hQ)
set_option maxRecDepth 100000 in
set_option maxHeartbeats 4000000 in
theorem re_M_next_46 {ex : az_X} {I : Nat → Nat → Int32} {J : Nat → Nat → Int64} {R : Nat → Nat → Option Nat} {v1 : Int32} {v2 : Int32} {v3 : Int32} {v4 : Int32} {v5 : Int32} {v6 : Int32} {v7 : Int32} {x : ((Int32 × Int32 × Int32 × (Nat → Nat → Int32)) ⊕ (Int32 × (Nat → Nat → Int32)))} (h : rs_M_next_46 I v1 v2 v3 v4 v5 v6 v7 = some x) {Q : Option Value → az_S → Prop} (hQ : Sum.elim (fun s => az_E az_F ex 125 217 31 [.ref 73, .int v1, .int v2, .int s.1, .int s.2.1, .int s.2.2.1, .retAddr 0, .retAddr 0, .retAddr 0, .retAddr 0] [] (97, s.2.2.2, J, R) Q) (fun x => Q (some (.int x.1)) (97, x.2, J, R)) x) : az_E az_F ex 125 217 46 [.ref 73, .int v1, .int v2, .int v3, .int v4, .int v5, .int v6, .int v7, .retAddr 0, .retAddr 0] [] (97, I, J, R) Q := by
  unfold rs_M_next_46 at h
  refine az_lp_E (G := fun s => az_E az_F ex 125 217 46 [.ref 73, .int v1, .int v2, .int v3, .int v4, .int v5, .int s.1, .int s.2.1, .retAddr 0, .retAddr 0] [] (97, s.2.2, J, R) Q) (H := fun x => Sum.elim (fun s => az_E az_F ex 125 217 31 [.ref 73, .int v1, .int v2, .int s.1, .int s.2.1, .int s.2.2.1, .retAddr 0, .retAddr 0, .retAddr 0, .retAddr 0] [] (97, s.2.2.2, J, R) Q) (fun x => Q (some (.int x.1)) (97, x.2, J, R)) x) (fun s o hb ho => ?_) _ _ _ h hQ
  exact re_M_next_46_b  hb ho
set_option maxRecDepth 100000 in
set_option maxHeartbeats 4000000 in
theorem re_M_next_31_b {ex : az_X} {I : Nat → Nat → Int32} {J : Nat → Nat → Int64} {R : Nat → Nat → Option Nat} {v1 : Int32} {v2 : Int32} {v3 : Int32} {v4 : Int32} {v5 : Int32} {x : ((Int32 × Int32 × Int32 × (Nat → Nat → Int32)) ⊕ (Int32 × (Nat → Nat → Int32)))} (h : rs_M_next_31_b v1 v2 v3 v4 v5 I = some x) {Q : Option Value → az_S → Prop} (hQ : Sum.elim (fun s => az_E az_F ex 125 217 31 [.ref 73, .int v1, .int v2, .int s.1, .int s.2.1, .int s.2.2.1, .retAddr 0, .retAddr 0, .retAddr 0, .retAddr 0] [] (97, s.2.2.2, J, R) Q) (fun x => Q (some (.int x.1)) (97, x.2, J, R)) x) : az_E az_F ex 125 217 31 [.ref 73, .int v1, .int v2, .int v3, .int v4, .int v5, .retAddr 0, .retAddr 0, .retAddr 0, .retAddr 0] [] (97, I, J, R) Q := by
  unfold rs_M_next_31_b at h
  refine az_E.sn 3 (pc' := 37) (L' := [.ref 73, .int v1, .int v2, .int v3, .int v4, .int v5, .retAddr 0, .retAddr 0, .retAddr 0, .retAddr 0]) (S' := [.int (I 73 6), .int v5]) (σ' := (97, I, J, R)) rfl ?_
  refine az_E.br (c := (I 73 6) ≤ v5) (tt := 164) (ff := 40) (L' := [.ref 73, .int v1, .int v2, .int v3, .int v4, .int v5, .retAddr 0, .retAddr 0, .retAddr 0, .retAddr 0]) (S' := []) (σ' := (97, I, J, R)) rfl (fun hc_5 => ?_) (fun hc_5 => ?_)
  · rw [if_pos hc_5] at h
    obtain ⟨x, hx, rfl⟩ := Option.map_eq_some_iff.mp h
    exact az_E.forget (L := [.retAddr 0, .retAddr 0, .int v2, .int v3, .int v4, .retAddr 0, .retAddr 0, .retAddr 0, .retAddr 0, .retAddr 0]) ⟨trivial, trivial, rfl, rfl, rfl, trivial, trivial, trivial, trivial, trivial, trivial⟩ (re_M_next_164 (I := I) (J := J) (R := R)  hx hQ)
  · rw [if_neg hc_5] at h
    refine az_E.sn 4 (pc' := 46) (L' := [.ref 73, .int v1, .int v2, .int v3, .int v4, .int v5, .int (0 : Int32), .int (0 : Int32), .retAddr 0, .retAddr 0]) (S' := []) (σ' := (97, I, J, R)) rfl ?_
    exact az_E.forget (L := [.ref 73, .int v1, .int v2, .int v3, .int v4, .int v5, .int (0 : Int32), .int (0 : Int32), .retAddr 0, .retAddr 0]) ⟨rfl, rfl, rfl, rfl, rfl, rfl, rfl, rfl, trivial, trivial, trivial⟩ (re_M_next_46 (I := I) (J := J) (R := R)  h hQ)
set_option maxRecDepth 100000 in
set_option maxHeartbeats 4000000 in
theorem re_M_next_31 {ex : az_X} {I : Nat → Nat → Int32} {J : Nat → Nat → Int64} {R : Nat → Nat → Option Nat} {v1 : Int32} {v2 : Int32} {v3 : Int32} {v4 : Int32} {v5 : Int32} {x : Int32 × (Nat → Nat → Int32)} (h : rs_M_next_31 I v1 v2 v3 v4 v5 = some x) {Q : Option Value → az_S → Prop} (hQ : Q (some (.int x.1)) (97, x.2, J, R)) : az_E az_F ex 125 217 31 [.ref 73, .int v1, .int v2, .int v3, .int v4, .int v5, .retAddr 0, .retAddr 0, .retAddr 0, .retAddr 0] [] (97, I, J, R) Q := by
  unfold rs_M_next_31 at h
  refine az_lp_E (G := fun s => az_E az_F ex 125 217 31 [.ref 73, .int v1, .int v2, .int s.1, .int s.2.1, .int s.2.2.1, .retAddr 0, .retAddr 0, .retAddr 0, .retAddr 0] [] (97, s.2.2.2, J, R) Q) (H := fun x => Q (some (.int x.1)) (97, x.2, J, R)) (fun s o hb ho => ?_) _ _ _ h hQ
  exact re_M_next_31_b  hb ho
set_option maxRecDepth 100000 in
set_option maxHeartbeats 4000000 in
theorem re_M_next {ex : az_X} {I : Nat → Nat → Int32} {J : Nat → Nat → Int64} {R : Nat → Nat → Option Nat} {a1 : Int32} {a2 : Int32} {o : Int32 × (Nat → Nat → Int32)} (h : rs_M_next I a1 a2 = some o) {Q : Option Value → az_S → Prop} (hQ : Q (some (.int o.1)) (97, o.2, J, R)) : az_E az_F ex 125 217 0 [.ref 73, .int a1, .int a2, .retAddr 0, .retAddr 0, .retAddr 0, .retAddr 0, .retAddr 0, .retAddr 0, .retAddr 0] [] (97, I, J, R) Q := by
  unfold rs_M_next at h
  refine az_E.sn 3 (pc' := 3) (L' := [.ref 73, .int a1, .int a2, .retAddr 0, .retAddr 0, .retAddr 0, .retAddr 0, .retAddr 0, .retAddr 0, .retAddr 0]) (S' := [.long a1.toInt64, .ref 73]) (σ' := (97, I, J, R)) rfl ?_
  refine az_E.call (d := 124) (k' := 162) (vs := [.ref 73, .long a1.toInt64]) (pc' := 6) (S' := []) rfl ?_ (fun _ _ hq => hq)
  show az_E az_F ex 124 162 0 [.ref 73, .long a1.toInt64, .retAddr 0] [] (97, I, J, R) _
  refine az_E.sn 7 (pc' := 9) (L' := [.ref 73, .long a1.toInt64, .retAddr 0]) (S' := [.long ((I 73 7) - (1 : Int32)).toInt64, .long (0 : Int64), .long a1.toInt64]) (σ' := (97, I, J, R)) rfl ?_
  refine az_E.call (d := 123) (k' := 154) (vs := [.long a1.toInt64, .long (0 : Int64), .long ((I 73 7) - (1 : Int32)).toInt64]) (pc' := 12) (S' := []) rfl ?_ (fun _ _ hq => hq)
  show az_E az_F ex 123 154 0 [.long a1.toInt64, .retAddr 0, .long (0 : Int64), .retAddr 0, .long ((I 73 7) - (1 : Int32)).toInt64, .retAddr 0] [] (97, I, J, R) _
  refine az_E.sn 3 (pc' := 3) (L' := [.long a1.toInt64, .retAddr 0, .long (0 : Int64), .retAddr 0, .long ((I 73 7) - (1 : Int32)).toInt64, .retAddr 0]) (S' := [.int (lg_cmp a1.toInt64 (0 : Int64))]) (σ' := (97, I, J, R)) rfl ?_
  refine az_E.br (c := (lg_cmp a1.toInt64 (0 : Int64)) < 0) (tt := 17) (ff := 6) (L' := [.long a1.toInt64, .retAddr 0, .long (0 : Int64), .retAddr 0, .long ((I 73 7) - (1 : Int32)).toInt64, .retAddr 0]) (S' := []) (σ' := (97, I, J, R)) rfl (fun hc_1 => ?_) (fun hc_1 => ?_)
  · rw [if_pos hc_1] at h
    refine az_E.sn 1 (pc' := 18) (L' := [.long a1.toInt64, .retAddr 0, .long (0 : Int64), .retAddr 0, .long ((I 73 7) - (1 : Int32)).toInt64, .retAddr 0]) (S' := [.int (0 : Int32)]) (σ' := (97, I, J, R)) rfl ?_
    refine az_E.ret (v := some (.int (0 : Int32))) (σ' := (97, I, J, R)) rfl ?_
    show az_E az_F ex 124 162 12 [.ref 73, .long a1.toInt64, .retAddr 0] [.int (0 : Int32)] (97, I, J, R) _
    refine az_E.ret (v := some (.int (0 : Int32))) (σ' := (97, I, J, R)) rfl ?_
    show az_E az_F ex 125 217 6 [.ref 73, .int a1, .int a2, .retAddr 0, .retAddr 0, .retAddr 0, .retAddr 0, .retAddr 0, .retAddr 0, .retAddr 0] [.int (0 : Int32)] (97, I, J, R) _
    refine az_E.br (c := (0 : Int32) = 0) (tt := 19) (ff := 9) (L' := [.ref 73, .int a1, .int a2, .retAddr 0, .retAddr 0, .retAddr 0, .retAddr 0, .retAddr 0, .retAddr 0, .retAddr 0]) (S' := []) (σ' := (97, I, J, R)) rfl (fun _ => ?_) (fun hn => absurd (by decide) hn)
    refine az_E.sn 1 (pc' := 20) (L' := [.ref 73, .int a1, .int a2, .retAddr 0, .retAddr 0, .retAddr 0, .retAddr 0, .retAddr 0, .retAddr 0, .retAddr 0]) (S' := [.int (-1 : Int32)]) (σ' := (97, I, J, R)) rfl ?_
    have h := Option.some.inj h
    subst h
    exact az_E.ret (v := some (.int (-1 : Int32))) (σ' := (97, I, J, R)) rfl hQ
  · rw [if_neg hc_1] at h
    refine az_E.sn 3 (pc' := 10) (L' := [.long a1.toInt64, .retAddr 0, .long (0 : Int64), .retAddr 0, .long ((I 73 7) - (1 : Int32)).toInt64, .retAddr 0]) (S' := [.int (lg_cmp a1.toInt64 ((I 73 7) - (1 : Int32)).toInt64)]) (σ' := (97, I, J, R)) rfl ?_
    refine az_E.br (c := 0 < (lg_cmp a1.toInt64 ((I 73 7) - (1 : Int32)).toInt64)) (tt := 17) (ff := 13) (L' := [.long a1.toInt64, .retAddr 0, .long (0 : Int64), .retAddr 0, .long ((I 73 7) - (1 : Int32)).toInt64, .retAddr 0]) (S' := []) (σ' := (97, I, J, R)) rfl (fun hc_2 => ?_) (fun hc_2 => ?_)
    · rw [if_pos hc_2] at h
      refine az_E.sn 1 (pc' := 18) (L' := [.long a1.toInt64, .retAddr 0, .long (0 : Int64), .retAddr 0, .long ((I 73 7) - (1 : Int32)).toInt64, .retAddr 0]) (S' := [.int (0 : Int32)]) (σ' := (97, I, J, R)) rfl ?_
      refine az_E.ret (v := some (.int (0 : Int32))) (σ' := (97, I, J, R)) rfl ?_
      show az_E az_F ex 124 162 12 [.ref 73, .long a1.toInt64, .retAddr 0] [.int (0 : Int32)] (97, I, J, R) _
      refine az_E.ret (v := some (.int (0 : Int32))) (σ' := (97, I, J, R)) rfl ?_
      show az_E az_F ex 125 217 6 [.ref 73, .int a1, .int a2, .retAddr 0, .retAddr 0, .retAddr 0, .retAddr 0, .retAddr 0, .retAddr 0, .retAddr 0] [.int (0 : Int32)] (97, I, J, R) _
      refine az_E.br (c := (0 : Int32) = 0) (tt := 19) (ff := 9) (L' := [.ref 73, .int a1, .int a2, .retAddr 0, .retAddr 0, .retAddr 0, .retAddr 0, .retAddr 0, .retAddr 0, .retAddr 0]) (S' := []) (σ' := (97, I, J, R)) rfl (fun _ => ?_) (fun hn => absurd (by decide) hn)
      refine az_E.sn 1 (pc' := 20) (L' := [.ref 73, .int a1, .int a2, .retAddr 0, .retAddr 0, .retAddr 0, .retAddr 0, .retAddr 0, .retAddr 0, .retAddr 0]) (S' := [.int (-1 : Int32)]) (σ' := (97, I, J, R)) rfl ?_
      have h := Option.some.inj h
      subst h
      exact az_E.ret (v := some (.int (-1 : Int32))) (σ' := (97, I, J, R)) rfl hQ
    · rw [if_neg hc_2] at h
      refine az_E.sn 2 (pc' := 18) (L' := [.long a1.toInt64, .retAddr 0, .long (0 : Int64), .retAddr 0, .long ((I 73 7) - (1 : Int32)).toInt64, .retAddr 0]) (S' := [.int (1 : Int32)]) (σ' := (97, I, J, R)) rfl ?_
      refine az_E.ret (v := some (.int (1 : Int32))) (σ' := (97, I, J, R)) rfl ?_
      show az_E az_F ex 124 162 12 [.ref 73, .long a1.toInt64, .retAddr 0] [.int (1 : Int32)] (97, I, J, R) _
      refine az_E.ret (v := some (.int (1 : Int32))) (σ' := (97, I, J, R)) rfl ?_
      show az_E az_F ex 125 217 6 [.ref 73, .int a1, .int a2, .retAddr 0, .retAddr 0, .retAddr 0, .retAddr 0, .retAddr 0, .retAddr 0, .retAddr 0] [.int (1 : Int32)] (97, I, J, R) _
      refine az_E.br (c := (1 : Int32) = 0) (tt := 19) (ff := 9) (L' := [.ref 73, .int a1, .int a2, .retAddr 0, .retAddr 0, .retAddr 0, .retAddr 0, .retAddr 0, .retAddr 0, .retAddr 0]) (S' := []) (σ' := (97, I, J, R)) rfl (fun hn => absurd hn (by decide)) (fun _ => ?_)
      refine az_E.sn 4 (pc' := 13) (L' := [.ref 73, .int a1, .int a2, .retAddr 0, .retAddr 0, .retAddr 0, .retAddr 0, .retAddr 0, .retAddr 0, .retAddr 0]) (S' := [.long (1 : Int64), .long (0 : Int64), .long a2.toInt64]) (σ' := (97, I, J, R)) rfl ?_
      refine az_E.call (d := 124) (k' := 154) (vs := [.long a2.toInt64, .long (0 : Int64), .long (1 : Int64)]) (pc' := 16) (S' := []) rfl ?_ (fun _ _ hq => hq)
      show az_E az_F ex 124 154 0 [.long a2.toInt64, .retAddr 0, .long (0 : Int64), .retAddr 0, .long (1 : Int64), .retAddr 0] [] (97, I, J, R) _
      refine az_E.sn 3 (pc' := 3) (L' := [.long a2.toInt64, .retAddr 0, .long (0 : Int64), .retAddr 0, .long (1 : Int64), .retAddr 0]) (S' := [.int (lg_cmp a2.toInt64 (0 : Int64))]) (σ' := (97, I, J, R)) rfl ?_
      refine az_E.br (c := (lg_cmp a2.toInt64 (0 : Int64)) < 0) (tt := 17) (ff := 6) (L' := [.long a2.toInt64, .retAddr 0, .long (0 : Int64), .retAddr 0, .long (1 : Int64), .retAddr 0]) (S' := []) (σ' := (97, I, J, R)) rfl (fun hc_3 => ?_) (fun hc_3 => ?_)
      · rw [if_pos hc_3] at h
        refine az_E.sn 1 (pc' := 18) (L' := [.long a2.toInt64, .retAddr 0, .long (0 : Int64), .retAddr 0, .long (1 : Int64), .retAddr 0]) (S' := [.int (0 : Int32)]) (σ' := (97, I, J, R)) rfl ?_
        refine az_E.ret (v := some (.int (0 : Int32))) (σ' := (97, I, J, R)) rfl ?_
        show az_E az_F ex 125 217 16 [.ref 73, .int a1, .int a2, .retAddr 0, .retAddr 0, .retAddr 0, .retAddr 0, .retAddr 0, .retAddr 0, .retAddr 0] [.int (0 : Int32)] (97, I, J, R) _
        refine az_E.br (c := (0 : Int32) = 0) (tt := 19) (ff := 21) (L' := [.ref 73, .int a1, .int a2, .retAddr 0, .retAddr 0, .retAddr 0, .retAddr 0, .retAddr 0, .retAddr 0, .retAddr 0]) (S' := []) (σ' := (97, I, J, R)) rfl (fun _ => ?_) (fun hn => absurd (by decide) hn)
        refine az_E.sn 1 (pc' := 20) (L' := [.ref 73, .int a1, .int a2, .retAddr 0, .retAddr 0, .retAddr 0, .retAddr 0, .retAddr 0, .retAddr 0, .retAddr 0]) (S' := [.int (-1 : Int32)]) (σ' := (97, I, J, R)) rfl ?_
        have h := Option.some.inj h
        subst h
        exact az_E.ret (v := some (.int (-1 : Int32))) (σ' := (97, I, J, R)) rfl hQ
      · rw [if_neg hc_3] at h
        refine az_E.sn 3 (pc' := 10) (L' := [.long a2.toInt64, .retAddr 0, .long (0 : Int64), .retAddr 0, .long (1 : Int64), .retAddr 0]) (S' := [.int (lg_cmp a2.toInt64 (1 : Int64))]) (σ' := (97, I, J, R)) rfl ?_
        refine az_E.br (c := 0 < (lg_cmp a2.toInt64 (1 : Int64))) (tt := 17) (ff := 13) (L' := [.long a2.toInt64, .retAddr 0, .long (0 : Int64), .retAddr 0, .long (1 : Int64), .retAddr 0]) (S' := []) (σ' := (97, I, J, R)) rfl (fun hc_4 => ?_) (fun hc_4 => ?_)
        · rw [if_pos hc_4] at h
          refine az_E.sn 1 (pc' := 18) (L' := [.long a2.toInt64, .retAddr 0, .long (0 : Int64), .retAddr 0, .long (1 : Int64), .retAddr 0]) (S' := [.int (0 : Int32)]) (σ' := (97, I, J, R)) rfl ?_
          refine az_E.ret (v := some (.int (0 : Int32))) (σ' := (97, I, J, R)) rfl ?_
          show az_E az_F ex 125 217 16 [.ref 73, .int a1, .int a2, .retAddr 0, .retAddr 0, .retAddr 0, .retAddr 0, .retAddr 0, .retAddr 0, .retAddr 0] [.int (0 : Int32)] (97, I, J, R) _
          refine az_E.br (c := (0 : Int32) = 0) (tt := 19) (ff := 21) (L' := [.ref 73, .int a1, .int a2, .retAddr 0, .retAddr 0, .retAddr 0, .retAddr 0, .retAddr 0, .retAddr 0, .retAddr 0]) (S' := []) (σ' := (97, I, J, R)) rfl (fun _ => ?_) (fun hn => absurd (by decide) hn)
          refine az_E.sn 1 (pc' := 20) (L' := [.ref 73, .int a1, .int a2, .retAddr 0, .retAddr 0, .retAddr 0, .retAddr 0, .retAddr 0, .retAddr 0, .retAddr 0]) (S' := [.int (-1 : Int32)]) (σ' := (97, I, J, R)) rfl ?_
          have h := Option.some.inj h
          subst h
          exact az_E.ret (v := some (.int (-1 : Int32))) (σ' := (97, I, J, R)) rfl hQ
        · rw [if_neg hc_4] at h
          refine az_E.sn 2 (pc' := 18) (L' := [.long a2.toInt64, .retAddr 0, .long (0 : Int64), .retAddr 0, .long (1 : Int64), .retAddr 0]) (S' := [.int (1 : Int32)]) (σ' := (97, I, J, R)) rfl ?_
          refine az_E.ret (v := some (.int (1 : Int32))) (σ' := (97, I, J, R)) rfl ?_
          show az_E az_F ex 125 217 16 [.ref 73, .int a1, .int a2, .retAddr 0, .retAddr 0, .retAddr 0, .retAddr 0, .retAddr 0, .retAddr 0, .retAddr 0] [.int (1 : Int32)] (97, I, J, R) _
          refine az_E.br (c := (1 : Int32) = 0) (tt := 19) (ff := 21) (L' := [.ref 73, .int a1, .int a2, .retAddr 0, .retAddr 0, .retAddr 0, .retAddr 0, .retAddr 0, .retAddr 0, .retAddr 0]) (S' := []) (σ' := (97, I, J, R)) rfl (fun hn => absurd hn (by decide)) (fun _ => ?_)
          refine az_E.sn 6 (pc' := 31) (L' := [.ref 73, .int a1, .int a2, .int (-2 : Int32), .int (-2 : Int32), .int (0 : Int32), .retAddr 0, .retAddr 0, .retAddr 0, .retAddr 0]) (S' := []) (σ' := (97, I, J, R)) rfl ?_
          exact az_E.forget (L := [.ref 73, .int a1, .int a2, .int (-2 : Int32), .int (-2 : Int32), .int (0 : Int32), .retAddr 0, .retAddr 0, .retAddr 0, .retAddr 0]) ⟨rfl, rfl, rfl, rfl, rfl, rfl, trivial, trivial, trivial, trivial, trivial⟩ (re_M_next_31 (I := I) (J := J) (R := R)  h hQ)
set_option maxRecDepth 100000 in
set_option maxHeartbeats 4000000 in
theorem re_Pa_withWeather_26_16 {ex : az_X} {I : Nat → Nat → Int32} {J : Nat → Nat → Int64} {R : Nat → Nat → Option Nat} {a1 : Int32} (hR_26_2 : R 26 2 = some 16) {o : (Nat → Nat → Int32)} (h : rs_Pa_withWeather 26 16 I a1 = some o) {Q : Option Value → az_S → Prop} (hQ : Q none (97, o, J, R)) : az_E az_F ex 4 47 0 [.ref 26, .int a1] [] (97, I, J, R) Q := by
  unfold rs_Pa_withWeather at h
  refine az_E.sn 4 (pc' := 6) (L' := [.ref 26, .int a1]) (S' := [.ref 26]) (σ' := (97, (az_u I 26 7 a1), J, R)) rfl ?_
  cases hx_2 : rs_Pa_fill 26 16 (az_u I 26 7 a1) with
  | none => rw [hx_2] at h; cases h
  | some I_1 =>
    rw [hx_2] at h
    dsimp only at h
    refine az_E.call (d := 3) (k' := 50) (vs := [.ref 26]) (pc' := 9) (S' := []) (Q1 := fun v s => v = none ∧ s = (97, I_1, J, R)) rfl (az_E.deep (by omega) (re_Pa_fill_26_16 (J := J) (R := R) hR_26_2 hx_2 ⟨rfl, rfl⟩)) (fun v s hq => ?_)
    obtain ⟨rfl, rfl⟩ := hq
    show az_E az_F ex 4 47 9 [.ref 26, .int a1] [] (97, I_1, J, R) _
    have h := Option.some.inj h
    subst h
    exact az_E.ret (v := none) (σ' := (97, I_1, J, R)) rfl hQ
set_option maxRecDepth 100000 in
set_option maxHeartbeats 4000000 in
theorem re_X_weathers_34_b_16_21 {ex : az_X} {I : Nat → Nat → Int32} {J : Nat → Nat → Int64} {R : Nat → Nat → Option Nat} {v1 : Int32} {v2 : Int32} {v3 : Int32} {v4 : Int32} (hR_3_2 : R 3 2 = some 16) (hR_3_3 : R 3 3 = some 21) {x : ((Int32 × Int32 × (Nat → Nat → Int32)) ⊕ (Int32 × (Nat → Nat → Int32)))} (h : rs_X_weathers_34_b 21 16 v1 v2 v3 v4 I = some x) {Q : Option Value → az_S → Prop} (hQ : Sum.elim (fun s => az_E az_F ex 6 105 34 [.ref 3, .int v1, .int v2, .int s.1, .int s.2.1] [] (97, s.2.2, J, (az_u (az_u R 26 2 (some 16)) 26 3 (some 5))) Q) (fun x => ∀ R' : Nat → Nat → Option Nat, R' 3 2 = some 16 → R' 3 3 = some 21 → Q (some (.int x.1)) (97, x.2, J, R')) x) : az_E az_F ex 6 105 34 [.ref 3, .int v1, .int v2, .int v3, .int v4] [] (97, I, J, (az_u (az_u R 26 2 (some 16)) 26 3 (some 5))) Q := by
  unfold rs_X_weathers_34_b at h
  refine az_E.sn 2 (pc' := 38) (L' := [.ref 3, .int v1, .int v2, .int v3, .int v4]) (S' := [.int (9 : Int32), .int v4]) (σ' := (97, I, J, (az_u (az_u R 26 2 (some 16)) 26 3 (some 5)))) rfl ?_
  refine az_E.br (c := (9 : Int32) < v4) (tt := 75) (ff := 41) (L' := [.ref 3, .int v1, .int v2, .int v3, .int v4]) (S' := []) (σ' := (97, I, J, (az_u (az_u R 26 2 (some 16)) 26 3 (some 5)))) rfl (fun hc_12 => ?_) (fun hc_12 => ?_)
  · rw [if_pos hc_12] at h
    refine az_E.sn 1 (pc' := 76) (L' := [.ref 3, .int v1, .int v2, .int v3, .int v4]) (S' := [.int v3]) (σ' := (97, I, J, (az_u (az_u R 26 2 (some 16)) 26 3 (some 5)))) rfl ?_
    have h := Option.some.inj h
    subst h
    try simp only [Sum.elim_inl, Sum.elim_inr] at hQ
    exact az_E.ret (v := some (.int v3)) (σ' := (97, I, J, (az_u (az_u R 26 2 (some 16)) 26 3 (some 5)))) rfl (hQ _ hR_3_2 hR_3_3)
  · rw [if_neg hc_12] at h
    refine az_E.sn 3 (pc' := 47) (L' := [.ref 3, .int v1, .int v2, .int v3, .int v4]) (S' := [.int v4, .ref 26]) (σ' := (97, I, J, (az_u (az_u R 26 2 (some 16)) 26 3 (some 5)))) rfl ?_
    cases hx_14 : rs_Pa_withWeather 26 16 I v4 with
    | none => rw [hx_14] at h; cases h
    | some I_13 =>
      rw [hx_14] at h
      dsimp only at h
      refine az_E.call (d := 5) (k' := 47) (vs := [.ref 26, .int v4]) (pc' := 50) (S' := []) (Q1 := fun v s => v = none ∧ s = (97, I_13, J, (az_u (az_u R 26 2 (some 16)) 26 3 (some 5)))) rfl (az_E.deep (by omega) (re_Pa_withWeather_26_16 (J := J) (R := (az_u (az_u R 26 2 (some 16)) 26 3 (some 5))) rfl hx_14 ⟨rfl, rfl⟩)) (fun v s hq => ?_)
      obtain ⟨rfl, rfl⟩ := hq
      show az_E az_F ex 6 105 50 [.ref 3, .int v1, .int v2, .int v3, .int v4] [] (97, I_13, J, (az_u (az_u R 26 2 (some 16)) 26 3 (some 5))) _
      refine az_E.sn 3 (pc' := 54) (L' := [.ref 3, .int v1, .int v2, .int v3, .int v4]) (S' := [.int (10 : Int32), .int v1, .ref 3]) (σ' := (97, I_13, J, (az_u (az_u R 26 2 (some 16)) 26 3 (some 5)))) rfl ?_
      have hd_15 : ¬ ((10 : Int32) = 0) := by decide
      refine az_E.dv (c := (10 : Int32) = 0) (pc' := 55) (L' := [.ref 3, .int v1, .int v2, .int v3, .int v4]) (S' := [.int (v1 / (10 : Int32)), .ref 3]) (σ' := (97, I_13, J, (az_u (az_u R 26 2 (some 16)) 26 3 (some 5)))) rfl hd_15 ?_
      cases hx_18 : rs_X_armAt I_13 (v1 / (10 : Int32)) with
      | none => rw [hx_18] at h; cases h
      | some o =>
        rw [hx_18] at h
        obtain ⟨x_16, I_17⟩ := o
        dsimp only at h
        refine az_E.call (d := 5) (k' := 146) (vs := [.ref 3, .int (v1 / (10 : Int32))]) (pc' := 58) (S' := []) (Q1 := fun v s => v = some (.int x_16) ∧ s = (97, I_17, J, (az_u (az_u R 26 2 (some 16)) 26 3 (some 5)))) rfl (az_E.deep (by omega) (re_X_armAt_5 (J := J) (R := (az_u (az_u R 26 2 (some 16)) 26 3 (some 5))) rfl hx_18 ⟨rfl, rfl⟩)) (fun v s hq => ?_)
        obtain ⟨rfl, rfl⟩ := hq
        show az_E az_F ex 6 105 58 [.ref 3, .int v1, .int v2, .int v3, .int v4] [.int x_16] (97, I_17, J, (az_u (az_u R 26 2 (some 16)) 26 3 (some 5))) _
        refine az_E.sn 1 (pc' := 59) (L' := [.ref 3, .int v1, .int v2, .int v3, .int v4]) (S' := [.int v2, .int x_16]) (σ' := (97, I_17, J, (az_u (az_u R 26 2 (some 16)) 26 3 (some 5)))) rfl ?_
        refine az_E.br (c := v2 < x_16) (tt := 69) (ff := 62) (L' := [.ref 3, .int v1, .int v2, .int v3, .int v4]) (S' := []) (σ' := (97, I_17, J, (az_u (az_u R 26 2 (some 16)) 26 3 (some 5)))) rfl (fun hc_19 => ?_) (fun hc_19 => ?_)
        · rw [if_pos hc_19] at h
          refine az_E.sn 2 (pc' := 34) (L' := [.ref 3, .int v1, .int v2, .int v3, .int (v4 + (1 : Int32))]) (S' := []) (σ' := (97, I_17, J, (az_u (az_u R 26 2 (some 16)) 26 3 (some 5)))) rfl ?_
          have h := Option.some.inj h
          subst h
          exact az_E.forget (L := [.ref 3, .int v1, .int v2, .int v3, .int (v4 + (1 : Int32))]) ⟨rfl, rfl, rfl, rfl, rfl, trivial⟩ hQ
        · rw [if_neg hc_19] at h
          refine az_E.sn 8 (pc' := 34) (L' := [.ref 3, .int v1, .int v2, .int (v3 ||| ((1 : Int32) <<< (v4 &&& 31))), .int (v4 + (1 : Int32))]) (S' := []) (σ' := (97, I_17, J, (az_u (az_u R 26 2 (some 16)) 26 3 (some 5)))) rfl ?_
          have h := Option.some.inj h
          subst h
          exact az_E.forget (L := [.ref 3, .int v1, .int v2, .int (v3 ||| ((1 : Int32) <<< (v4 &&& 31))), .int (v4 + (1 : Int32))]) ⟨rfl, rfl, rfl, rfl, rfl, trivial⟩ hQ
set_option maxRecDepth 100000 in
set_option maxHeartbeats 4000000 in
theorem re_X_weathers_34_16_21 {ex : az_X} {I : Nat → Nat → Int32} {J : Nat → Nat → Int64} {R : Nat → Nat → Option Nat} {v1 : Int32} {v2 : Int32} {v3 : Int32} {v4 : Int32} (hR_3_2 : R 3 2 = some 16) (hR_3_3 : R 3 3 = some 21) {x : Int32 × (Nat → Nat → Int32)} (h : rs_X_weathers_34 21 16 I v1 v2 v3 v4 = some x) {Q : Option Value → az_S → Prop} (hQ : ∀ R' : Nat → Nat → Option Nat, R' 3 2 = some 16 → R' 3 3 = some 21 → Q (some (.int x.1)) (97, x.2, J, R')) : az_E az_F ex 6 105 34 [.ref 3, .int v1, .int v2, .int v3, .int v4] [] (97, I, J, (az_u (az_u R 26 2 (some 16)) 26 3 (some 5))) Q := by
  unfold rs_X_weathers_34 at h
  refine az_lp_E (G := fun s => az_E az_F ex 6 105 34 [.ref 3, .int v1, .int v2, .int s.1, .int s.2.1] [] (97, s.2.2, J, (az_u (az_u R 26 2 (some 16)) 26 3 (some 5))) Q) (H := fun x => ∀ R' : Nat → Nat → Option Nat, R' 3 2 = some 16 → R' 3 3 = some 21 → Q (some (.int x.1)) (97, x.2, J, R')) (fun s o hb ho => ?_) _ _ _ h hQ
  exact re_X_weathers_34_b_16_21 hR_3_2 hR_3_3 hb ho
set_option maxRecDepth 100000 in
set_option maxHeartbeats 4000000 in
theorem re_X_weathers_16_21 {ex : az_X} {I : Nat → Nat → Int32} {J : Nat → Nat → Int64} {R : Nat → Nat → Option Nat} {a1 : Int32} {a2 : Int32} (hR_3_2 : R 3 2 = some 16) (hR_3_3 : R 3 3 = some 21) {o : Int32 × (Nat → Nat → Int32)} (h : rs_X_weathers 21 16 I a1 a2 = some o) {Q : Option Value → az_S → Prop} (hQ : ∀ R' : Nat → Nat → Option Nat, R' 3 2 = some 16 → R' 3 3 = some 21 → Q (some (.int o.1)) (97, o.2, J, R')) : az_E az_F ex 6 105 0 [.ref 3, .int a1, .int a2, .retAddr 0, .retAddr 0] [] (97, I, J, R) Q := by
  unfold rs_X_weathers at h
  refine az_E.sn 2 (pc' := 2) (L' := [.ref 3, .int a1, .int a2, .retAddr 0, .retAddr 0]) (S' := [.int a1, .ref 3]) (σ' := (97, I, J, R)) rfl ?_
  refine az_E.call (d := 5) (k' := 139) (vs := [.ref 3, .int a1]) (pc' := 5) (S' := []) rfl ?_ (fun _ _ hq => hq)
  show az_E az_F ex 5 139 0 [.ref 3, .int a1] [] (97, I, J, R) _
  refine az_E.sn 1 (pc' := 1) (L' := [.ref 3, .int a1]) (S' := [.int a1]) (σ' := (97, I, J, R)) rfl ?_
  refine az_E.br (c := a1 < 0) (tt := 33) (ff := 4) (L' := [.ref 3, .int a1]) (S' := []) (σ' := (97, I, J, R)) rfl (fun hc_1 => ?_) (fun hc_1 => ?_)
  · rw [if_pos hc_1] at h
    refine az_E.sn 1 (pc' := 34) (L' := [.ref 3, .int a1]) (S' := [.int (0 : Int32)]) (σ' := (97, I, J, R)) rfl ?_
    refine az_E.ret (v := some (.int (0 : Int32))) (σ' := (97, I, J, R)) rfl ?_
    show az_E az_F ex 6 105 5 [.ref 3, .int a1, .int a2, .retAddr 0, .retAddr 0] [.int (0 : Int32)] (97, I, J, R) _
    refine az_E.br (c := (0 : Int32) = 0) (tt := 19) (ff := 8) (L' := [.ref 3, .int a1, .int a2, .retAddr 0, .retAddr 0]) (S' := []) (σ' := (97, I, J, R)) rfl (fun _ => ?_) (fun hn => absurd (by decide) hn)
    refine az_E.sn 1 (pc' := 20) (L' := [.ref 3, .int a1, .int a2, .retAddr 0, .retAddr 0]) (S' := [.int (-1 : Int32)]) (σ' := (97, I, J, R)) rfl ?_
    have h := Option.some.inj h
    subst h
    exact az_E.ret (v := some (.int (-1 : Int32))) (σ' := (97, I, J, R)) rfl (hQ _ hR_3_2 hR_3_3)
  · rw [if_neg hc_1] at h
    refine az_E.sn 2 (pc' := 7) (L' := [.ref 3, .int a1]) (S' := [.int (10 : Int32), .int a1]) (σ' := (97, I, J, R)) rfl ?_
    have hd_2 : ¬ ((10 : Int32) = 0) := by decide
    refine az_E.dv (c := (10 : Int32) = 0) (pc' := 8) (L' := [.ref 3, .int a1]) (S' := [.int (a1 / (10 : Int32))]) (σ' := (97, I, J, R)) rfl hd_2 ?_
    refine az_E.sn 3 (pc' := 15) (L' := [.ref 3, .int a1]) (S' := [.int (I 4 3), .int (a1 / (10 : Int32))]) (σ' := (97, I, J, R)) rfl ?_
    refine az_E.br (c := (I 4 3) ≤ (a1 / (10 : Int32))) (tt := 33) (ff := 18) (L' := [.ref 3, .int a1]) (S' := []) (σ' := (97, I, J, R)) rfl (fun hc_3 => ?_) (fun hc_3 => ?_)
    · rw [if_pos hc_3] at h
      refine az_E.sn 1 (pc' := 34) (L' := [.ref 3, .int a1]) (S' := [.int (0 : Int32)]) (σ' := (97, I, J, R)) rfl ?_
      refine az_E.ret (v := some (.int (0 : Int32))) (σ' := (97, I, J, R)) rfl ?_
      show az_E az_F ex 6 105 5 [.ref 3, .int a1, .int a2, .retAddr 0, .retAddr 0] [.int (0 : Int32)] (97, I, J, R) _
      refine az_E.br (c := (0 : Int32) = 0) (tt := 19) (ff := 8) (L' := [.ref 3, .int a1, .int a2, .retAddr 0, .retAddr 0]) (S' := []) (σ' := (97, I, J, R)) rfl (fun _ => ?_) (fun hn => absurd (by decide) hn)
      refine az_E.sn 1 (pc' := 20) (L' := [.ref 3, .int a1, .int a2, .retAddr 0, .retAddr 0]) (S' := [.int (-1 : Int32)]) (σ' := (97, I, J, R)) rfl ?_
      have h := Option.some.inj h
      subst h
      exact az_E.ret (v := some (.int (-1 : Int32))) (σ' := (97, I, J, R)) rfl (hQ _ hR_3_2 hR_3_3)
    · rw [if_neg hc_3] at h
      refine az_E.sn 3 (pc' := 22) (L' := [.ref 3, .int a1]) (S' := [.int (10 : Int32), .int a1, .ref 3]) (σ' := (97, I, J, R)) rfl ?_
      have hd_4 : ¬ ((10 : Int32) = 0) := by decide
      refine az_E.dv (c := (10 : Int32) = 0) (pc' := 23) (L' := [.ref 3, .int a1]) (S' := [.int (a1 - a1 / (10 : Int32) * (10 : Int32)), .ref 3]) (σ' := (97, I, J, R)) rfl hd_4 ?_
      refine az_E.call (d := 4) (k' := 138) (vs := [.ref 3, .int (a1 - a1 / (10 : Int32) * (10 : Int32))]) (pc' := 26) (S' := []) rfl ?_ (fun _ _ hq => hq)
      show az_E az_F ex 4 138 0 [.ref 3, .int (a1 - a1 / (10 : Int32) * (10 : Int32))] [] (97, I, J, R) _
      refine az_E.sn 7 (pc' := 11) (L' := [.ref 3, .int (a1 - a1 / (10 : Int32) * (10 : Int32))]) (S' := [.int ((I 4 9) - (1 : Int32)), .int (0 : Int32), .int (a1 - a1 / (10 : Int32) * (10 : Int32))]) (σ' := (97, I, J, R)) rfl ?_
      refine az_E.call (d := 3) (k' := 131) (vs := [.int (a1 - a1 / (10 : Int32) * (10 : Int32)), .int (0 : Int32), .int ((I 4 9) - (1 : Int32))]) (pc' := 14) (S' := []) rfl ?_ (fun _ _ hq => hq)
      show az_E az_F ex 3 131 0 [.int (a1 - a1 / (10 : Int32) * (10 : Int32)), .int (0 : Int32), .int ((I 4 9) - (1 : Int32))] [] (97, I, J, R) _
      refine az_E.sn 2 (pc' := 2) (L' := [.int (a1 - a1 / (10 : Int32) * (10 : Int32)), .int (0 : Int32), .int ((I 4 9) - (1 : Int32))]) (S' := [.int (0 : Int32), .int (a1 - a1 / (10 : Int32) * (10 : Int32))]) (σ' := (97, I, J, R)) rfl ?_
      refine az_E.br (c := (a1 - a1 / (10 : Int32) * (10 : Int32)) < (0 : Int32)) (tt := 14) (ff := 5) (L' := [.int (a1 - a1 / (10 : Int32) * (10 : Int32)), .int (0 : Int32), .int ((I 4 9) - (1 : Int32))]) (S' := []) (σ' := (97, I, J, R)) rfl (fun hc_5 => ?_) (fun hc_5 => ?_)
      · rw [if_pos hc_5] at h
        refine az_E.sn 1 (pc' := 15) (L' := [.int (a1 - a1 / (10 : Int32) * (10 : Int32)), .int (0 : Int32), .int ((I 4 9) - (1 : Int32))]) (S' := [.int (0 : Int32)]) (σ' := (97, I, J, R)) rfl ?_
        refine az_E.ret (v := some (.int (0 : Int32))) (σ' := (97, I, J, R)) rfl ?_
        show az_E az_F ex 4 138 14 [.ref 3, .int (a1 - a1 / (10 : Int32) * (10 : Int32))] [.int (0 : Int32)] (97, I, J, R) _
        refine az_E.ret (v := some (.int (0 : Int32))) (σ' := (97, I, J, R)) rfl ?_
        show az_E az_F ex 5 139 26 [.ref 3, .int a1] [.int (0 : Int32)] (97, I, J, R) _
        refine az_E.br (c := (0 : Int32) = 0) (tt := 33) (ff := 29) (L' := [.ref 3, .int a1]) (S' := []) (σ' := (97, I, J, R)) rfl (fun _ => ?_) (fun hn => absurd (by decide) hn)
        refine az_E.sn 1 (pc' := 34) (L' := [.ref 3, .int a1]) (S' := [.int (0 : Int32)]) (σ' := (97, I, J, R)) rfl ?_
        refine az_E.ret (v := some (.int (0 : Int32))) (σ' := (97, I, J, R)) rfl ?_
        show az_E az_F ex 6 105 5 [.ref 3, .int a1, .int a2, .retAddr 0, .retAddr 0] [.int (0 : Int32)] (97, I, J, R) _
        refine az_E.br (c := (0 : Int32) = 0) (tt := 19) (ff := 8) (L' := [.ref 3, .int a1, .int a2, .retAddr 0, .retAddr 0]) (S' := []) (σ' := (97, I, J, R)) rfl (fun _ => ?_) (fun hn => absurd (by decide) hn)
        refine az_E.sn 1 (pc' := 20) (L' := [.ref 3, .int a1, .int a2, .retAddr 0, .retAddr 0]) (S' := [.int (-1 : Int32)]) (σ' := (97, I, J, R)) rfl ?_
        have h := Option.some.inj h
        subst h
        exact az_E.ret (v := some (.int (-1 : Int32))) (σ' := (97, I, J, R)) rfl (hQ _ hR_3_2 hR_3_3)
      · rw [if_neg hc_5] at h
        refine az_E.sn 2 (pc' := 7) (L' := [.int (a1 - a1 / (10 : Int32) * (10 : Int32)), .int (0 : Int32), .int ((I 4 9) - (1 : Int32))]) (S' := [.int ((I 4 9) - (1 : Int32)), .int (a1 - a1 / (10 : Int32) * (10 : Int32))]) (σ' := (97, I, J, R)) rfl ?_
        refine az_E.br (c := ((I 4 9) - (1 : Int32)) < (a1 - a1 / (10 : Int32) * (10 : Int32))) (tt := 14) (ff := 10) (L' := [.int (a1 - a1 / (10 : Int32) * (10 : Int32)), .int (0 : Int32), .int ((I 4 9) - (1 : Int32))]) (S' := []) (σ' := (97, I, J, R)) rfl (fun hc_6 => ?_) (fun hc_6 => ?_)
        · rw [if_pos hc_6] at h
          refine az_E.sn 1 (pc' := 15) (L' := [.int (a1 - a1 / (10 : Int32) * (10 : Int32)), .int (0 : Int32), .int ((I 4 9) - (1 : Int32))]) (S' := [.int (0 : Int32)]) (σ' := (97, I, J, R)) rfl ?_
          refine az_E.ret (v := some (.int (0 : Int32))) (σ' := (97, I, J, R)) rfl ?_
          show az_E az_F ex 4 138 14 [.ref 3, .int (a1 - a1 / (10 : Int32) * (10 : Int32))] [.int (0 : Int32)] (97, I, J, R) _
          refine az_E.ret (v := some (.int (0 : Int32))) (σ' := (97, I, J, R)) rfl ?_
          show az_E az_F ex 5 139 26 [.ref 3, .int a1] [.int (0 : Int32)] (97, I, J, R) _
          refine az_E.br (c := (0 : Int32) = 0) (tt := 33) (ff := 29) (L' := [.ref 3, .int a1]) (S' := []) (σ' := (97, I, J, R)) rfl (fun _ => ?_) (fun hn => absurd (by decide) hn)
          refine az_E.sn 1 (pc' := 34) (L' := [.ref 3, .int a1]) (S' := [.int (0 : Int32)]) (σ' := (97, I, J, R)) rfl ?_
          refine az_E.ret (v := some (.int (0 : Int32))) (σ' := (97, I, J, R)) rfl ?_
          show az_E az_F ex 6 105 5 [.ref 3, .int a1, .int a2, .retAddr 0, .retAddr 0] [.int (0 : Int32)] (97, I, J, R) _
          refine az_E.br (c := (0 : Int32) = 0) (tt := 19) (ff := 8) (L' := [.ref 3, .int a1, .int a2, .retAddr 0, .retAddr 0]) (S' := []) (σ' := (97, I, J, R)) rfl (fun _ => ?_) (fun hn => absurd (by decide) hn)
          refine az_E.sn 1 (pc' := 20) (L' := [.ref 3, .int a1, .int a2, .retAddr 0, .retAddr 0]) (S' := [.int (-1 : Int32)]) (σ' := (97, I, J, R)) rfl ?_
          have h := Option.some.inj h
          subst h
          exact az_E.ret (v := some (.int (-1 : Int32))) (σ' := (97, I, J, R)) rfl (hQ _ hR_3_2 hR_3_3)
        · rw [if_neg hc_6] at h
          refine az_E.sn 2 (pc' := 15) (L' := [.int (a1 - a1 / (10 : Int32) * (10 : Int32)), .int (0 : Int32), .int ((I 4 9) - (1 : Int32))]) (S' := [.int (1 : Int32)]) (σ' := (97, I, J, R)) rfl ?_
          refine az_E.ret (v := some (.int (1 : Int32))) (σ' := (97, I, J, R)) rfl ?_
          show az_E az_F ex 4 138 14 [.ref 3, .int (a1 - a1 / (10 : Int32) * (10 : Int32))] [.int (1 : Int32)] (97, I, J, R) _
          refine az_E.ret (v := some (.int (1 : Int32))) (σ' := (97, I, J, R)) rfl ?_
          show az_E az_F ex 5 139 26 [.ref 3, .int a1] [.int (1 : Int32)] (97, I, J, R) _
          refine az_E.br (c := (1 : Int32) = 0) (tt := 33) (ff := 29) (L' := [.ref 3, .int a1]) (S' := []) (σ' := (97, I, J, R)) rfl (fun hn => absurd hn (by decide)) (fun _ => ?_)
          refine az_E.sn 2 (pc' := 34) (L' := [.ref 3, .int a1]) (S' := [.int (1 : Int32)]) (σ' := (97, I, J, R)) rfl ?_
          refine az_E.ret (v := some (.int (1 : Int32))) (σ' := (97, I, J, R)) rfl ?_
          show az_E az_F ex 6 105 5 [.ref 3, .int a1, .int a2, .retAddr 0, .retAddr 0] [.int (1 : Int32)] (97, I, J, R) _
          refine az_E.br (c := (1 : Int32) = 0) (tt := 19) (ff := 8) (L' := [.ref 3, .int a1, .int a2, .retAddr 0, .retAddr 0]) (S' := []) (σ' := (97, I, J, R)) rfl (fun hn => absurd hn (by decide)) (fun _ => ?_)
          refine az_E.sn 3 (pc' := 13) (L' := [.ref 3, .int a1, .int a2, .retAddr 0, .retAddr 0]) (S' := [.int (9999 : Int32), .int (0 : Int32), .int a2]) (σ' := (97, I, J, R)) rfl ?_
          refine az_E.call (d := 5) (k' := 131) (vs := [.int a2, .int (0 : Int32), .int (9999 : Int32)]) (pc' := 16) (S' := []) rfl ?_ (fun _ _ hq => hq)
          show az_E az_F ex 5 131 0 [.int a2, .int (0 : Int32), .int (9999 : Int32)] [] (97, I, J, R) _
          refine az_E.sn 2 (pc' := 2) (L' := [.int a2, .int (0 : Int32), .int (9999 : Int32)]) (S' := [.int (0 : Int32), .int a2]) (σ' := (97, I, J, R)) rfl ?_
          refine az_E.br (c := a2 < (0 : Int32)) (tt := 14) (ff := 5) (L' := [.int a2, .int (0 : Int32), .int (9999 : Int32)]) (S' := []) (σ' := (97, I, J, R)) rfl (fun hc_7 => ?_) (fun hc_7 => ?_)
          · rw [if_pos hc_7] at h
            refine az_E.sn 1 (pc' := 15) (L' := [.int a2, .int (0 : Int32), .int (9999 : Int32)]) (S' := [.int (0 : Int32)]) (σ' := (97, I, J, R)) rfl ?_
            refine az_E.ret (v := some (.int (0 : Int32))) (σ' := (97, I, J, R)) rfl ?_
            show az_E az_F ex 6 105 16 [.ref 3, .int a1, .int a2, .retAddr 0, .retAddr 0] [.int (0 : Int32)] (97, I, J, R) _
            refine az_E.br (c := (0 : Int32) = 0) (tt := 19) (ff := 21) (L' := [.ref 3, .int a1, .int a2, .retAddr 0, .retAddr 0]) (S' := []) (σ' := (97, I, J, R)) rfl (fun _ => ?_) (fun hn => absurd (by decide) hn)
            refine az_E.sn 1 (pc' := 20) (L' := [.ref 3, .int a1, .int a2, .retAddr 0, .retAddr 0]) (S' := [.int (-1 : Int32)]) (σ' := (97, I, J, R)) rfl ?_
            have h := Option.some.inj h
            subst h
            exact az_E.ret (v := some (.int (-1 : Int32))) (σ' := (97, I, J, R)) rfl (hQ _ hR_3_2 hR_3_3)
          · rw [if_neg hc_7] at h
            refine az_E.sn 2 (pc' := 7) (L' := [.int a2, .int (0 : Int32), .int (9999 : Int32)]) (S' := [.int (9999 : Int32), .int a2]) (σ' := (97, I, J, R)) rfl ?_
            refine az_E.br (c := (9999 : Int32) < a2) (tt := 14) (ff := 10) (L' := [.int a2, .int (0 : Int32), .int (9999 : Int32)]) (S' := []) (σ' := (97, I, J, R)) rfl (fun hc_8 => ?_) (fun hc_8 => ?_)
            · rw [if_pos hc_8] at h
              refine az_E.sn 1 (pc' := 15) (L' := [.int a2, .int (0 : Int32), .int (9999 : Int32)]) (S' := [.int (0 : Int32)]) (σ' := (97, I, J, R)) rfl ?_
              refine az_E.ret (v := some (.int (0 : Int32))) (σ' := (97, I, J, R)) rfl ?_
              show az_E az_F ex 6 105 16 [.ref 3, .int a1, .int a2, .retAddr 0, .retAddr 0] [.int (0 : Int32)] (97, I, J, R) _
              refine az_E.br (c := (0 : Int32) = 0) (tt := 19) (ff := 21) (L' := [.ref 3, .int a1, .int a2, .retAddr 0, .retAddr 0]) (S' := []) (σ' := (97, I, J, R)) rfl (fun _ => ?_) (fun hn => absurd (by decide) hn)
              refine az_E.sn 1 (pc' := 20) (L' := [.ref 3, .int a1, .int a2, .retAddr 0, .retAddr 0]) (S' := [.int (-1 : Int32)]) (σ' := (97, I, J, R)) rfl ?_
              have h := Option.some.inj h
              subst h
              exact az_E.ret (v := some (.int (-1 : Int32))) (σ' := (97, I, J, R)) rfl (hQ _ hR_3_2 hR_3_3)
            · rw [if_neg hc_8] at h
              refine az_E.sn 2 (pc' := 15) (L' := [.int a2, .int (0 : Int32), .int (9999 : Int32)]) (S' := [.int (1 : Int32)]) (σ' := (97, I, J, R)) rfl ?_
              refine az_E.ret (v := some (.int (1 : Int32))) (σ' := (97, I, J, R)) rfl ?_
              show az_E az_F ex 6 105 16 [.ref 3, .int a1, .int a2, .retAddr 0, .retAddr 0] [.int (1 : Int32)] (97, I, J, R) _
              refine az_E.br (c := (1 : Int32) = 0) (tt := 19) (ff := 21) (L' := [.ref 3, .int a1, .int a2, .retAddr 0, .retAddr 0]) (S' := []) (σ' := (97, I, J, R)) rfl (fun hn => absurd hn (by decide)) (fun _ => ?_)
              refine az_E.sn 3 (pc' := 25) (L' := [.ref 3, .int a1, .int a2, .retAddr 0, .retAddr 0]) (S' := [.int (10 : Int32), .int a1, .ref 3]) (σ' := (97, I, J, R)) rfl ?_
              have hd_9 : ¬ ((10 : Int32) = 0) := by decide
              refine az_E.dv (c := (10 : Int32) = 0) (pc' := 26) (L' := [.ref 3, .int a1, .int a2, .retAddr 0, .retAddr 0]) (S' := [.int (a1 - a1 / (10 : Int32) * (10 : Int32)), .ref 3]) (σ' := (97, I, J, R)) rfl hd_9 ?_
              cases hx_11 : rs_X_setPace 16 I (a1 - a1 / (10 : Int32) * (10 : Int32)) with
              | none => rw [hx_11] at h; cases h
              | some I_10 =>
                rw [hx_11] at h
                dsimp only at h
                refine az_E.call (d := 5) (k' := 144) (vs := [.ref 3, .int (a1 - a1 / (10 : Int32) * (10 : Int32))]) (pc' := 29) (S' := []) (Q1 := fun v s => v = none ∧ s = (97, I_10, J, (az_u (az_u R 26 2 (some 16)) 26 3 (some 5)))) rfl (az_E.deep (by omega) (re_X_setPace_16 (J := J) (R := R) hR_3_2 hx_11 ⟨rfl, rfl⟩)) (fun v s hq => ?_)
                obtain ⟨rfl, rfl⟩ := hq
                show az_E az_F ex 6 105 29 [.ref 3, .int a1, .int a2, .retAddr 0, .retAddr 0] [] (97, I_10, J, (az_u (az_u R 26 2 (some 16)) 26 3 (some 5))) _
                refine az_E.sn 4 (pc' := 34) (L' := [.ref 3, .int a1, .int a2, .int (0 : Int32), .int (0 : Int32)]) (S' := []) (σ' := (97, I_10, J, (az_u (az_u R 26 2 (some 16)) 26 3 (some 5)))) rfl ?_
                exact az_E.forget (L := [.ref 3, .int a1, .int a2, .int (0 : Int32), .int (0 : Int32)]) ⟨rfl, rfl, rfl, rfl, rfl, trivial⟩ (re_X_weathers_34_16_21 (I := I_10) (J := J) (R := R) hR_3_2 hR_3_3 h hQ)
set_option maxRecDepth 100000 in
set_option maxHeartbeats 4000000 in
theorem re_M_weathers_28_b {ex : az_X} {I : Nat → Nat → Int32} {J : Nat → Nat → Int64} {R : Nat → Nat → Option Nat} {v1 : Int32} {v2 : Int32} {v3 : Int32} {v4 : Int32} {v5 : Int32} {x : ((Int32 × Int32 × (Nat → Nat → Int32)) ⊕ (Int32 × (Nat → Nat → Int32)))} (h : rs_M_weathers_28_b v1 v2 v3 v4 v5 I = some x) {Q : Option Value → az_S → Prop} (hQ : Sum.elim (fun s => az_E az_F ex 124 218 28 [.ref 73, .int v1, .int v2, .int v3, .int s.1, .int s.2.1] [] (97, s.2.2, J, R) Q) (fun x => Q (some (.int x.1)) (97, x.2, J, R)) x) : az_E az_F ex 124 218 28 [.ref 73, .int v1, .int v2, .int v3, .int v4, .int v5] [] (97, I, J, R) Q := by
  unfold rs_M_weathers_28_b at h
  refine az_E.sn 2 (pc' := 32) (L' := [.ref 73, .int v1, .int v2, .int v3, .int v4, .int v5]) (S' := [.int (9 : Int32), .int v5]) (σ' := (97, I, J, R)) rfl ?_
  refine az_E.br (c := (9 : Int32) < v5) (tt := 102) (ff := 35) (L' := [.ref 73, .int v1, .int v2, .int v3, .int v4, .int v5]) (S' := []) (σ' := (97, I, J, R)) rfl (fun hc_7 => ?_) (fun hc_7 => ?_)
  · rw [if_pos hc_7] at h
    refine az_E.sn 1 (pc' := 104) (L' := [.ref 73, .int v1, .int v2, .int v3, .int v4, .int v5]) (S' := [.int v4]) (σ' := (97, I, J, R)) rfl ?_
    have h := Option.some.inj h
    subst h
    exact az_E.ret (v := some (.int v4)) (σ' := (97, I, J, R)) rfl hQ
  · rw [if_neg hc_7] at h
    refine az_E.sn 6 (pc' := 45) (L' := [.ref 73, .int v1, .int v2, .int v3, .int v4, .int v5]) (S' := [.int ((160 : Int32) + v3), .ref 74, .ref 73]) (σ' := (97, I, J, R)) rfl ?_
    by_cases hc_8 : ((160 : Int32) + v3) < 0 ∨ 179 ≤ ((160 : Int32) + v3).toNatClampNeg
    · rw [if_pos hc_8] at h; cases h
    · rw [if_neg hc_8] at h
      refine az_E.oi (o := az_ai az_F ex (97, I, J, R) 74 ((160 : Int32) + v3)) (pc' := 46) (L' := [.ref 73, .int v1, .int v2, .int v3, .int v4, .int v5]) (S' := [.ref 73]) (σ' := (97, I, J, R)) (x := (I 74 ((160 : Int32) + v3).toNatClampNeg)) rfl (if_neg hc_8) ?_
      refine az_E.sn 5 (pc' := 55) (L' := [.ref 73, .int v1, .int v2, .int v3, .int v4, .int v5]) (S' := [.int ((166 : Int32) + v3), .ref 74, .int (I 74 ((160 : Int32) + v3).toNatClampNeg), .ref 73]) (σ' := (97, I, J, R)) rfl ?_
      by_cases hc_9 : ((166 : Int32) + v3) < 0 ∨ 179 ≤ ((166 : Int32) + v3).toNatClampNeg
      · rw [if_pos hc_9] at h; cases h
      · rw [if_neg hc_9] at h
        refine az_E.oi (o := az_ai az_F ex (97, I, J, R) 74 ((166 : Int32) + v3)) (pc' := 56) (L' := [.ref 73, .int v1, .int v2, .int v3, .int v4, .int v5]) (S' := [.int (I 74 ((160 : Int32) + v3).toNatClampNeg), .ref 73]) (σ' := (97, I, J, R)) (x := (I 74 ((166 : Int32) + v3).toNatClampNeg)) rfl (if_neg hc_9) ?_
        refine az_E.sn 5 (pc' := 65) (L' := [.ref 73, .int v1, .int v2, .int v3, .int v4, .int v5]) (S' := [.int ((172 : Int32) + v3), .ref 74, .int (I 74 ((166 : Int32) + v3).toNatClampNeg), .int (I 74 ((160 : Int32) + v3).toNatClampNeg), .ref 73]) (σ' := (97, I, J, R)) rfl ?_
        by_cases hc_10 : ((172 : Int32) + v3) < 0 ∨ 179 ≤ ((172 : Int32) + v3).toNatClampNeg
        · rw [if_pos hc_10] at h; cases h
        · rw [if_neg hc_10] at h
          refine az_E.oi (o := az_ai az_F ex (97, I, J, R) 74 ((172 : Int32) + v3)) (pc' := 66) (L' := [.ref 73, .int v1, .int v2, .int v3, .int v4, .int v5]) (S' := [.int (I 74 ((166 : Int32) + v3).toNatClampNeg), .int (I 74 ((160 : Int32) + v3).toNatClampNeg), .ref 73]) (σ' := (97, I, J, R)) (x := (I 74 ((172 : Int32) + v3).toNatClampNeg)) rfl (if_neg hc_10) ?_
          refine az_E.sn 1 (pc' := 68) (L' := [.ref 73, .int v1, .int v2, .int v3, .int v4, .int v5]) (S' := [.int v5, .int (I 74 ((172 : Int32) + v3).toNatClampNeg), .int (I 74 ((166 : Int32) + v3).toNatClampNeg), .int (I 74 ((160 : Int32) + v3).toNatClampNeg), .ref 73]) (σ' := (97, I, J, R)) rfl ?_
          cases hx_12 : rs_M_asksSteps I (I 74 ((160 : Int32) + v3).toNatClampNeg) (I 74 ((166 : Int32) + v3).toNatClampNeg) (I 74 ((172 : Int32) + v3).toNatClampNeg) v5 with
          | none => rw [hx_12] at h; cases h
          | some I_11 =>
            rw [hx_12] at h
            dsimp only at h
            refine az_E.call (d := 123) (k' := 189) (vs := [.ref 73, .int (I 74 ((160 : Int32) + v3).toNatClampNeg), .int (I 74 ((166 : Int32) + v3).toNatClampNeg), .int (I 74 ((172 : Int32) + v3).toNatClampNeg), .int v5]) (pc' := 71) (S' := []) (Q1 := fun v s => v = none ∧ s = (97, I_11, J, R)) rfl (az_E.deep (by omega) (re_M_asksSteps (J := J) (R := R)  hx_12 ⟨rfl, rfl⟩)) (fun v s hq => ?_)
            obtain ⟨rfl, rfl⟩ := hq
            show az_E az_F ex 124 218 71 [.ref 73, .int v1, .int v2, .int v3, .int v4, .int v5] [] (97, I_11, J, R) _
            refine az_E.sn 4 (pc' := 77) (L' := [.ref 73, .int v1, .int v2, .int v3, .int v4, .int v5]) (S' := [.int (10 : Int32), .int v1, .ref 73, .int v4]) (σ' := (97, I_11, J, R)) rfl ?_
            have hd_13 : ¬ ((10 : Int32) = 0) := by decide
            refine az_E.dv (c := (10 : Int32) = 0) (pc' := 78) (L' := [.ref 73, .int v1, .int v2, .int v3, .int v4, .int v5]) (S' := [.int (v1 / (10 : Int32)), .ref 73, .int v4]) (σ' := (97, I_11, J, R)) rfl hd_13 ?_
            cases hx_16 : rs_M_armFor I_11 (v1 / (10 : Int32)) with
            | none => rw [hx_16] at h; cases h
            | some o =>
              rw [hx_16] at h
              obtain ⟨x_14, I_15⟩ := o
              dsimp only at h
              refine az_E.call (d := 123) (k' := 197) (vs := [.ref 73, .int (v1 / (10 : Int32))]) (pc' := 81) (S' := [.int v4]) (Q1 := fun v s => v = some (.int x_14) ∧ s = (97, I_15, J, R)) rfl (az_E.deep (by omega) (re_M_armFor (J := J) (R := R)  hx_16 ⟨rfl, rfl⟩)) (fun v s hq => ?_)
              obtain ⟨rfl, rfl⟩ := hq
              show az_E az_F ex 124 218 81 [.ref 73, .int v1, .int v2, .int v3, .int v4, .int v5] [.int x_14, .int v4] (97, I_15, J, R) _
              refine az_E.sn 1 (pc' := 82) (L' := [.ref 73, .int v1, .int v2, .int v3, .int v4, .int v5]) (S' := [.int v2, .int x_14, .int v4]) (σ' := (97, I_15, J, R)) rfl ?_
              refine az_E.br (c := v2 < x_14) (tt := 92) (ff := 85) (L' := [.ref 73, .int v1, .int v2, .int v3, .int v4, .int v5]) (S' := [.int v4]) (σ' := (97, I_15, J, R)) rfl (fun hc_17 => ?_) (fun hc_17 => ?_)
              · rw [if_pos hc_17] at h
                refine az_E.sn 5 (pc' := 28) (L' := [.ref 73, .int v1, .int v2, .int v3, .int (v4 ||| (0 : Int32)), .int (v5 + (1 : Int32))]) (S' := []) (σ' := (97, I_15, J, R)) rfl ?_
                have h := Option.some.inj h
                subst h
                exact az_E.forget (L := [.ref 73, .int v1, .int v2, .int v3, .int (v4 ||| (0 : Int32)), .int (v5 + (1 : Int32))]) ⟨rfl, rfl, rfl, rfl, rfl, rfl, trivial⟩ hQ
              · rw [if_neg hc_17] at h
                refine az_E.sn 8 (pc' := 28) (L' := [.ref 73, .int v1, .int v2, .int v3, .int (v4 ||| ((1 : Int32) <<< (v5 &&& 31))), .int (v5 + (1 : Int32))]) (S' := []) (σ' := (97, I_15, J, R)) rfl ?_
                have h := Option.some.inj h
                subst h
                exact az_E.forget (L := [.ref 73, .int v1, .int v2, .int v3, .int (v4 ||| ((1 : Int32) <<< (v5 &&& 31))), .int (v5 + (1 : Int32))]) ⟨rfl, rfl, rfl, rfl, rfl, rfl, trivial⟩ hQ
set_option maxRecDepth 100000 in
set_option maxHeartbeats 4000000 in
theorem re_M_weathers_28 {ex : az_X} {I : Nat → Nat → Int32} {J : Nat → Nat → Int64} {R : Nat → Nat → Option Nat} {v1 : Int32} {v2 : Int32} {v3 : Int32} {v4 : Int32} {v5 : Int32} {x : Int32 × (Nat → Nat → Int32)} (h : rs_M_weathers_28 I v1 v2 v3 v4 v5 = some x) {Q : Option Value → az_S → Prop} (hQ : Q (some (.int x.1)) (97, x.2, J, R)) : az_E az_F ex 124 218 28 [.ref 73, .int v1, .int v2, .int v3, .int v4, .int v5] [] (97, I, J, R) Q := by
  unfold rs_M_weathers_28 at h
  refine az_lp_E (G := fun s => az_E az_F ex 124 218 28 [.ref 73, .int v1, .int v2, .int v3, .int s.1, .int s.2.1] [] (97, s.2.2, J, R) Q) (H := fun x => Q (some (.int x.1)) (97, x.2, J, R)) (fun s o hb ho => ?_) _ _ _ h hQ
  exact re_M_weathers_28_b  hb ho
set_option maxRecDepth 100000 in
set_option maxHeartbeats 4000000 in
theorem re_M_weathers {ex : az_X} {I : Nat → Nat → Int32} {J : Nat → Nat → Int64} {R : Nat → Nat → Option Nat} {a1 : Int32} {a2 : Int32} {o : Int32 × (Nat → Nat → Int32)} (h : rs_M_weathers I a1 a2 = some o) {Q : Option Value → az_S → Prop} (hQ : Q (some (.int o.1)) (97, o.2, J, R)) : az_E az_F ex 124 218 0 [.ref 73, .int a1, .int a2, .retAddr 0, .retAddr 0, .retAddr 0] [] (97, I, J, R) Q := by
  unfold rs_M_weathers at h
  refine az_E.sn 2 (pc' := 2) (L' := [.ref 73, .int a1, .int a2, .retAddr 0, .retAddr 0, .retAddr 0]) (S' := [.int a1, .ref 73]) (σ' := (97, I, J, R)) rfl ?_
  cases hx_2 : rs_M_isAw I a1 with
  | none => rw [hx_2] at h; cases h
  | some x_1 =>
    rw [hx_2] at h
    dsimp only at h
    refine az_E.call (d := 123) (k' := 164) (vs := [.ref 73, .int a1]) (pc' := 5) (S' := []) (Q1 := fun v s => v = some (.int x_1) ∧ s = (97, I, J, R)) rfl (az_E.deep (by omega) (re_M_isAw (J := J) (R := R)  hx_2 ⟨rfl, rfl⟩)) (fun v s hq => ?_)
    obtain ⟨rfl, rfl⟩ := hq
    show az_E az_F ex 124 218 5 [.ref 73, .int a1, .int a2, .retAddr 0, .retAddr 0, .retAddr 0] [.int x_1] (97, I, J, R) _
    refine az_E.br (c := x_1 = 0) (tt := 15) (ff := 8) (L' := [.ref 73, .int a1, .int a2, .retAddr 0, .retAddr 0, .retAddr 0]) (S' := []) (σ' := (97, I, J, R)) rfl (fun hc_3 => ?_) (fun hc_3 => ?_)
    · rw [if_pos hc_3] at h
      refine az_E.sn 1 (pc' := 16) (L' := [.ref 73, .int a1, .int a2, .retAddr 0, .retAddr 0, .retAddr 0]) (S' := [.int (-1 : Int32)]) (σ' := (97, I, J, R)) rfl ?_
      have h := Option.some.inj h
      subst h
      exact az_E.ret (v := some (.int (-1 : Int32))) (σ' := (97, I, J, R)) rfl hQ
    · rw [if_neg hc_3] at h
      refine az_E.sn 1 (pc' := 9) (L' := [.ref 73, .int a1, .int a2, .retAddr 0, .retAddr 0, .retAddr 0]) (S' := [.int a2]) (σ' := (97, I, J, R)) rfl ?_
      refine az_E.call (d := 123) (k' := 213) (vs := [.int a2]) (pc' := 12) (S' := []) rfl ?_ (fun _ _ hq => hq)
      show az_E az_F ex 123 213 0 [.int a2] [] (97, I, J, R) _
      refine az_E.sn 4 (pc' := 6) (L' := [.int a2]) (S' := [.long (9999 : Int64), .long (0 : Int64), .long a2.toInt64]) (σ' := (97, I, J, R)) rfl ?_
      refine az_E.call (d := 122) (k' := 154) (vs := [.long a2.toInt64, .long (0 : Int64), .long (9999 : Int64)]) (pc' := 9) (S' := []) rfl ?_ (fun _ _ hq => hq)
      show az_E az_F ex 122 154 0 [.long a2.toInt64, .retAddr 0, .long (0 : Int64), .retAddr 0, .long (9999 : Int64), .retAddr 0] [] (97, I, J, R) _
      refine az_E.sn 3 (pc' := 3) (L' := [.long a2.toInt64, .retAddr 0, .long (0 : Int64), .retAddr 0, .long (9999 : Int64), .retAddr 0]) (S' := [.int (lg_cmp a2.toInt64 (0 : Int64))]) (σ' := (97, I, J, R)) rfl ?_
      refine az_E.br (c := (lg_cmp a2.toInt64 (0 : Int64)) < 0) (tt := 17) (ff := 6) (L' := [.long a2.toInt64, .retAddr 0, .long (0 : Int64), .retAddr 0, .long (9999 : Int64), .retAddr 0]) (S' := []) (σ' := (97, I, J, R)) rfl (fun hc_4 => ?_) (fun hc_4 => ?_)
      · rw [if_pos hc_4] at h
        refine az_E.sn 1 (pc' := 18) (L' := [.long a2.toInt64, .retAddr 0, .long (0 : Int64), .retAddr 0, .long (9999 : Int64), .retAddr 0]) (S' := [.int (0 : Int32)]) (σ' := (97, I, J, R)) rfl ?_
        refine az_E.ret (v := some (.int (0 : Int32))) (σ' := (97, I, J, R)) rfl ?_
        show az_E az_F ex 123 213 9 [.int a2] [.int (0 : Int32)] (97, I, J, R) _
        refine az_E.ret (v := some (.int (0 : Int32))) (σ' := (97, I, J, R)) rfl ?_
        show az_E az_F ex 124 218 12 [.ref 73, .int a1, .int a2, .retAddr 0, .retAddr 0, .retAddr 0] [.int (0 : Int32)] (97, I, J, R) _
        refine az_E.br (c := (0 : Int32) = 0) (tt := 15) (ff := 17) (L' := [.ref 73, .int a1, .int a2, .retAddr 0, .retAddr 0, .retAddr 0]) (S' := []) (σ' := (97, I, J, R)) rfl (fun _ => ?_) (fun hn => absurd (by decide) hn)
        refine az_E.sn 1 (pc' := 16) (L' := [.ref 73, .int a1, .int a2, .retAddr 0, .retAddr 0, .retAddr 0]) (S' := [.int (-1 : Int32)]) (σ' := (97, I, J, R)) rfl ?_
        have h := Option.some.inj h
        subst h
        exact az_E.ret (v := some (.int (-1 : Int32))) (σ' := (97, I, J, R)) rfl hQ
      · rw [if_neg hc_4] at h
        refine az_E.sn 3 (pc' := 10) (L' := [.long a2.toInt64, .retAddr 0, .long (0 : Int64), .retAddr 0, .long (9999 : Int64), .retAddr 0]) (S' := [.int (lg_cmp a2.toInt64 (9999 : Int64))]) (σ' := (97, I, J, R)) rfl ?_
        refine az_E.br (c := 0 < (lg_cmp a2.toInt64 (9999 : Int64))) (tt := 17) (ff := 13) (L' := [.long a2.toInt64, .retAddr 0, .long (0 : Int64), .retAddr 0, .long (9999 : Int64), .retAddr 0]) (S' := []) (σ' := (97, I, J, R)) rfl (fun hc_5 => ?_) (fun hc_5 => ?_)
        · rw [if_pos hc_5] at h
          refine az_E.sn 1 (pc' := 18) (L' := [.long a2.toInt64, .retAddr 0, .long (0 : Int64), .retAddr 0, .long (9999 : Int64), .retAddr 0]) (S' := [.int (0 : Int32)]) (σ' := (97, I, J, R)) rfl ?_
          refine az_E.ret (v := some (.int (0 : Int32))) (σ' := (97, I, J, R)) rfl ?_
          show az_E az_F ex 123 213 9 [.int a2] [.int (0 : Int32)] (97, I, J, R) _
          refine az_E.ret (v := some (.int (0 : Int32))) (σ' := (97, I, J, R)) rfl ?_
          show az_E az_F ex 124 218 12 [.ref 73, .int a1, .int a2, .retAddr 0, .retAddr 0, .retAddr 0] [.int (0 : Int32)] (97, I, J, R) _
          refine az_E.br (c := (0 : Int32) = 0) (tt := 15) (ff := 17) (L' := [.ref 73, .int a1, .int a2, .retAddr 0, .retAddr 0, .retAddr 0]) (S' := []) (σ' := (97, I, J, R)) rfl (fun _ => ?_) (fun hn => absurd (by decide) hn)
          refine az_E.sn 1 (pc' := 16) (L' := [.ref 73, .int a1, .int a2, .retAddr 0, .retAddr 0, .retAddr 0]) (S' := [.int (-1 : Int32)]) (σ' := (97, I, J, R)) rfl ?_
          have h := Option.some.inj h
          subst h
          exact az_E.ret (v := some (.int (-1 : Int32))) (σ' := (97, I, J, R)) rfl hQ
        · rw [if_neg hc_5] at h
          refine az_E.sn 2 (pc' := 18) (L' := [.long a2.toInt64, .retAddr 0, .long (0 : Int64), .retAddr 0, .long (9999 : Int64), .retAddr 0]) (S' := [.int (1 : Int32)]) (σ' := (97, I, J, R)) rfl ?_
          refine az_E.ret (v := some (.int (1 : Int32))) (σ' := (97, I, J, R)) rfl ?_
          show az_E az_F ex 123 213 9 [.int a2] [.int (1 : Int32)] (97, I, J, R) _
          refine az_E.ret (v := some (.int (1 : Int32))) (σ' := (97, I, J, R)) rfl ?_
          show az_E az_F ex 124 218 12 [.ref 73, .int a1, .int a2, .retAddr 0, .retAddr 0, .retAddr 0] [.int (1 : Int32)] (97, I, J, R) _
          refine az_E.br (c := (1 : Int32) = 0) (tt := 15) (ff := 17) (L' := [.ref 73, .int a1, .int a2, .retAddr 0, .retAddr 0, .retAddr 0]) (S' := []) (σ' := (97, I, J, R)) rfl (fun hn => absurd hn (by decide)) (fun _ => ?_)
          refine az_E.sn 2 (pc' := 20) (L' := [.ref 73, .int a1, .int a2, .retAddr 0, .retAddr 0, .retAddr 0]) (S' := [.int (10 : Int32), .int a1]) (σ' := (97, I, J, R)) rfl ?_
          have hd_6 : ¬ ((10 : Int32) = 0) := by decide
          refine az_E.dv (c := (10 : Int32) = 0) (pc' := 21) (L' := [.ref 73, .int a1, .int a2, .retAddr 0, .retAddr 0, .retAddr 0]) (S' := [.int (a1 - a1 / (10 : Int32) * (10 : Int32))]) (σ' := (97, I, J, R)) rfl hd_6 ?_
          refine az_E.sn 5 (pc' := 28) (L' := [.ref 73, .int a1, .int a2, .int (a1 - a1 / (10 : Int32) * (10 : Int32)), .int (0 : Int32), .int (0 : Int32)]) (S' := []) (σ' := (97, I, J, R)) rfl ?_
          exact az_E.forget (L := [.ref 73, .int a1, .int a2, .int (a1 - a1 / (10 : Int32) * (10 : Int32)), .int (0 : Int32), .int (0 : Int32)]) ⟨rfl, rfl, rfl, rfl, rfl, rfl, trivial⟩ (re_M_weathers_28 (I := I) (J := J) (R := R)  h hQ)
set_option maxRecDepth 100000 in
set_option maxHeartbeats 4000000 in
theorem re_X_refusalOfBook_21_61 {ex : az_X} {I : Nat → Nat → Int32} {J : Nat → Nat → Int64} {R : Nat → Nat → Option Nat} {x : Int32} (h : rs_X_refusalOfBook_21 61 I = some x) {Q : Option Value → az_S → Prop} (hQ : Q (some (.int x)) (97, I, J, R)) : az_E az_F ex 2 150 21 [.retAddr 0, .retAddr 0] [.ref 61] (97, I, J, R) Q := by
  unfold rs_X_refusalOfBook_21 at h
  refine az_E.sn 1 (pc' := 22) (L' := [.retAddr 0, .retAddr 0]) (S' := [.int (1 : Int32), .ref 61]) (σ' := (97, I, J, R)) rfl ?_
  refine az_E.call (d := 1) (k' := 56) (vs := [.ref 61, .int (1 : Int32)]) (pc' := 25) (S' := []) rfl ?_ (fun _ _ hq => hq)
  show az_E az_F ex 1 56 0 [.ref 61, .int (1 : Int32)] [] (97, I, J, R) _
  refine az_E.sn 1 (pc' := 1) (L' := [.ref 61, .int (1 : Int32)]) (S' := [.ref 61]) (σ' := (97, I, J, R)) rfl ?_
  refine az_E.call (d := 0) (k' := 55) (vs := [.ref 61]) (pc' := 4) (S' := []) rfl ?_ (fun _ _ hq => hq)
  show az_E az_F ex 0 55 0 [.ref 61] [] (97, I, J, R) _
  refine az_E.sn 3 (pc' := 5) (L' := [.ref 61]) (S' := [.int (-1 : Int32), .int (I 61 1)]) (σ' := (97, I, J, R)) rfl ?_
  refine az_E.br (c := (I 61 1) = (-1 : Int32)) (tt := 12) (ff := 8) (L' := [.ref 61]) (S' := []) (σ' := (97, I, J, R)) rfl (fun hc_5 => ?_) (fun hc_5 => ?_)
  · rw [if_pos hc_5] at h
    refine az_E.sn 1 (pc' := 13) (L' := [.ref 61]) (S' := [.int (0 : Int32)]) (σ' := (97, I, J, R)) rfl ?_
    refine az_E.ret (v := some (.int (0 : Int32))) (σ' := (97, I, J, R)) rfl ?_
    show az_E az_F ex 1 56 4 [.ref 61, .int (1 : Int32)] [.int (0 : Int32)] (97, I, J, R) _
    refine az_E.br (c := (0 : Int32) = 0) (tt := 19) (ff := 7) (L' := [.ref 61, .int (1 : Int32)]) (S' := []) (σ' := (97, I, J, R)) rfl (fun _ => ?_) (fun hn => absurd (by decide) hn)
    refine az_E.sn 1 (pc' := 20) (L' := [.ref 61, .int (1 : Int32)]) (S' := [.int (0 : Int32)]) (σ' := (97, I, J, R)) rfl ?_
    refine az_E.ret (v := some (.int (0 : Int32))) (σ' := (97, I, J, R)) rfl ?_
    show az_E az_F ex 2 150 25 [.retAddr 0, .retAddr 0] [.int (0 : Int32)] (97, I, J, R) _
    refine az_E.br (c := (0 : Int32) = 0) (tt := 32) (ff := 28) (L' := [.retAddr 0, .retAddr 0]) (S' := []) (σ' := (97, I, J, R)) rfl (fun _ => ?_) (fun hn => absurd (by decide) hn)
    refine az_E.sn 1 (pc' := 34) (L' := [.retAddr 0, .retAddr 0]) (S' := [.int (-12 : Int32)]) (σ' := (97, I, J, R)) rfl ?_
    have h := Option.some.inj h
    subst h
    exact az_E.ret (v := some (.int (-12 : Int32))) (σ' := (97, I, J, R)) rfl hQ
  · rw [if_neg hc_5] at h
    refine az_E.sn 2 (pc' := 13) (L' := [.ref 61]) (S' := [.int (1 : Int32)]) (σ' := (97, I, J, R)) rfl ?_
    refine az_E.ret (v := some (.int (1 : Int32))) (σ' := (97, I, J, R)) rfl ?_
    show az_E az_F ex 1 56 4 [.ref 61, .int (1 : Int32)] [.int (1 : Int32)] (97, I, J, R) _
    refine az_E.br (c := (1 : Int32) = 0) (tt := 19) (ff := 7) (L' := [.ref 61, .int (1 : Int32)]) (S' := []) (σ' := (97, I, J, R)) rfl (fun hn => absurd hn (by decide)) (fun _ => ?_)
    refine az_E.sn 3 (pc' := 12) (L' := [.ref 61, .int (1 : Int32)]) (S' := [.int (1 : Int32), .int (I 61 1)]) (σ' := (97, I, J, R)) rfl ?_
    refine az_E.br (c := (I 61 1) = (1 : Int32)) (tt := 15) (ff := 19) (L' := [.ref 61, .int (1 : Int32)]) (S' := []) (σ' := (97, I, J, R)) rfl (fun hc_6 => ?_) (fun hc_6 => ?_)
    · rw [if_pos hc_6] at h
      refine az_E.sn 2 (pc' := 20) (L' := [.ref 61, .int (1 : Int32)]) (S' := [.int (1 : Int32)]) (σ' := (97, I, J, R)) rfl ?_
      refine az_E.ret (v := some (.int (1 : Int32))) (σ' := (97, I, J, R)) rfl ?_
      show az_E az_F ex 2 150 25 [.retAddr 0, .retAddr 0] [.int (1 : Int32)] (97, I, J, R) _
      refine az_E.br (c := (1 : Int32) = 0) (tt := 32) (ff := 28) (L' := [.retAddr 0, .retAddr 0]) (S' := []) (σ' := (97, I, J, R)) rfl (fun hn => absurd hn (by decide)) (fun _ => ?_)
      refine az_E.sn 2 (pc' := 34) (L' := [.retAddr 0, .retAddr 0]) (S' := [.int (0 : Int32)]) (σ' := (97, I, J, R)) rfl ?_
      have h := Option.some.inj h
      subst h
      exact az_E.ret (v := some (.int (0 : Int32))) (σ' := (97, I, J, R)) rfl hQ
    · rw [if_neg hc_6] at h
      refine az_E.sn 1 (pc' := 20) (L' := [.ref 61, .int (1 : Int32)]) (S' := [.int (0 : Int32)]) (σ' := (97, I, J, R)) rfl ?_
      refine az_E.ret (v := some (.int (0 : Int32))) (σ' := (97, I, J, R)) rfl ?_
      show az_E az_F ex 2 150 25 [.retAddr 0, .retAddr 0] [.int (0 : Int32)] (97, I, J, R) _
      refine az_E.br (c := (0 : Int32) = 0) (tt := 32) (ff := 28) (L' := [.retAddr 0, .retAddr 0]) (S' := []) (σ' := (97, I, J, R)) rfl (fun _ => ?_) (fun hn => absurd (by decide) hn)
      refine az_E.sn 1 (pc' := 34) (L' := [.retAddr 0, .retAddr 0]) (S' := [.int (-12 : Int32)]) (σ' := (97, I, J, R)) rfl ?_
      have h := Option.some.inj h
      subst h
      exact az_E.ret (v := some (.int (-12 : Int32))) (σ' := (97, I, J, R)) rfl hQ
set_option maxRecDepth 100000 in
set_option maxHeartbeats 4000000 in
theorem re_X_refusalOfBook_21_63 {ex : az_X} {I : Nat → Nat → Int32} {J : Nat → Nat → Int64} {R : Nat → Nat → Option Nat} {x : Int32} (h : rs_X_refusalOfBook_21 63 I = some x) {Q : Option Value → az_S → Prop} (hQ : Q (some (.int x)) (97, I, J, R)) : az_E az_F ex 2 150 21 [.retAddr 0, .retAddr 0] [.ref 63] (97, I, J, R) Q := by
  unfold rs_X_refusalOfBook_21 at h
  refine az_E.sn 1 (pc' := 22) (L' := [.retAddr 0, .retAddr 0]) (S' := [.int (1 : Int32), .ref 63]) (σ' := (97, I, J, R)) rfl ?_
  refine az_E.call (d := 1) (k' := 56) (vs := [.ref 63, .int (1 : Int32)]) (pc' := 25) (S' := []) rfl ?_ (fun _ _ hq => hq)
  show az_E az_F ex 1 56 0 [.ref 63, .int (1 : Int32)] [] (97, I, J, R) _
  refine az_E.sn 1 (pc' := 1) (L' := [.ref 63, .int (1 : Int32)]) (S' := [.ref 63]) (σ' := (97, I, J, R)) rfl ?_
  refine az_E.call (d := 0) (k' := 55) (vs := [.ref 63]) (pc' := 4) (S' := []) rfl ?_ (fun _ _ hq => hq)
  show az_E az_F ex 0 55 0 [.ref 63] [] (97, I, J, R) _
  refine az_E.sn 3 (pc' := 5) (L' := [.ref 63]) (S' := [.int (-1 : Int32), .int (I 63 1)]) (σ' := (97, I, J, R)) rfl ?_
  refine az_E.br (c := (I 63 1) = (-1 : Int32)) (tt := 12) (ff := 8) (L' := [.ref 63]) (S' := []) (σ' := (97, I, J, R)) rfl (fun hc_7 => ?_) (fun hc_7 => ?_)
  · rw [if_pos hc_7] at h
    refine az_E.sn 1 (pc' := 13) (L' := [.ref 63]) (S' := [.int (0 : Int32)]) (σ' := (97, I, J, R)) rfl ?_
    refine az_E.ret (v := some (.int (0 : Int32))) (σ' := (97, I, J, R)) rfl ?_
    show az_E az_F ex 1 56 4 [.ref 63, .int (1 : Int32)] [.int (0 : Int32)] (97, I, J, R) _
    refine az_E.br (c := (0 : Int32) = 0) (tt := 19) (ff := 7) (L' := [.ref 63, .int (1 : Int32)]) (S' := []) (σ' := (97, I, J, R)) rfl (fun _ => ?_) (fun hn => absurd (by decide) hn)
    refine az_E.sn 1 (pc' := 20) (L' := [.ref 63, .int (1 : Int32)]) (S' := [.int (0 : Int32)]) (σ' := (97, I, J, R)) rfl ?_
    refine az_E.ret (v := some (.int (0 : Int32))) (σ' := (97, I, J, R)) rfl ?_
    show az_E az_F ex 2 150 25 [.retAddr 0, .retAddr 0] [.int (0 : Int32)] (97, I, J, R) _
    refine az_E.br (c := (0 : Int32) = 0) (tt := 32) (ff := 28) (L' := [.retAddr 0, .retAddr 0]) (S' := []) (σ' := (97, I, J, R)) rfl (fun _ => ?_) (fun hn => absurd (by decide) hn)
    refine az_E.sn 1 (pc' := 34) (L' := [.retAddr 0, .retAddr 0]) (S' := [.int (-12 : Int32)]) (σ' := (97, I, J, R)) rfl ?_
    have h := Option.some.inj h
    subst h
    exact az_E.ret (v := some (.int (-12 : Int32))) (σ' := (97, I, J, R)) rfl hQ
  · rw [if_neg hc_7] at h
    refine az_E.sn 2 (pc' := 13) (L' := [.ref 63]) (S' := [.int (1 : Int32)]) (σ' := (97, I, J, R)) rfl ?_
    refine az_E.ret (v := some (.int (1 : Int32))) (σ' := (97, I, J, R)) rfl ?_
    show az_E az_F ex 1 56 4 [.ref 63, .int (1 : Int32)] [.int (1 : Int32)] (97, I, J, R) _
    refine az_E.br (c := (1 : Int32) = 0) (tt := 19) (ff := 7) (L' := [.ref 63, .int (1 : Int32)]) (S' := []) (σ' := (97, I, J, R)) rfl (fun hn => absurd hn (by decide)) (fun _ => ?_)
    refine az_E.sn 3 (pc' := 12) (L' := [.ref 63, .int (1 : Int32)]) (S' := [.int (1 : Int32), .int (I 63 1)]) (σ' := (97, I, J, R)) rfl ?_
    refine az_E.br (c := (I 63 1) = (1 : Int32)) (tt := 15) (ff := 19) (L' := [.ref 63, .int (1 : Int32)]) (S' := []) (σ' := (97, I, J, R)) rfl (fun hc_8 => ?_) (fun hc_8 => ?_)
    · rw [if_pos hc_8] at h
      refine az_E.sn 2 (pc' := 20) (L' := [.ref 63, .int (1 : Int32)]) (S' := [.int (1 : Int32)]) (σ' := (97, I, J, R)) rfl ?_
      refine az_E.ret (v := some (.int (1 : Int32))) (σ' := (97, I, J, R)) rfl ?_
      show az_E az_F ex 2 150 25 [.retAddr 0, .retAddr 0] [.int (1 : Int32)] (97, I, J, R) _
      refine az_E.br (c := (1 : Int32) = 0) (tt := 32) (ff := 28) (L' := [.retAddr 0, .retAddr 0]) (S' := []) (σ' := (97, I, J, R)) rfl (fun hn => absurd hn (by decide)) (fun _ => ?_)
      refine az_E.sn 2 (pc' := 34) (L' := [.retAddr 0, .retAddr 0]) (S' := [.int (0 : Int32)]) (σ' := (97, I, J, R)) rfl ?_
      have h := Option.some.inj h
      subst h
      exact az_E.ret (v := some (.int (0 : Int32))) (σ' := (97, I, J, R)) rfl hQ
    · rw [if_neg hc_8] at h
      refine az_E.sn 1 (pc' := 20) (L' := [.ref 63, .int (1 : Int32)]) (S' := [.int (0 : Int32)]) (σ' := (97, I, J, R)) rfl ?_
      refine az_E.ret (v := some (.int (0 : Int32))) (σ' := (97, I, J, R)) rfl ?_
      show az_E az_F ex 2 150 25 [.retAddr 0, .retAddr 0] [.int (0 : Int32)] (97, I, J, R) _
      refine az_E.br (c := (0 : Int32) = 0) (tt := 32) (ff := 28) (L' := [.retAddr 0, .retAddr 0]) (S' := []) (σ' := (97, I, J, R)) rfl (fun _ => ?_) (fun hn => absurd (by decide) hn)
      refine az_E.sn 1 (pc' := 34) (L' := [.retAddr 0, .retAddr 0]) (S' := [.int (-12 : Int32)]) (σ' := (97, I, J, R)) rfl ?_
      have h := Option.some.inj h
      subst h
      exact az_E.ret (v := some (.int (-12 : Int32))) (σ' := (97, I, J, R)) rfl hQ
set_option maxRecDepth 100000 in
set_option maxHeartbeats 4000000 in
theorem re_X_refusalOfBook_21_65 {ex : az_X} {I : Nat → Nat → Int32} {J : Nat → Nat → Int64} {R : Nat → Nat → Option Nat} {x : Int32} (h : rs_X_refusalOfBook_21 65 I = some x) {Q : Option Value → az_S → Prop} (hQ : Q (some (.int x)) (97, I, J, R)) : az_E az_F ex 2 150 21 [.retAddr 0, .retAddr 0] [.ref 65] (97, I, J, R) Q := by
  unfold rs_X_refusalOfBook_21 at h
  refine az_E.sn 1 (pc' := 22) (L' := [.retAddr 0, .retAddr 0]) (S' := [.int (1 : Int32), .ref 65]) (σ' := (97, I, J, R)) rfl ?_
  refine az_E.call (d := 1) (k' := 56) (vs := [.ref 65, .int (1 : Int32)]) (pc' := 25) (S' := []) rfl ?_ (fun _ _ hq => hq)
  show az_E az_F ex 1 56 0 [.ref 65, .int (1 : Int32)] [] (97, I, J, R) _
  refine az_E.sn 1 (pc' := 1) (L' := [.ref 65, .int (1 : Int32)]) (S' := [.ref 65]) (σ' := (97, I, J, R)) rfl ?_
  refine az_E.call (d := 0) (k' := 55) (vs := [.ref 65]) (pc' := 4) (S' := []) rfl ?_ (fun _ _ hq => hq)
  show az_E az_F ex 0 55 0 [.ref 65] [] (97, I, J, R) _
  refine az_E.sn 3 (pc' := 5) (L' := [.ref 65]) (S' := [.int (-1 : Int32), .int (I 65 1)]) (σ' := (97, I, J, R)) rfl ?_
  refine az_E.br (c := (I 65 1) = (-1 : Int32)) (tt := 12) (ff := 8) (L' := [.ref 65]) (S' := []) (σ' := (97, I, J, R)) rfl (fun hc_9 => ?_) (fun hc_9 => ?_)
  · rw [if_pos hc_9] at h
    refine az_E.sn 1 (pc' := 13) (L' := [.ref 65]) (S' := [.int (0 : Int32)]) (σ' := (97, I, J, R)) rfl ?_
    refine az_E.ret (v := some (.int (0 : Int32))) (σ' := (97, I, J, R)) rfl ?_
    show az_E az_F ex 1 56 4 [.ref 65, .int (1 : Int32)] [.int (0 : Int32)] (97, I, J, R) _
    refine az_E.br (c := (0 : Int32) = 0) (tt := 19) (ff := 7) (L' := [.ref 65, .int (1 : Int32)]) (S' := []) (σ' := (97, I, J, R)) rfl (fun _ => ?_) (fun hn => absurd (by decide) hn)
    refine az_E.sn 1 (pc' := 20) (L' := [.ref 65, .int (1 : Int32)]) (S' := [.int (0 : Int32)]) (σ' := (97, I, J, R)) rfl ?_
    refine az_E.ret (v := some (.int (0 : Int32))) (σ' := (97, I, J, R)) rfl ?_
    show az_E az_F ex 2 150 25 [.retAddr 0, .retAddr 0] [.int (0 : Int32)] (97, I, J, R) _
    refine az_E.br (c := (0 : Int32) = 0) (tt := 32) (ff := 28) (L' := [.retAddr 0, .retAddr 0]) (S' := []) (σ' := (97, I, J, R)) rfl (fun _ => ?_) (fun hn => absurd (by decide) hn)
    refine az_E.sn 1 (pc' := 34) (L' := [.retAddr 0, .retAddr 0]) (S' := [.int (-12 : Int32)]) (σ' := (97, I, J, R)) rfl ?_
    have h := Option.some.inj h
    subst h
    exact az_E.ret (v := some (.int (-12 : Int32))) (σ' := (97, I, J, R)) rfl hQ
  · rw [if_neg hc_9] at h
    refine az_E.sn 2 (pc' := 13) (L' := [.ref 65]) (S' := [.int (1 : Int32)]) (σ' := (97, I, J, R)) rfl ?_
    refine az_E.ret (v := some (.int (1 : Int32))) (σ' := (97, I, J, R)) rfl ?_
    show az_E az_F ex 1 56 4 [.ref 65, .int (1 : Int32)] [.int (1 : Int32)] (97, I, J, R) _
    refine az_E.br (c := (1 : Int32) = 0) (tt := 19) (ff := 7) (L' := [.ref 65, .int (1 : Int32)]) (S' := []) (σ' := (97, I, J, R)) rfl (fun hn => absurd hn (by decide)) (fun _ => ?_)
    refine az_E.sn 3 (pc' := 12) (L' := [.ref 65, .int (1 : Int32)]) (S' := [.int (1 : Int32), .int (I 65 1)]) (σ' := (97, I, J, R)) rfl ?_
    refine az_E.br (c := (I 65 1) = (1 : Int32)) (tt := 15) (ff := 19) (L' := [.ref 65, .int (1 : Int32)]) (S' := []) (σ' := (97, I, J, R)) rfl (fun hc_10 => ?_) (fun hc_10 => ?_)
    · rw [if_pos hc_10] at h
      refine az_E.sn 2 (pc' := 20) (L' := [.ref 65, .int (1 : Int32)]) (S' := [.int (1 : Int32)]) (σ' := (97, I, J, R)) rfl ?_
      refine az_E.ret (v := some (.int (1 : Int32))) (σ' := (97, I, J, R)) rfl ?_
      show az_E az_F ex 2 150 25 [.retAddr 0, .retAddr 0] [.int (1 : Int32)] (97, I, J, R) _
      refine az_E.br (c := (1 : Int32) = 0) (tt := 32) (ff := 28) (L' := [.retAddr 0, .retAddr 0]) (S' := []) (σ' := (97, I, J, R)) rfl (fun hn => absurd hn (by decide)) (fun _ => ?_)
      refine az_E.sn 2 (pc' := 34) (L' := [.retAddr 0, .retAddr 0]) (S' := [.int (0 : Int32)]) (σ' := (97, I, J, R)) rfl ?_
      have h := Option.some.inj h
      subst h
      exact az_E.ret (v := some (.int (0 : Int32))) (σ' := (97, I, J, R)) rfl hQ
    · rw [if_neg hc_10] at h
      refine az_E.sn 1 (pc' := 20) (L' := [.ref 65, .int (1 : Int32)]) (S' := [.int (0 : Int32)]) (σ' := (97, I, J, R)) rfl ?_
      refine az_E.ret (v := some (.int (0 : Int32))) (σ' := (97, I, J, R)) rfl ?_
      show az_E az_F ex 2 150 25 [.retAddr 0, .retAddr 0] [.int (0 : Int32)] (97, I, J, R) _
      refine az_E.br (c := (0 : Int32) = 0) (tt := 32) (ff := 28) (L' := [.retAddr 0, .retAddr 0]) (S' := []) (σ' := (97, I, J, R)) rfl (fun _ => ?_) (fun hn => absurd (by decide) hn)
      refine az_E.sn 1 (pc' := 34) (L' := [.retAddr 0, .retAddr 0]) (S' := [.int (-12 : Int32)]) (σ' := (97, I, J, R)) rfl ?_
      have h := Option.some.inj h
      subst h
      exact az_E.ret (v := some (.int (-12 : Int32))) (σ' := (97, I, J, R)) rfl hQ
set_option maxRecDepth 100000 in
set_option maxHeartbeats 4000000 in
theorem re_X_refusalOfBook_21_67 {ex : az_X} {I : Nat → Nat → Int32} {J : Nat → Nat → Int64} {R : Nat → Nat → Option Nat} {x : Int32} (h : rs_X_refusalOfBook_21 67 I = some x) {Q : Option Value → az_S → Prop} (hQ : Q (some (.int x)) (97, I, J, R)) : az_E az_F ex 2 150 21 [.retAddr 0, .retAddr 0] [.ref 67] (97, I, J, R) Q := by
  unfold rs_X_refusalOfBook_21 at h
  refine az_E.sn 1 (pc' := 22) (L' := [.retAddr 0, .retAddr 0]) (S' := [.int (1 : Int32), .ref 67]) (σ' := (97, I, J, R)) rfl ?_
  refine az_E.call (d := 1) (k' := 56) (vs := [.ref 67, .int (1 : Int32)]) (pc' := 25) (S' := []) rfl ?_ (fun _ _ hq => hq)
  show az_E az_F ex 1 56 0 [.ref 67, .int (1 : Int32)] [] (97, I, J, R) _
  refine az_E.sn 1 (pc' := 1) (L' := [.ref 67, .int (1 : Int32)]) (S' := [.ref 67]) (σ' := (97, I, J, R)) rfl ?_
  refine az_E.call (d := 0) (k' := 55) (vs := [.ref 67]) (pc' := 4) (S' := []) rfl ?_ (fun _ _ hq => hq)
  show az_E az_F ex 0 55 0 [.ref 67] [] (97, I, J, R) _
  refine az_E.sn 3 (pc' := 5) (L' := [.ref 67]) (S' := [.int (-1 : Int32), .int (I 67 1)]) (σ' := (97, I, J, R)) rfl ?_
  refine az_E.br (c := (I 67 1) = (-1 : Int32)) (tt := 12) (ff := 8) (L' := [.ref 67]) (S' := []) (σ' := (97, I, J, R)) rfl (fun hc_11 => ?_) (fun hc_11 => ?_)
  · rw [if_pos hc_11] at h
    refine az_E.sn 1 (pc' := 13) (L' := [.ref 67]) (S' := [.int (0 : Int32)]) (σ' := (97, I, J, R)) rfl ?_
    refine az_E.ret (v := some (.int (0 : Int32))) (σ' := (97, I, J, R)) rfl ?_
    show az_E az_F ex 1 56 4 [.ref 67, .int (1 : Int32)] [.int (0 : Int32)] (97, I, J, R) _
    refine az_E.br (c := (0 : Int32) = 0) (tt := 19) (ff := 7) (L' := [.ref 67, .int (1 : Int32)]) (S' := []) (σ' := (97, I, J, R)) rfl (fun _ => ?_) (fun hn => absurd (by decide) hn)
    refine az_E.sn 1 (pc' := 20) (L' := [.ref 67, .int (1 : Int32)]) (S' := [.int (0 : Int32)]) (σ' := (97, I, J, R)) rfl ?_
    refine az_E.ret (v := some (.int (0 : Int32))) (σ' := (97, I, J, R)) rfl ?_
    show az_E az_F ex 2 150 25 [.retAddr 0, .retAddr 0] [.int (0 : Int32)] (97, I, J, R) _
    refine az_E.br (c := (0 : Int32) = 0) (tt := 32) (ff := 28) (L' := [.retAddr 0, .retAddr 0]) (S' := []) (σ' := (97, I, J, R)) rfl (fun _ => ?_) (fun hn => absurd (by decide) hn)
    refine az_E.sn 1 (pc' := 34) (L' := [.retAddr 0, .retAddr 0]) (S' := [.int (-12 : Int32)]) (σ' := (97, I, J, R)) rfl ?_
    have h := Option.some.inj h
    subst h
    exact az_E.ret (v := some (.int (-12 : Int32))) (σ' := (97, I, J, R)) rfl hQ
  · rw [if_neg hc_11] at h
    refine az_E.sn 2 (pc' := 13) (L' := [.ref 67]) (S' := [.int (1 : Int32)]) (σ' := (97, I, J, R)) rfl ?_
    refine az_E.ret (v := some (.int (1 : Int32))) (σ' := (97, I, J, R)) rfl ?_
    show az_E az_F ex 1 56 4 [.ref 67, .int (1 : Int32)] [.int (1 : Int32)] (97, I, J, R) _
    refine az_E.br (c := (1 : Int32) = 0) (tt := 19) (ff := 7) (L' := [.ref 67, .int (1 : Int32)]) (S' := []) (σ' := (97, I, J, R)) rfl (fun hn => absurd hn (by decide)) (fun _ => ?_)
    refine az_E.sn 3 (pc' := 12) (L' := [.ref 67, .int (1 : Int32)]) (S' := [.int (1 : Int32), .int (I 67 1)]) (σ' := (97, I, J, R)) rfl ?_
    refine az_E.br (c := (I 67 1) = (1 : Int32)) (tt := 15) (ff := 19) (L' := [.ref 67, .int (1 : Int32)]) (S' := []) (σ' := (97, I, J, R)) rfl (fun hc_12 => ?_) (fun hc_12 => ?_)
    · rw [if_pos hc_12] at h
      refine az_E.sn 2 (pc' := 20) (L' := [.ref 67, .int (1 : Int32)]) (S' := [.int (1 : Int32)]) (σ' := (97, I, J, R)) rfl ?_
      refine az_E.ret (v := some (.int (1 : Int32))) (σ' := (97, I, J, R)) rfl ?_
      show az_E az_F ex 2 150 25 [.retAddr 0, .retAddr 0] [.int (1 : Int32)] (97, I, J, R) _
      refine az_E.br (c := (1 : Int32) = 0) (tt := 32) (ff := 28) (L' := [.retAddr 0, .retAddr 0]) (S' := []) (σ' := (97, I, J, R)) rfl (fun hn => absurd hn (by decide)) (fun _ => ?_)
      refine az_E.sn 2 (pc' := 34) (L' := [.retAddr 0, .retAddr 0]) (S' := [.int (0 : Int32)]) (σ' := (97, I, J, R)) rfl ?_
      have h := Option.some.inj h
      subst h
      exact az_E.ret (v := some (.int (0 : Int32))) (σ' := (97, I, J, R)) rfl hQ
    · rw [if_neg hc_12] at h
      refine az_E.sn 1 (pc' := 20) (L' := [.ref 67, .int (1 : Int32)]) (S' := [.int (0 : Int32)]) (σ' := (97, I, J, R)) rfl ?_
      refine az_E.ret (v := some (.int (0 : Int32))) (σ' := (97, I, J, R)) rfl ?_
      show az_E az_F ex 2 150 25 [.retAddr 0, .retAddr 0] [.int (0 : Int32)] (97, I, J, R) _
      refine az_E.br (c := (0 : Int32) = 0) (tt := 32) (ff := 28) (L' := [.retAddr 0, .retAddr 0]) (S' := []) (σ' := (97, I, J, R)) rfl (fun _ => ?_) (fun hn => absurd (by decide) hn)
      refine az_E.sn 1 (pc' := 34) (L' := [.retAddr 0, .retAddr 0]) (S' := [.int (-12 : Int32)]) (σ' := (97, I, J, R)) rfl ?_
      have h := Option.some.inj h
      subst h
      exact az_E.ret (v := some (.int (-12 : Int32))) (σ' := (97, I, J, R)) rfl hQ
set_option maxRecDepth 100000 in
set_option maxHeartbeats 4000000 in
theorem re_X_refusalOfBook_21_69 {ex : az_X} {I : Nat → Nat → Int32} {J : Nat → Nat → Int64} {R : Nat → Nat → Option Nat} {x : Int32} (h : rs_X_refusalOfBook_21 69 I = some x) {Q : Option Value → az_S → Prop} (hQ : Q (some (.int x)) (97, I, J, R)) : az_E az_F ex 2 150 21 [.retAddr 0, .retAddr 0] [.ref 69] (97, I, J, R) Q := by
  unfold rs_X_refusalOfBook_21 at h
  refine az_E.sn 1 (pc' := 22) (L' := [.retAddr 0, .retAddr 0]) (S' := [.int (1 : Int32), .ref 69]) (σ' := (97, I, J, R)) rfl ?_
  refine az_E.call (d := 1) (k' := 56) (vs := [.ref 69, .int (1 : Int32)]) (pc' := 25) (S' := []) rfl ?_ (fun _ _ hq => hq)
  show az_E az_F ex 1 56 0 [.ref 69, .int (1 : Int32)] [] (97, I, J, R) _
  refine az_E.sn 1 (pc' := 1) (L' := [.ref 69, .int (1 : Int32)]) (S' := [.ref 69]) (σ' := (97, I, J, R)) rfl ?_
  refine az_E.call (d := 0) (k' := 55) (vs := [.ref 69]) (pc' := 4) (S' := []) rfl ?_ (fun _ _ hq => hq)
  show az_E az_F ex 0 55 0 [.ref 69] [] (97, I, J, R) _
  refine az_E.sn 3 (pc' := 5) (L' := [.ref 69]) (S' := [.int (-1 : Int32), .int (I 69 1)]) (σ' := (97, I, J, R)) rfl ?_
  refine az_E.br (c := (I 69 1) = (-1 : Int32)) (tt := 12) (ff := 8) (L' := [.ref 69]) (S' := []) (σ' := (97, I, J, R)) rfl (fun hc_13 => ?_) (fun hc_13 => ?_)
  · rw [if_pos hc_13] at h
    refine az_E.sn 1 (pc' := 13) (L' := [.ref 69]) (S' := [.int (0 : Int32)]) (σ' := (97, I, J, R)) rfl ?_
    refine az_E.ret (v := some (.int (0 : Int32))) (σ' := (97, I, J, R)) rfl ?_
    show az_E az_F ex 1 56 4 [.ref 69, .int (1 : Int32)] [.int (0 : Int32)] (97, I, J, R) _
    refine az_E.br (c := (0 : Int32) = 0) (tt := 19) (ff := 7) (L' := [.ref 69, .int (1 : Int32)]) (S' := []) (σ' := (97, I, J, R)) rfl (fun _ => ?_) (fun hn => absurd (by decide) hn)
    refine az_E.sn 1 (pc' := 20) (L' := [.ref 69, .int (1 : Int32)]) (S' := [.int (0 : Int32)]) (σ' := (97, I, J, R)) rfl ?_
    refine az_E.ret (v := some (.int (0 : Int32))) (σ' := (97, I, J, R)) rfl ?_
    show az_E az_F ex 2 150 25 [.retAddr 0, .retAddr 0] [.int (0 : Int32)] (97, I, J, R) _
    refine az_E.br (c := (0 : Int32) = 0) (tt := 32) (ff := 28) (L' := [.retAddr 0, .retAddr 0]) (S' := []) (σ' := (97, I, J, R)) rfl (fun _ => ?_) (fun hn => absurd (by decide) hn)
    refine az_E.sn 1 (pc' := 34) (L' := [.retAddr 0, .retAddr 0]) (S' := [.int (-12 : Int32)]) (σ' := (97, I, J, R)) rfl ?_
    have h := Option.some.inj h
    subst h
    exact az_E.ret (v := some (.int (-12 : Int32))) (σ' := (97, I, J, R)) rfl hQ
  · rw [if_neg hc_13] at h
    refine az_E.sn 2 (pc' := 13) (L' := [.ref 69]) (S' := [.int (1 : Int32)]) (σ' := (97, I, J, R)) rfl ?_
    refine az_E.ret (v := some (.int (1 : Int32))) (σ' := (97, I, J, R)) rfl ?_
    show az_E az_F ex 1 56 4 [.ref 69, .int (1 : Int32)] [.int (1 : Int32)] (97, I, J, R) _
    refine az_E.br (c := (1 : Int32) = 0) (tt := 19) (ff := 7) (L' := [.ref 69, .int (1 : Int32)]) (S' := []) (σ' := (97, I, J, R)) rfl (fun hn => absurd hn (by decide)) (fun _ => ?_)
    refine az_E.sn 3 (pc' := 12) (L' := [.ref 69, .int (1 : Int32)]) (S' := [.int (1 : Int32), .int (I 69 1)]) (σ' := (97, I, J, R)) rfl ?_
    refine az_E.br (c := (I 69 1) = (1 : Int32)) (tt := 15) (ff := 19) (L' := [.ref 69, .int (1 : Int32)]) (S' := []) (σ' := (97, I, J, R)) rfl (fun hc_14 => ?_) (fun hc_14 => ?_)
    · rw [if_pos hc_14] at h
      refine az_E.sn 2 (pc' := 20) (L' := [.ref 69, .int (1 : Int32)]) (S' := [.int (1 : Int32)]) (σ' := (97, I, J, R)) rfl ?_
      refine az_E.ret (v := some (.int (1 : Int32))) (σ' := (97, I, J, R)) rfl ?_
      show az_E az_F ex 2 150 25 [.retAddr 0, .retAddr 0] [.int (1 : Int32)] (97, I, J, R) _
      refine az_E.br (c := (1 : Int32) = 0) (tt := 32) (ff := 28) (L' := [.retAddr 0, .retAddr 0]) (S' := []) (σ' := (97, I, J, R)) rfl (fun hn => absurd hn (by decide)) (fun _ => ?_)
      refine az_E.sn 2 (pc' := 34) (L' := [.retAddr 0, .retAddr 0]) (S' := [.int (0 : Int32)]) (σ' := (97, I, J, R)) rfl ?_
      have h := Option.some.inj h
      subst h
      exact az_E.ret (v := some (.int (0 : Int32))) (σ' := (97, I, J, R)) rfl hQ
    · rw [if_neg hc_14] at h
      refine az_E.sn 1 (pc' := 20) (L' := [.ref 69, .int (1 : Int32)]) (S' := [.int (0 : Int32)]) (σ' := (97, I, J, R)) rfl ?_
      refine az_E.ret (v := some (.int (0 : Int32))) (σ' := (97, I, J, R)) rfl ?_
      show az_E az_F ex 2 150 25 [.retAddr 0, .retAddr 0] [.int (0 : Int32)] (97, I, J, R) _
      refine az_E.br (c := (0 : Int32) = 0) (tt := 32) (ff := 28) (L' := [.retAddr 0, .retAddr 0]) (S' := []) (σ' := (97, I, J, R)) rfl (fun _ => ?_) (fun hn => absurd (by decide) hn)
      refine az_E.sn 1 (pc' := 34) (L' := [.retAddr 0, .retAddr 0]) (S' := [.int (-12 : Int32)]) (σ' := (97, I, J, R)) rfl ?_
      have h := Option.some.inj h
      subst h
      exact az_E.ret (v := some (.int (-12 : Int32))) (σ' := (97, I, J, R)) rfl hQ
set_option maxRecDepth 100000 in
set_option maxHeartbeats 4000000 in
theorem re_X_refusalOfBook_21_71 {ex : az_X} {I : Nat → Nat → Int32} {J : Nat → Nat → Int64} {R : Nat → Nat → Option Nat} {x : Int32} (h : rs_X_refusalOfBook_21 71 I = some x) {Q : Option Value → az_S → Prop} (hQ : Q (some (.int x)) (97, I, J, R)) : az_E az_F ex 2 150 21 [.retAddr 0, .retAddr 0] [.ref 71] (97, I, J, R) Q := by
  unfold rs_X_refusalOfBook_21 at h
  refine az_E.sn 1 (pc' := 22) (L' := [.retAddr 0, .retAddr 0]) (S' := [.int (1 : Int32), .ref 71]) (σ' := (97, I, J, R)) rfl ?_
  refine az_E.call (d := 1) (k' := 56) (vs := [.ref 71, .int (1 : Int32)]) (pc' := 25) (S' := []) rfl ?_ (fun _ _ hq => hq)
  show az_E az_F ex 1 56 0 [.ref 71, .int (1 : Int32)] [] (97, I, J, R) _
  refine az_E.sn 1 (pc' := 1) (L' := [.ref 71, .int (1 : Int32)]) (S' := [.ref 71]) (σ' := (97, I, J, R)) rfl ?_
  refine az_E.call (d := 0) (k' := 55) (vs := [.ref 71]) (pc' := 4) (S' := []) rfl ?_ (fun _ _ hq => hq)
  show az_E az_F ex 0 55 0 [.ref 71] [] (97, I, J, R) _
  refine az_E.sn 3 (pc' := 5) (L' := [.ref 71]) (S' := [.int (-1 : Int32), .int (I 71 1)]) (σ' := (97, I, J, R)) rfl ?_
  refine az_E.br (c := (I 71 1) = (-1 : Int32)) (tt := 12) (ff := 8) (L' := [.ref 71]) (S' := []) (σ' := (97, I, J, R)) rfl (fun hc_15 => ?_) (fun hc_15 => ?_)
  · rw [if_pos hc_15] at h
    refine az_E.sn 1 (pc' := 13) (L' := [.ref 71]) (S' := [.int (0 : Int32)]) (σ' := (97, I, J, R)) rfl ?_
    refine az_E.ret (v := some (.int (0 : Int32))) (σ' := (97, I, J, R)) rfl ?_
    show az_E az_F ex 1 56 4 [.ref 71, .int (1 : Int32)] [.int (0 : Int32)] (97, I, J, R) _
    refine az_E.br (c := (0 : Int32) = 0) (tt := 19) (ff := 7) (L' := [.ref 71, .int (1 : Int32)]) (S' := []) (σ' := (97, I, J, R)) rfl (fun _ => ?_) (fun hn => absurd (by decide) hn)
    refine az_E.sn 1 (pc' := 20) (L' := [.ref 71, .int (1 : Int32)]) (S' := [.int (0 : Int32)]) (σ' := (97, I, J, R)) rfl ?_
    refine az_E.ret (v := some (.int (0 : Int32))) (σ' := (97, I, J, R)) rfl ?_
    show az_E az_F ex 2 150 25 [.retAddr 0, .retAddr 0] [.int (0 : Int32)] (97, I, J, R) _
    refine az_E.br (c := (0 : Int32) = 0) (tt := 32) (ff := 28) (L' := [.retAddr 0, .retAddr 0]) (S' := []) (σ' := (97, I, J, R)) rfl (fun _ => ?_) (fun hn => absurd (by decide) hn)
    refine az_E.sn 1 (pc' := 34) (L' := [.retAddr 0, .retAddr 0]) (S' := [.int (-12 : Int32)]) (σ' := (97, I, J, R)) rfl ?_
    have h := Option.some.inj h
    subst h
    exact az_E.ret (v := some (.int (-12 : Int32))) (σ' := (97, I, J, R)) rfl hQ
  · rw [if_neg hc_15] at h
    refine az_E.sn 2 (pc' := 13) (L' := [.ref 71]) (S' := [.int (1 : Int32)]) (σ' := (97, I, J, R)) rfl ?_
    refine az_E.ret (v := some (.int (1 : Int32))) (σ' := (97, I, J, R)) rfl ?_
    show az_E az_F ex 1 56 4 [.ref 71, .int (1 : Int32)] [.int (1 : Int32)] (97, I, J, R) _
    refine az_E.br (c := (1 : Int32) = 0) (tt := 19) (ff := 7) (L' := [.ref 71, .int (1 : Int32)]) (S' := []) (σ' := (97, I, J, R)) rfl (fun hn => absurd hn (by decide)) (fun _ => ?_)
    refine az_E.sn 3 (pc' := 12) (L' := [.ref 71, .int (1 : Int32)]) (S' := [.int (1 : Int32), .int (I 71 1)]) (σ' := (97, I, J, R)) rfl ?_
    refine az_E.br (c := (I 71 1) = (1 : Int32)) (tt := 15) (ff := 19) (L' := [.ref 71, .int (1 : Int32)]) (S' := []) (σ' := (97, I, J, R)) rfl (fun hc_16 => ?_) (fun hc_16 => ?_)
    · rw [if_pos hc_16] at h
      refine az_E.sn 2 (pc' := 20) (L' := [.ref 71, .int (1 : Int32)]) (S' := [.int (1 : Int32)]) (σ' := (97, I, J, R)) rfl ?_
      refine az_E.ret (v := some (.int (1 : Int32))) (σ' := (97, I, J, R)) rfl ?_
      show az_E az_F ex 2 150 25 [.retAddr 0, .retAddr 0] [.int (1 : Int32)] (97, I, J, R) _
      refine az_E.br (c := (1 : Int32) = 0) (tt := 32) (ff := 28) (L' := [.retAddr 0, .retAddr 0]) (S' := []) (σ' := (97, I, J, R)) rfl (fun hn => absurd hn (by decide)) (fun _ => ?_)
      refine az_E.sn 2 (pc' := 34) (L' := [.retAddr 0, .retAddr 0]) (S' := [.int (0 : Int32)]) (σ' := (97, I, J, R)) rfl ?_
      have h := Option.some.inj h
      subst h
      exact az_E.ret (v := some (.int (0 : Int32))) (σ' := (97, I, J, R)) rfl hQ
    · rw [if_neg hc_16] at h
      refine az_E.sn 1 (pc' := 20) (L' := [.ref 71, .int (1 : Int32)]) (S' := [.int (0 : Int32)]) (σ' := (97, I, J, R)) rfl ?_
      refine az_E.ret (v := some (.int (0 : Int32))) (σ' := (97, I, J, R)) rfl ?_
      show az_E az_F ex 2 150 25 [.retAddr 0, .retAddr 0] [.int (0 : Int32)] (97, I, J, R) _
      refine az_E.br (c := (0 : Int32) = 0) (tt := 32) (ff := 28) (L' := [.retAddr 0, .retAddr 0]) (S' := []) (σ' := (97, I, J, R)) rfl (fun _ => ?_) (fun hn => absurd (by decide) hn)
      refine az_E.sn 1 (pc' := 34) (L' := [.retAddr 0, .retAddr 0]) (S' := [.int (-12 : Int32)]) (σ' := (97, I, J, R)) rfl ?_
      have h := Option.some.inj h
      subst h
      exact az_E.ret (v := some (.int (-12 : Int32))) (σ' := (97, I, J, R)) rfl hQ
set_option maxRecDepth 100000 in
set_option maxHeartbeats 4000000 in
theorem re_X_refusalOfBook_6_61 {ex : az_X} {I : Nat → Nat → Int32} {J : Nat → Nat → Int64} {R : Nat → Nat → Option Nat} {v1 : Int32} {x : Int32} (h : rs_X_refusalOfBook_6 61 I v1 = some x) {Q : Option Value → az_S → Prop} (hQ : Q (some (.int x)) (97, I, J, R)) : az_E az_F ex 2 150 6 [.ref 3, .int v1] [.ref 61] (97, I, J, R) Q := by
  unfold rs_X_refusalOfBook_6 at h
  refine az_E.call (d := 1) (k' := 54) (vs := [.ref 61]) (pc' := 9) (S' := []) rfl ?_ (fun _ _ hq => hq)
  show az_E az_F ex 1 54 0 [.ref 61] [] (97, I, J, R) _
  refine az_E.sn 3 (pc' := 5) (L' := [.ref 61]) (S' := [.int (-1 : Int32), .int (I 61 0)]) (σ' := (97, I, J, R)) rfl ?_
  refine az_E.br (c := (I 61 0) = (-1 : Int32)) (tt := 8) (ff := 20) (L' := [.ref 61]) (S' := []) (σ' := (97, I, J, R)) rfl (fun hc_2 => ?_) (fun hc_2 => ?_)
  · rw [if_pos hc_2] at h
    refine az_E.sn 3 (pc' := 13) (L' := [.ref 61]) (S' := [.int (-1 : Int32), .int (I 61 1)]) (σ' := (97, I, J, R)) rfl ?_
    refine az_E.br (c := (I 61 1) = (-1 : Int32)) (tt := 16) (ff := 20) (L' := [.ref 61]) (S' := []) (σ' := (97, I, J, R)) rfl (fun hc_3 => ?_) (fun hc_3 => ?_)
    · rw [if_pos hc_3] at h
      refine az_E.sn 2 (pc' := 21) (L' := [.ref 61]) (S' := [.int (1 : Int32)]) (σ' := (97, I, J, R)) rfl ?_
      refine az_E.ret (v := some (.int (1 : Int32))) (σ' := (97, I, J, R)) rfl ?_
      show az_E az_F ex 2 150 9 [.ref 3, .int v1] [.int (1 : Int32)] (97, I, J, R) _
      refine az_E.br (c := (1 : Int32) = 0) (tt := 15) (ff := 12) (L' := [.ref 3, .int v1]) (S' := []) (σ' := (97, I, J, R)) rfl (fun hn => absurd hn (by decide)) (fun _ => ?_)
      refine az_E.sn 1 (pc' := 14) (L' := [.ref 3, .int v1]) (S' := [.int (-11 : Int32)]) (σ' := (97, I, J, R)) rfl ?_
      have h := Option.some.inj h
      subst h
      exact az_E.ret (v := some (.int (-11 : Int32))) (σ' := (97, I, J, R)) rfl hQ
    · rw [if_neg hc_3] at h
      refine az_E.sn 1 (pc' := 21) (L' := [.ref 61]) (S' := [.int (0 : Int32)]) (σ' := (97, I, J, R)) rfl ?_
      refine az_E.ret (v := some (.int (0 : Int32))) (σ' := (97, I, J, R)) rfl ?_
      show az_E az_F ex 2 150 9 [.ref 3, .int v1] [.int (0 : Int32)] (97, I, J, R) _
      refine az_E.br (c := (0 : Int32) = 0) (tt := 15) (ff := 12) (L' := [.ref 3, .int v1]) (S' := []) (σ' := (97, I, J, R)) rfl (fun _ => ?_) (fun hn => absurd (by decide) hn)
      refine az_E.sn 3 (pc' := 20) (L' := [.ref 3, .int v1]) (S' := [.int v1, .ref 58]) (σ' := (97, I, J, R)) rfl ?_
      by_cases hc_4 : v1 < 0 ∨ 6 ≤ v1.toNatClampNeg
      · rw [if_pos hc_4] at h; cases h
      · rw [if_neg hc_4] at h
        rcases az_six hc_4 with ehc_4 | ehc_4 | ehc_4 | ehc_4 | ehc_4 | ehc_4
        · rw [ehc_4] at h ⊢; (try rw [ehc_4] at hQ)
          refine az_E.ov (pc' := 21) (L' := [.ref 3, .int (0 : Int32)]) (S' := []) (σ' := (97, I, J, R)) (x := .ref 61) (o := az_aa az_F (97, I, J, R) 58 (0 : Int32)) rfl rfl ?_
          exact az_E.forget (L := [.retAddr 0, .retAddr 0]) ⟨trivial, trivial, trivial⟩ (re_X_refusalOfBook_21_61 (I := I) (J := J) (R := R)  h hQ)
        · rw [ehc_4] at h ⊢; (try rw [ehc_4] at hQ)
          refine az_E.ov (pc' := 21) (L' := [.ref 3, .int (1 : Int32)]) (S' := []) (σ' := (97, I, J, R)) (x := .ref 63) (o := az_aa az_F (97, I, J, R) 58 (1 : Int32)) rfl rfl ?_
          exact az_E.forget (L := [.retAddr 0, .retAddr 0]) ⟨trivial, trivial, trivial⟩ (re_X_refusalOfBook_21_63 (I := I) (J := J) (R := R)  h hQ)
        · rw [ehc_4] at h ⊢; (try rw [ehc_4] at hQ)
          refine az_E.ov (pc' := 21) (L' := [.ref 3, .int (2 : Int32)]) (S' := []) (σ' := (97, I, J, R)) (x := .ref 65) (o := az_aa az_F (97, I, J, R) 58 (2 : Int32)) rfl rfl ?_
          exact az_E.forget (L := [.retAddr 0, .retAddr 0]) ⟨trivial, trivial, trivial⟩ (re_X_refusalOfBook_21_65 (I := I) (J := J) (R := R)  h hQ)
        · rw [ehc_4] at h ⊢; (try rw [ehc_4] at hQ)
          refine az_E.ov (pc' := 21) (L' := [.ref 3, .int (3 : Int32)]) (S' := []) (σ' := (97, I, J, R)) (x := .ref 67) (o := az_aa az_F (97, I, J, R) 58 (3 : Int32)) rfl rfl ?_
          exact az_E.forget (L := [.retAddr 0, .retAddr 0]) ⟨trivial, trivial, trivial⟩ (re_X_refusalOfBook_21_67 (I := I) (J := J) (R := R)  h hQ)
        · rw [ehc_4] at h ⊢; (try rw [ehc_4] at hQ)
          refine az_E.ov (pc' := 21) (L' := [.ref 3, .int (4 : Int32)]) (S' := []) (σ' := (97, I, J, R)) (x := .ref 69) (o := az_aa az_F (97, I, J, R) 58 (4 : Int32)) rfl rfl ?_
          exact az_E.forget (L := [.retAddr 0, .retAddr 0]) ⟨trivial, trivial, trivial⟩ (re_X_refusalOfBook_21_69 (I := I) (J := J) (R := R)  h hQ)
        · rw [ehc_4] at h ⊢; (try rw [ehc_4] at hQ)
          refine az_E.ov (pc' := 21) (L' := [.ref 3, .int (5 : Int32)]) (S' := []) (σ' := (97, I, J, R)) (x := .ref 71) (o := az_aa az_F (97, I, J, R) 58 (5 : Int32)) rfl rfl ?_
          exact az_E.forget (L := [.retAddr 0, .retAddr 0]) ⟨trivial, trivial, trivial⟩ (re_X_refusalOfBook_21_71 (I := I) (J := J) (R := R)  h hQ)
  · rw [if_neg hc_2] at h
    refine az_E.sn 1 (pc' := 21) (L' := [.ref 61]) (S' := [.int (0 : Int32)]) (σ' := (97, I, J, R)) rfl ?_
    refine az_E.ret (v := some (.int (0 : Int32))) (σ' := (97, I, J, R)) rfl ?_
    show az_E az_F ex 2 150 9 [.ref 3, .int v1] [.int (0 : Int32)] (97, I, J, R) _
    refine az_E.br (c := (0 : Int32) = 0) (tt := 15) (ff := 12) (L' := [.ref 3, .int v1]) (S' := []) (σ' := (97, I, J, R)) rfl (fun _ => ?_) (fun hn => absurd (by decide) hn)
    refine az_E.sn 3 (pc' := 20) (L' := [.ref 3, .int v1]) (S' := [.int v1, .ref 58]) (σ' := (97, I, J, R)) rfl ?_
    by_cases hc_17 : v1 < 0 ∨ 6 ≤ v1.toNatClampNeg
    · rw [if_pos hc_17] at h; cases h
    · rw [if_neg hc_17] at h
      rcases az_six hc_17 with ehc_17 | ehc_17 | ehc_17 | ehc_17 | ehc_17 | ehc_17
      · rw [ehc_17] at h ⊢; (try rw [ehc_17] at hQ)
        refine az_E.ov (pc' := 21) (L' := [.ref 3, .int (0 : Int32)]) (S' := []) (σ' := (97, I, J, R)) (x := .ref 61) (o := az_aa az_F (97, I, J, R) 58 (0 : Int32)) rfl rfl ?_
        exact az_E.forget (L := [.retAddr 0, .retAddr 0]) ⟨trivial, trivial, trivial⟩ (re_X_refusalOfBook_21_61 (I := I) (J := J) (R := R)  h hQ)
      · rw [ehc_17] at h ⊢; (try rw [ehc_17] at hQ)
        refine az_E.ov (pc' := 21) (L' := [.ref 3, .int (1 : Int32)]) (S' := []) (σ' := (97, I, J, R)) (x := .ref 63) (o := az_aa az_F (97, I, J, R) 58 (1 : Int32)) rfl rfl ?_
        exact az_E.forget (L := [.retAddr 0, .retAddr 0]) ⟨trivial, trivial, trivial⟩ (re_X_refusalOfBook_21_63 (I := I) (J := J) (R := R)  h hQ)
      · rw [ehc_17] at h ⊢; (try rw [ehc_17] at hQ)
        refine az_E.ov (pc' := 21) (L' := [.ref 3, .int (2 : Int32)]) (S' := []) (σ' := (97, I, J, R)) (x := .ref 65) (o := az_aa az_F (97, I, J, R) 58 (2 : Int32)) rfl rfl ?_
        exact az_E.forget (L := [.retAddr 0, .retAddr 0]) ⟨trivial, trivial, trivial⟩ (re_X_refusalOfBook_21_65 (I := I) (J := J) (R := R)  h hQ)
      · rw [ehc_17] at h ⊢; (try rw [ehc_17] at hQ)
        refine az_E.ov (pc' := 21) (L' := [.ref 3, .int (3 : Int32)]) (S' := []) (σ' := (97, I, J, R)) (x := .ref 67) (o := az_aa az_F (97, I, J, R) 58 (3 : Int32)) rfl rfl ?_
        exact az_E.forget (L := [.retAddr 0, .retAddr 0]) ⟨trivial, trivial, trivial⟩ (re_X_refusalOfBook_21_67 (I := I) (J := J) (R := R)  h hQ)
      · rw [ehc_17] at h ⊢; (try rw [ehc_17] at hQ)
        refine az_E.ov (pc' := 21) (L' := [.ref 3, .int (4 : Int32)]) (S' := []) (σ' := (97, I, J, R)) (x := .ref 69) (o := az_aa az_F (97, I, J, R) 58 (4 : Int32)) rfl rfl ?_
        exact az_E.forget (L := [.retAddr 0, .retAddr 0]) ⟨trivial, trivial, trivial⟩ (re_X_refusalOfBook_21_69 (I := I) (J := J) (R := R)  h hQ)
      · rw [ehc_17] at h ⊢; (try rw [ehc_17] at hQ)
        refine az_E.ov (pc' := 21) (L' := [.ref 3, .int (5 : Int32)]) (S' := []) (σ' := (97, I, J, R)) (x := .ref 71) (o := az_aa az_F (97, I, J, R) 58 (5 : Int32)) rfl rfl ?_
        exact az_E.forget (L := [.retAddr 0, .retAddr 0]) ⟨trivial, trivial, trivial⟩ (re_X_refusalOfBook_21_71 (I := I) (J := J) (R := R)  h hQ)
set_option maxRecDepth 100000 in
set_option maxHeartbeats 4000000 in
theorem re_X_refusalOfBook_6_63 {ex : az_X} {I : Nat → Nat → Int32} {J : Nat → Nat → Int64} {R : Nat → Nat → Option Nat} {v1 : Int32} {x : Int32} (h : rs_X_refusalOfBook_6 63 I v1 = some x) {Q : Option Value → az_S → Prop} (hQ : Q (some (.int x)) (97, I, J, R)) : az_E az_F ex 2 150 6 [.ref 3, .int v1] [.ref 63] (97, I, J, R) Q := by
  unfold rs_X_refusalOfBook_6 at h
  refine az_E.call (d := 1) (k' := 54) (vs := [.ref 63]) (pc' := 9) (S' := []) rfl ?_ (fun _ _ hq => hq)
  show az_E az_F ex 1 54 0 [.ref 63] [] (97, I, J, R) _
  refine az_E.sn 3 (pc' := 5) (L' := [.ref 63]) (S' := [.int (-1 : Int32), .int (I 63 0)]) (σ' := (97, I, J, R)) rfl ?_
  refine az_E.br (c := (I 63 0) = (-1 : Int32)) (tt := 8) (ff := 20) (L' := [.ref 63]) (S' := []) (σ' := (97, I, J, R)) rfl (fun hc_28 => ?_) (fun hc_28 => ?_)
  · rw [if_pos hc_28] at h
    refine az_E.sn 3 (pc' := 13) (L' := [.ref 63]) (S' := [.int (-1 : Int32), .int (I 63 1)]) (σ' := (97, I, J, R)) rfl ?_
    refine az_E.br (c := (I 63 1) = (-1 : Int32)) (tt := 16) (ff := 20) (L' := [.ref 63]) (S' := []) (σ' := (97, I, J, R)) rfl (fun hc_29 => ?_) (fun hc_29 => ?_)
    · rw [if_pos hc_29] at h
      refine az_E.sn 2 (pc' := 21) (L' := [.ref 63]) (S' := [.int (1 : Int32)]) (σ' := (97, I, J, R)) rfl ?_
      refine az_E.ret (v := some (.int (1 : Int32))) (σ' := (97, I, J, R)) rfl ?_
      show az_E az_F ex 2 150 9 [.ref 3, .int v1] [.int (1 : Int32)] (97, I, J, R) _
      refine az_E.br (c := (1 : Int32) = 0) (tt := 15) (ff := 12) (L' := [.ref 3, .int v1]) (S' := []) (σ' := (97, I, J, R)) rfl (fun hn => absurd hn (by decide)) (fun _ => ?_)
      refine az_E.sn 1 (pc' := 14) (L' := [.ref 3, .int v1]) (S' := [.int (-11 : Int32)]) (σ' := (97, I, J, R)) rfl ?_
      have h := Option.some.inj h
      subst h
      exact az_E.ret (v := some (.int (-11 : Int32))) (σ' := (97, I, J, R)) rfl hQ
    · rw [if_neg hc_29] at h
      refine az_E.sn 1 (pc' := 21) (L' := [.ref 63]) (S' := [.int (0 : Int32)]) (σ' := (97, I, J, R)) rfl ?_
      refine az_E.ret (v := some (.int (0 : Int32))) (σ' := (97, I, J, R)) rfl ?_
      show az_E az_F ex 2 150 9 [.ref 3, .int v1] [.int (0 : Int32)] (97, I, J, R) _
      refine az_E.br (c := (0 : Int32) = 0) (tt := 15) (ff := 12) (L' := [.ref 3, .int v1]) (S' := []) (σ' := (97, I, J, R)) rfl (fun _ => ?_) (fun hn => absurd (by decide) hn)
      refine az_E.sn 3 (pc' := 20) (L' := [.ref 3, .int v1]) (S' := [.int v1, .ref 58]) (σ' := (97, I, J, R)) rfl ?_
      by_cases hc_30 : v1 < 0 ∨ 6 ≤ v1.toNatClampNeg
      · rw [if_pos hc_30] at h; cases h
      · rw [if_neg hc_30] at h
        rcases az_six hc_30 with ehc_30 | ehc_30 | ehc_30 | ehc_30 | ehc_30 | ehc_30
        · rw [ehc_30] at h ⊢; (try rw [ehc_30] at hQ)
          refine az_E.ov (pc' := 21) (L' := [.ref 3, .int (0 : Int32)]) (S' := []) (σ' := (97, I, J, R)) (x := .ref 61) (o := az_aa az_F (97, I, J, R) 58 (0 : Int32)) rfl rfl ?_
          exact az_E.forget (L := [.retAddr 0, .retAddr 0]) ⟨trivial, trivial, trivial⟩ (re_X_refusalOfBook_21_61 (I := I) (J := J) (R := R)  h hQ)
        · rw [ehc_30] at h ⊢; (try rw [ehc_30] at hQ)
          refine az_E.ov (pc' := 21) (L' := [.ref 3, .int (1 : Int32)]) (S' := []) (σ' := (97, I, J, R)) (x := .ref 63) (o := az_aa az_F (97, I, J, R) 58 (1 : Int32)) rfl rfl ?_
          exact az_E.forget (L := [.retAddr 0, .retAddr 0]) ⟨trivial, trivial, trivial⟩ (re_X_refusalOfBook_21_63 (I := I) (J := J) (R := R)  h hQ)
        · rw [ehc_30] at h ⊢; (try rw [ehc_30] at hQ)
          refine az_E.ov (pc' := 21) (L' := [.ref 3, .int (2 : Int32)]) (S' := []) (σ' := (97, I, J, R)) (x := .ref 65) (o := az_aa az_F (97, I, J, R) 58 (2 : Int32)) rfl rfl ?_
          exact az_E.forget (L := [.retAddr 0, .retAddr 0]) ⟨trivial, trivial, trivial⟩ (re_X_refusalOfBook_21_65 (I := I) (J := J) (R := R)  h hQ)
        · rw [ehc_30] at h ⊢; (try rw [ehc_30] at hQ)
          refine az_E.ov (pc' := 21) (L' := [.ref 3, .int (3 : Int32)]) (S' := []) (σ' := (97, I, J, R)) (x := .ref 67) (o := az_aa az_F (97, I, J, R) 58 (3 : Int32)) rfl rfl ?_
          exact az_E.forget (L := [.retAddr 0, .retAddr 0]) ⟨trivial, trivial, trivial⟩ (re_X_refusalOfBook_21_67 (I := I) (J := J) (R := R)  h hQ)
        · rw [ehc_30] at h ⊢; (try rw [ehc_30] at hQ)
          refine az_E.ov (pc' := 21) (L' := [.ref 3, .int (4 : Int32)]) (S' := []) (σ' := (97, I, J, R)) (x := .ref 69) (o := az_aa az_F (97, I, J, R) 58 (4 : Int32)) rfl rfl ?_
          exact az_E.forget (L := [.retAddr 0, .retAddr 0]) ⟨trivial, trivial, trivial⟩ (re_X_refusalOfBook_21_69 (I := I) (J := J) (R := R)  h hQ)
        · rw [ehc_30] at h ⊢; (try rw [ehc_30] at hQ)
          refine az_E.ov (pc' := 21) (L' := [.ref 3, .int (5 : Int32)]) (S' := []) (σ' := (97, I, J, R)) (x := .ref 71) (o := az_aa az_F (97, I, J, R) 58 (5 : Int32)) rfl rfl ?_
          exact az_E.forget (L := [.retAddr 0, .retAddr 0]) ⟨trivial, trivial, trivial⟩ (re_X_refusalOfBook_21_71 (I := I) (J := J) (R := R)  h hQ)
  · rw [if_neg hc_28] at h
    refine az_E.sn 1 (pc' := 21) (L' := [.ref 63]) (S' := [.int (0 : Int32)]) (σ' := (97, I, J, R)) rfl ?_
    refine az_E.ret (v := some (.int (0 : Int32))) (σ' := (97, I, J, R)) rfl ?_
    show az_E az_F ex 2 150 9 [.ref 3, .int v1] [.int (0 : Int32)] (97, I, J, R) _
    refine az_E.br (c := (0 : Int32) = 0) (tt := 15) (ff := 12) (L' := [.ref 3, .int v1]) (S' := []) (σ' := (97, I, J, R)) rfl (fun _ => ?_) (fun hn => absurd (by decide) hn)
    refine az_E.sn 3 (pc' := 20) (L' := [.ref 3, .int v1]) (S' := [.int v1, .ref 58]) (σ' := (97, I, J, R)) rfl ?_
    by_cases hc_41 : v1 < 0 ∨ 6 ≤ v1.toNatClampNeg
    · rw [if_pos hc_41] at h; cases h
    · rw [if_neg hc_41] at h
      rcases az_six hc_41 with ehc_41 | ehc_41 | ehc_41 | ehc_41 | ehc_41 | ehc_41
      · rw [ehc_41] at h ⊢; (try rw [ehc_41] at hQ)
        refine az_E.ov (pc' := 21) (L' := [.ref 3, .int (0 : Int32)]) (S' := []) (σ' := (97, I, J, R)) (x := .ref 61) (o := az_aa az_F (97, I, J, R) 58 (0 : Int32)) rfl rfl ?_
        exact az_E.forget (L := [.retAddr 0, .retAddr 0]) ⟨trivial, trivial, trivial⟩ (re_X_refusalOfBook_21_61 (I := I) (J := J) (R := R)  h hQ)
      · rw [ehc_41] at h ⊢; (try rw [ehc_41] at hQ)
        refine az_E.ov (pc' := 21) (L' := [.ref 3, .int (1 : Int32)]) (S' := []) (σ' := (97, I, J, R)) (x := .ref 63) (o := az_aa az_F (97, I, J, R) 58 (1 : Int32)) rfl rfl ?_
        exact az_E.forget (L := [.retAddr 0, .retAddr 0]) ⟨trivial, trivial, trivial⟩ (re_X_refusalOfBook_21_63 (I := I) (J := J) (R := R)  h hQ)
      · rw [ehc_41] at h ⊢; (try rw [ehc_41] at hQ)
        refine az_E.ov (pc' := 21) (L' := [.ref 3, .int (2 : Int32)]) (S' := []) (σ' := (97, I, J, R)) (x := .ref 65) (o := az_aa az_F (97, I, J, R) 58 (2 : Int32)) rfl rfl ?_
        exact az_E.forget (L := [.retAddr 0, .retAddr 0]) ⟨trivial, trivial, trivial⟩ (re_X_refusalOfBook_21_65 (I := I) (J := J) (R := R)  h hQ)
      · rw [ehc_41] at h ⊢; (try rw [ehc_41] at hQ)
        refine az_E.ov (pc' := 21) (L' := [.ref 3, .int (3 : Int32)]) (S' := []) (σ' := (97, I, J, R)) (x := .ref 67) (o := az_aa az_F (97, I, J, R) 58 (3 : Int32)) rfl rfl ?_
        exact az_E.forget (L := [.retAddr 0, .retAddr 0]) ⟨trivial, trivial, trivial⟩ (re_X_refusalOfBook_21_67 (I := I) (J := J) (R := R)  h hQ)
      · rw [ehc_41] at h ⊢; (try rw [ehc_41] at hQ)
        refine az_E.ov (pc' := 21) (L' := [.ref 3, .int (4 : Int32)]) (S' := []) (σ' := (97, I, J, R)) (x := .ref 69) (o := az_aa az_F (97, I, J, R) 58 (4 : Int32)) rfl rfl ?_
        exact az_E.forget (L := [.retAddr 0, .retAddr 0]) ⟨trivial, trivial, trivial⟩ (re_X_refusalOfBook_21_69 (I := I) (J := J) (R := R)  h hQ)
      · rw [ehc_41] at h ⊢; (try rw [ehc_41] at hQ)
        refine az_E.ov (pc' := 21) (L' := [.ref 3, .int (5 : Int32)]) (S' := []) (σ' := (97, I, J, R)) (x := .ref 71) (o := az_aa az_F (97, I, J, R) 58 (5 : Int32)) rfl rfl ?_
        exact az_E.forget (L := [.retAddr 0, .retAddr 0]) ⟨trivial, trivial, trivial⟩ (re_X_refusalOfBook_21_71 (I := I) (J := J) (R := R)  h hQ)
set_option maxRecDepth 100000 in
set_option maxHeartbeats 4000000 in
theorem re_X_refusalOfBook_6_65 {ex : az_X} {I : Nat → Nat → Int32} {J : Nat → Nat → Int64} {R : Nat → Nat → Option Nat} {v1 : Int32} {x : Int32} (h : rs_X_refusalOfBook_6 65 I v1 = some x) {Q : Option Value → az_S → Prop} (hQ : Q (some (.int x)) (97, I, J, R)) : az_E az_F ex 2 150 6 [.ref 3, .int v1] [.ref 65] (97, I, J, R) Q := by
  unfold rs_X_refusalOfBook_6 at h
  refine az_E.call (d := 1) (k' := 54) (vs := [.ref 65]) (pc' := 9) (S' := []) rfl ?_ (fun _ _ hq => hq)
  show az_E az_F ex 1 54 0 [.ref 65] [] (97, I, J, R) _
  refine az_E.sn 3 (pc' := 5) (L' := [.ref 65]) (S' := [.int (-1 : Int32), .int (I 65 0)]) (σ' := (97, I, J, R)) rfl ?_
  refine az_E.br (c := (I 65 0) = (-1 : Int32)) (tt := 8) (ff := 20) (L' := [.ref 65]) (S' := []) (σ' := (97, I, J, R)) rfl (fun hc_52 => ?_) (fun hc_52 => ?_)
  · rw [if_pos hc_52] at h
    refine az_E.sn 3 (pc' := 13) (L' := [.ref 65]) (S' := [.int (-1 : Int32), .int (I 65 1)]) (σ' := (97, I, J, R)) rfl ?_
    refine az_E.br (c := (I 65 1) = (-1 : Int32)) (tt := 16) (ff := 20) (L' := [.ref 65]) (S' := []) (σ' := (97, I, J, R)) rfl (fun hc_53 => ?_) (fun hc_53 => ?_)
    · rw [if_pos hc_53] at h
      refine az_E.sn 2 (pc' := 21) (L' := [.ref 65]) (S' := [.int (1 : Int32)]) (σ' := (97, I, J, R)) rfl ?_
      refine az_E.ret (v := some (.int (1 : Int32))) (σ' := (97, I, J, R)) rfl ?_
      show az_E az_F ex 2 150 9 [.ref 3, .int v1] [.int (1 : Int32)] (97, I, J, R) _
      refine az_E.br (c := (1 : Int32) = 0) (tt := 15) (ff := 12) (L' := [.ref 3, .int v1]) (S' := []) (σ' := (97, I, J, R)) rfl (fun hn => absurd hn (by decide)) (fun _ => ?_)
      refine az_E.sn 1 (pc' := 14) (L' := [.ref 3, .int v1]) (S' := [.int (-11 : Int32)]) (σ' := (97, I, J, R)) rfl ?_
      have h := Option.some.inj h
      subst h
      exact az_E.ret (v := some (.int (-11 : Int32))) (σ' := (97, I, J, R)) rfl hQ
    · rw [if_neg hc_53] at h
      refine az_E.sn 1 (pc' := 21) (L' := [.ref 65]) (S' := [.int (0 : Int32)]) (σ' := (97, I, J, R)) rfl ?_
      refine az_E.ret (v := some (.int (0 : Int32))) (σ' := (97, I, J, R)) rfl ?_
      show az_E az_F ex 2 150 9 [.ref 3, .int v1] [.int (0 : Int32)] (97, I, J, R) _
      refine az_E.br (c := (0 : Int32) = 0) (tt := 15) (ff := 12) (L' := [.ref 3, .int v1]) (S' := []) (σ' := (97, I, J, R)) rfl (fun _ => ?_) (fun hn => absurd (by decide) hn)
      refine az_E.sn 3 (pc' := 20) (L' := [.ref 3, .int v1]) (S' := [.int v1, .ref 58]) (σ' := (97, I, J, R)) rfl ?_
      by_cases hc_54 : v1 < 0 ∨ 6 ≤ v1.toNatClampNeg
      · rw [if_pos hc_54] at h; cases h
      · rw [if_neg hc_54] at h
        rcases az_six hc_54 with ehc_54 | ehc_54 | ehc_54 | ehc_54 | ehc_54 | ehc_54
        · rw [ehc_54] at h ⊢; (try rw [ehc_54] at hQ)
          refine az_E.ov (pc' := 21) (L' := [.ref 3, .int (0 : Int32)]) (S' := []) (σ' := (97, I, J, R)) (x := .ref 61) (o := az_aa az_F (97, I, J, R) 58 (0 : Int32)) rfl rfl ?_
          exact az_E.forget (L := [.retAddr 0, .retAddr 0]) ⟨trivial, trivial, trivial⟩ (re_X_refusalOfBook_21_61 (I := I) (J := J) (R := R)  h hQ)
        · rw [ehc_54] at h ⊢; (try rw [ehc_54] at hQ)
          refine az_E.ov (pc' := 21) (L' := [.ref 3, .int (1 : Int32)]) (S' := []) (σ' := (97, I, J, R)) (x := .ref 63) (o := az_aa az_F (97, I, J, R) 58 (1 : Int32)) rfl rfl ?_
          exact az_E.forget (L := [.retAddr 0, .retAddr 0]) ⟨trivial, trivial, trivial⟩ (re_X_refusalOfBook_21_63 (I := I) (J := J) (R := R)  h hQ)
        · rw [ehc_54] at h ⊢; (try rw [ehc_54] at hQ)
          refine az_E.ov (pc' := 21) (L' := [.ref 3, .int (2 : Int32)]) (S' := []) (σ' := (97, I, J, R)) (x := .ref 65) (o := az_aa az_F (97, I, J, R) 58 (2 : Int32)) rfl rfl ?_
          exact az_E.forget (L := [.retAddr 0, .retAddr 0]) ⟨trivial, trivial, trivial⟩ (re_X_refusalOfBook_21_65 (I := I) (J := J) (R := R)  h hQ)
        · rw [ehc_54] at h ⊢; (try rw [ehc_54] at hQ)
          refine az_E.ov (pc' := 21) (L' := [.ref 3, .int (3 : Int32)]) (S' := []) (σ' := (97, I, J, R)) (x := .ref 67) (o := az_aa az_F (97, I, J, R) 58 (3 : Int32)) rfl rfl ?_
          exact az_E.forget (L := [.retAddr 0, .retAddr 0]) ⟨trivial, trivial, trivial⟩ (re_X_refusalOfBook_21_67 (I := I) (J := J) (R := R)  h hQ)
        · rw [ehc_54] at h ⊢; (try rw [ehc_54] at hQ)
          refine az_E.ov (pc' := 21) (L' := [.ref 3, .int (4 : Int32)]) (S' := []) (σ' := (97, I, J, R)) (x := .ref 69) (o := az_aa az_F (97, I, J, R) 58 (4 : Int32)) rfl rfl ?_
          exact az_E.forget (L := [.retAddr 0, .retAddr 0]) ⟨trivial, trivial, trivial⟩ (re_X_refusalOfBook_21_69 (I := I) (J := J) (R := R)  h hQ)
        · rw [ehc_54] at h ⊢; (try rw [ehc_54] at hQ)
          refine az_E.ov (pc' := 21) (L' := [.ref 3, .int (5 : Int32)]) (S' := []) (σ' := (97, I, J, R)) (x := .ref 71) (o := az_aa az_F (97, I, J, R) 58 (5 : Int32)) rfl rfl ?_
          exact az_E.forget (L := [.retAddr 0, .retAddr 0]) ⟨trivial, trivial, trivial⟩ (re_X_refusalOfBook_21_71 (I := I) (J := J) (R := R)  h hQ)
  · rw [if_neg hc_52] at h
    refine az_E.sn 1 (pc' := 21) (L' := [.ref 65]) (S' := [.int (0 : Int32)]) (σ' := (97, I, J, R)) rfl ?_
    refine az_E.ret (v := some (.int (0 : Int32))) (σ' := (97, I, J, R)) rfl ?_
    show az_E az_F ex 2 150 9 [.ref 3, .int v1] [.int (0 : Int32)] (97, I, J, R) _
    refine az_E.br (c := (0 : Int32) = 0) (tt := 15) (ff := 12) (L' := [.ref 3, .int v1]) (S' := []) (σ' := (97, I, J, R)) rfl (fun _ => ?_) (fun hn => absurd (by decide) hn)
    refine az_E.sn 3 (pc' := 20) (L' := [.ref 3, .int v1]) (S' := [.int v1, .ref 58]) (σ' := (97, I, J, R)) rfl ?_
    by_cases hc_65 : v1 < 0 ∨ 6 ≤ v1.toNatClampNeg
    · rw [if_pos hc_65] at h; cases h
    · rw [if_neg hc_65] at h
      rcases az_six hc_65 with ehc_65 | ehc_65 | ehc_65 | ehc_65 | ehc_65 | ehc_65
      · rw [ehc_65] at h ⊢; (try rw [ehc_65] at hQ)
        refine az_E.ov (pc' := 21) (L' := [.ref 3, .int (0 : Int32)]) (S' := []) (σ' := (97, I, J, R)) (x := .ref 61) (o := az_aa az_F (97, I, J, R) 58 (0 : Int32)) rfl rfl ?_
        exact az_E.forget (L := [.retAddr 0, .retAddr 0]) ⟨trivial, trivial, trivial⟩ (re_X_refusalOfBook_21_61 (I := I) (J := J) (R := R)  h hQ)
      · rw [ehc_65] at h ⊢; (try rw [ehc_65] at hQ)
        refine az_E.ov (pc' := 21) (L' := [.ref 3, .int (1 : Int32)]) (S' := []) (σ' := (97, I, J, R)) (x := .ref 63) (o := az_aa az_F (97, I, J, R) 58 (1 : Int32)) rfl rfl ?_
        exact az_E.forget (L := [.retAddr 0, .retAddr 0]) ⟨trivial, trivial, trivial⟩ (re_X_refusalOfBook_21_63 (I := I) (J := J) (R := R)  h hQ)
      · rw [ehc_65] at h ⊢; (try rw [ehc_65] at hQ)
        refine az_E.ov (pc' := 21) (L' := [.ref 3, .int (2 : Int32)]) (S' := []) (σ' := (97, I, J, R)) (x := .ref 65) (o := az_aa az_F (97, I, J, R) 58 (2 : Int32)) rfl rfl ?_
        exact az_E.forget (L := [.retAddr 0, .retAddr 0]) ⟨trivial, trivial, trivial⟩ (re_X_refusalOfBook_21_65 (I := I) (J := J) (R := R)  h hQ)
      · rw [ehc_65] at h ⊢; (try rw [ehc_65] at hQ)
        refine az_E.ov (pc' := 21) (L' := [.ref 3, .int (3 : Int32)]) (S' := []) (σ' := (97, I, J, R)) (x := .ref 67) (o := az_aa az_F (97, I, J, R) 58 (3 : Int32)) rfl rfl ?_
        exact az_E.forget (L := [.retAddr 0, .retAddr 0]) ⟨trivial, trivial, trivial⟩ (re_X_refusalOfBook_21_67 (I := I) (J := J) (R := R)  h hQ)
      · rw [ehc_65] at h ⊢; (try rw [ehc_65] at hQ)
        refine az_E.ov (pc' := 21) (L' := [.ref 3, .int (4 : Int32)]) (S' := []) (σ' := (97, I, J, R)) (x := .ref 69) (o := az_aa az_F (97, I, J, R) 58 (4 : Int32)) rfl rfl ?_
        exact az_E.forget (L := [.retAddr 0, .retAddr 0]) ⟨trivial, trivial, trivial⟩ (re_X_refusalOfBook_21_69 (I := I) (J := J) (R := R)  h hQ)
      · rw [ehc_65] at h ⊢; (try rw [ehc_65] at hQ)
        refine az_E.ov (pc' := 21) (L' := [.ref 3, .int (5 : Int32)]) (S' := []) (σ' := (97, I, J, R)) (x := .ref 71) (o := az_aa az_F (97, I, J, R) 58 (5 : Int32)) rfl rfl ?_
        exact az_E.forget (L := [.retAddr 0, .retAddr 0]) ⟨trivial, trivial, trivial⟩ (re_X_refusalOfBook_21_71 (I := I) (J := J) (R := R)  h hQ)
set_option maxRecDepth 100000 in
set_option maxHeartbeats 4000000 in
theorem re_X_refusalOfBook_6_67 {ex : az_X} {I : Nat → Nat → Int32} {J : Nat → Nat → Int64} {R : Nat → Nat → Option Nat} {v1 : Int32} {x : Int32} (h : rs_X_refusalOfBook_6 67 I v1 = some x) {Q : Option Value → az_S → Prop} (hQ : Q (some (.int x)) (97, I, J, R)) : az_E az_F ex 2 150 6 [.ref 3, .int v1] [.ref 67] (97, I, J, R) Q := by
  unfold rs_X_refusalOfBook_6 at h
  refine az_E.call (d := 1) (k' := 54) (vs := [.ref 67]) (pc' := 9) (S' := []) rfl ?_ (fun _ _ hq => hq)
  show az_E az_F ex 1 54 0 [.ref 67] [] (97, I, J, R) _
  refine az_E.sn 3 (pc' := 5) (L' := [.ref 67]) (S' := [.int (-1 : Int32), .int (I 67 0)]) (σ' := (97, I, J, R)) rfl ?_
  refine az_E.br (c := (I 67 0) = (-1 : Int32)) (tt := 8) (ff := 20) (L' := [.ref 67]) (S' := []) (σ' := (97, I, J, R)) rfl (fun hc_76 => ?_) (fun hc_76 => ?_)
  · rw [if_pos hc_76] at h
    refine az_E.sn 3 (pc' := 13) (L' := [.ref 67]) (S' := [.int (-1 : Int32), .int (I 67 1)]) (σ' := (97, I, J, R)) rfl ?_
    refine az_E.br (c := (I 67 1) = (-1 : Int32)) (tt := 16) (ff := 20) (L' := [.ref 67]) (S' := []) (σ' := (97, I, J, R)) rfl (fun hc_77 => ?_) (fun hc_77 => ?_)
    · rw [if_pos hc_77] at h
      refine az_E.sn 2 (pc' := 21) (L' := [.ref 67]) (S' := [.int (1 : Int32)]) (σ' := (97, I, J, R)) rfl ?_
      refine az_E.ret (v := some (.int (1 : Int32))) (σ' := (97, I, J, R)) rfl ?_
      show az_E az_F ex 2 150 9 [.ref 3, .int v1] [.int (1 : Int32)] (97, I, J, R) _
      refine az_E.br (c := (1 : Int32) = 0) (tt := 15) (ff := 12) (L' := [.ref 3, .int v1]) (S' := []) (σ' := (97, I, J, R)) rfl (fun hn => absurd hn (by decide)) (fun _ => ?_)
      refine az_E.sn 1 (pc' := 14) (L' := [.ref 3, .int v1]) (S' := [.int (-11 : Int32)]) (σ' := (97, I, J, R)) rfl ?_
      have h := Option.some.inj h
      subst h
      exact az_E.ret (v := some (.int (-11 : Int32))) (σ' := (97, I, J, R)) rfl hQ
    · rw [if_neg hc_77] at h
      refine az_E.sn 1 (pc' := 21) (L' := [.ref 67]) (S' := [.int (0 : Int32)]) (σ' := (97, I, J, R)) rfl ?_
      refine az_E.ret (v := some (.int (0 : Int32))) (σ' := (97, I, J, R)) rfl ?_
      show az_E az_F ex 2 150 9 [.ref 3, .int v1] [.int (0 : Int32)] (97, I, J, R) _
      refine az_E.br (c := (0 : Int32) = 0) (tt := 15) (ff := 12) (L' := [.ref 3, .int v1]) (S' := []) (σ' := (97, I, J, R)) rfl (fun _ => ?_) (fun hn => absurd (by decide) hn)
      refine az_E.sn 3 (pc' := 20) (L' := [.ref 3, .int v1]) (S' := [.int v1, .ref 58]) (σ' := (97, I, J, R)) rfl ?_
      by_cases hc_78 : v1 < 0 ∨ 6 ≤ v1.toNatClampNeg
      · rw [if_pos hc_78] at h; cases h
      · rw [if_neg hc_78] at h
        rcases az_six hc_78 with ehc_78 | ehc_78 | ehc_78 | ehc_78 | ehc_78 | ehc_78
        · rw [ehc_78] at h ⊢; (try rw [ehc_78] at hQ)
          refine az_E.ov (pc' := 21) (L' := [.ref 3, .int (0 : Int32)]) (S' := []) (σ' := (97, I, J, R)) (x := .ref 61) (o := az_aa az_F (97, I, J, R) 58 (0 : Int32)) rfl rfl ?_
          exact az_E.forget (L := [.retAddr 0, .retAddr 0]) ⟨trivial, trivial, trivial⟩ (re_X_refusalOfBook_21_61 (I := I) (J := J) (R := R)  h hQ)
        · rw [ehc_78] at h ⊢; (try rw [ehc_78] at hQ)
          refine az_E.ov (pc' := 21) (L' := [.ref 3, .int (1 : Int32)]) (S' := []) (σ' := (97, I, J, R)) (x := .ref 63) (o := az_aa az_F (97, I, J, R) 58 (1 : Int32)) rfl rfl ?_
          exact az_E.forget (L := [.retAddr 0, .retAddr 0]) ⟨trivial, trivial, trivial⟩ (re_X_refusalOfBook_21_63 (I := I) (J := J) (R := R)  h hQ)
        · rw [ehc_78] at h ⊢; (try rw [ehc_78] at hQ)
          refine az_E.ov (pc' := 21) (L' := [.ref 3, .int (2 : Int32)]) (S' := []) (σ' := (97, I, J, R)) (x := .ref 65) (o := az_aa az_F (97, I, J, R) 58 (2 : Int32)) rfl rfl ?_
          exact az_E.forget (L := [.retAddr 0, .retAddr 0]) ⟨trivial, trivial, trivial⟩ (re_X_refusalOfBook_21_65 (I := I) (J := J) (R := R)  h hQ)
        · rw [ehc_78] at h ⊢; (try rw [ehc_78] at hQ)
          refine az_E.ov (pc' := 21) (L' := [.ref 3, .int (3 : Int32)]) (S' := []) (σ' := (97, I, J, R)) (x := .ref 67) (o := az_aa az_F (97, I, J, R) 58 (3 : Int32)) rfl rfl ?_
          exact az_E.forget (L := [.retAddr 0, .retAddr 0]) ⟨trivial, trivial, trivial⟩ (re_X_refusalOfBook_21_67 (I := I) (J := J) (R := R)  h hQ)
        · rw [ehc_78] at h ⊢; (try rw [ehc_78] at hQ)
          refine az_E.ov (pc' := 21) (L' := [.ref 3, .int (4 : Int32)]) (S' := []) (σ' := (97, I, J, R)) (x := .ref 69) (o := az_aa az_F (97, I, J, R) 58 (4 : Int32)) rfl rfl ?_
          exact az_E.forget (L := [.retAddr 0, .retAddr 0]) ⟨trivial, trivial, trivial⟩ (re_X_refusalOfBook_21_69 (I := I) (J := J) (R := R)  h hQ)
        · rw [ehc_78] at h ⊢; (try rw [ehc_78] at hQ)
          refine az_E.ov (pc' := 21) (L' := [.ref 3, .int (5 : Int32)]) (S' := []) (σ' := (97, I, J, R)) (x := .ref 71) (o := az_aa az_F (97, I, J, R) 58 (5 : Int32)) rfl rfl ?_
          exact az_E.forget (L := [.retAddr 0, .retAddr 0]) ⟨trivial, trivial, trivial⟩ (re_X_refusalOfBook_21_71 (I := I) (J := J) (R := R)  h hQ)
  · rw [if_neg hc_76] at h
    refine az_E.sn 1 (pc' := 21) (L' := [.ref 67]) (S' := [.int (0 : Int32)]) (σ' := (97, I, J, R)) rfl ?_
    refine az_E.ret (v := some (.int (0 : Int32))) (σ' := (97, I, J, R)) rfl ?_
    show az_E az_F ex 2 150 9 [.ref 3, .int v1] [.int (0 : Int32)] (97, I, J, R) _
    refine az_E.br (c := (0 : Int32) = 0) (tt := 15) (ff := 12) (L' := [.ref 3, .int v1]) (S' := []) (σ' := (97, I, J, R)) rfl (fun _ => ?_) (fun hn => absurd (by decide) hn)
    refine az_E.sn 3 (pc' := 20) (L' := [.ref 3, .int v1]) (S' := [.int v1, .ref 58]) (σ' := (97, I, J, R)) rfl ?_
    by_cases hc_89 : v1 < 0 ∨ 6 ≤ v1.toNatClampNeg
    · rw [if_pos hc_89] at h; cases h
    · rw [if_neg hc_89] at h
      rcases az_six hc_89 with ehc_89 | ehc_89 | ehc_89 | ehc_89 | ehc_89 | ehc_89
      · rw [ehc_89] at h ⊢; (try rw [ehc_89] at hQ)
        refine az_E.ov (pc' := 21) (L' := [.ref 3, .int (0 : Int32)]) (S' := []) (σ' := (97, I, J, R)) (x := .ref 61) (o := az_aa az_F (97, I, J, R) 58 (0 : Int32)) rfl rfl ?_
        exact az_E.forget (L := [.retAddr 0, .retAddr 0]) ⟨trivial, trivial, trivial⟩ (re_X_refusalOfBook_21_61 (I := I) (J := J) (R := R)  h hQ)
      · rw [ehc_89] at h ⊢; (try rw [ehc_89] at hQ)
        refine az_E.ov (pc' := 21) (L' := [.ref 3, .int (1 : Int32)]) (S' := []) (σ' := (97, I, J, R)) (x := .ref 63) (o := az_aa az_F (97, I, J, R) 58 (1 : Int32)) rfl rfl ?_
        exact az_E.forget (L := [.retAddr 0, .retAddr 0]) ⟨trivial, trivial, trivial⟩ (re_X_refusalOfBook_21_63 (I := I) (J := J) (R := R)  h hQ)
      · rw [ehc_89] at h ⊢; (try rw [ehc_89] at hQ)
        refine az_E.ov (pc' := 21) (L' := [.ref 3, .int (2 : Int32)]) (S' := []) (σ' := (97, I, J, R)) (x := .ref 65) (o := az_aa az_F (97, I, J, R) 58 (2 : Int32)) rfl rfl ?_
        exact az_E.forget (L := [.retAddr 0, .retAddr 0]) ⟨trivial, trivial, trivial⟩ (re_X_refusalOfBook_21_65 (I := I) (J := J) (R := R)  h hQ)
      · rw [ehc_89] at h ⊢; (try rw [ehc_89] at hQ)
        refine az_E.ov (pc' := 21) (L' := [.ref 3, .int (3 : Int32)]) (S' := []) (σ' := (97, I, J, R)) (x := .ref 67) (o := az_aa az_F (97, I, J, R) 58 (3 : Int32)) rfl rfl ?_
        exact az_E.forget (L := [.retAddr 0, .retAddr 0]) ⟨trivial, trivial, trivial⟩ (re_X_refusalOfBook_21_67 (I := I) (J := J) (R := R)  h hQ)
      · rw [ehc_89] at h ⊢; (try rw [ehc_89] at hQ)
        refine az_E.ov (pc' := 21) (L' := [.ref 3, .int (4 : Int32)]) (S' := []) (σ' := (97, I, J, R)) (x := .ref 69) (o := az_aa az_F (97, I, J, R) 58 (4 : Int32)) rfl rfl ?_
        exact az_E.forget (L := [.retAddr 0, .retAddr 0]) ⟨trivial, trivial, trivial⟩ (re_X_refusalOfBook_21_69 (I := I) (J := J) (R := R)  h hQ)
      · rw [ehc_89] at h ⊢; (try rw [ehc_89] at hQ)
        refine az_E.ov (pc' := 21) (L' := [.ref 3, .int (5 : Int32)]) (S' := []) (σ' := (97, I, J, R)) (x := .ref 71) (o := az_aa az_F (97, I, J, R) 58 (5 : Int32)) rfl rfl ?_
        exact az_E.forget (L := [.retAddr 0, .retAddr 0]) ⟨trivial, trivial, trivial⟩ (re_X_refusalOfBook_21_71 (I := I) (J := J) (R := R)  h hQ)
set_option maxRecDepth 100000 in
set_option maxHeartbeats 4000000 in
theorem re_X_refusalOfBook_6_69 {ex : az_X} {I : Nat → Nat → Int32} {J : Nat → Nat → Int64} {R : Nat → Nat → Option Nat} {v1 : Int32} {x : Int32} (h : rs_X_refusalOfBook_6 69 I v1 = some x) {Q : Option Value → az_S → Prop} (hQ : Q (some (.int x)) (97, I, J, R)) : az_E az_F ex 2 150 6 [.ref 3, .int v1] [.ref 69] (97, I, J, R) Q := by
  unfold rs_X_refusalOfBook_6 at h
  refine az_E.call (d := 1) (k' := 54) (vs := [.ref 69]) (pc' := 9) (S' := []) rfl ?_ (fun _ _ hq => hq)
  show az_E az_F ex 1 54 0 [.ref 69] [] (97, I, J, R) _
  refine az_E.sn 3 (pc' := 5) (L' := [.ref 69]) (S' := [.int (-1 : Int32), .int (I 69 0)]) (σ' := (97, I, J, R)) rfl ?_
  refine az_E.br (c := (I 69 0) = (-1 : Int32)) (tt := 8) (ff := 20) (L' := [.ref 69]) (S' := []) (σ' := (97, I, J, R)) rfl (fun hc_100 => ?_) (fun hc_100 => ?_)
  · rw [if_pos hc_100] at h
    refine az_E.sn 3 (pc' := 13) (L' := [.ref 69]) (S' := [.int (-1 : Int32), .int (I 69 1)]) (σ' := (97, I, J, R)) rfl ?_
    refine az_E.br (c := (I 69 1) = (-1 : Int32)) (tt := 16) (ff := 20) (L' := [.ref 69]) (S' := []) (σ' := (97, I, J, R)) rfl (fun hc_101 => ?_) (fun hc_101 => ?_)
    · rw [if_pos hc_101] at h
      refine az_E.sn 2 (pc' := 21) (L' := [.ref 69]) (S' := [.int (1 : Int32)]) (σ' := (97, I, J, R)) rfl ?_
      refine az_E.ret (v := some (.int (1 : Int32))) (σ' := (97, I, J, R)) rfl ?_
      show az_E az_F ex 2 150 9 [.ref 3, .int v1] [.int (1 : Int32)] (97, I, J, R) _
      refine az_E.br (c := (1 : Int32) = 0) (tt := 15) (ff := 12) (L' := [.ref 3, .int v1]) (S' := []) (σ' := (97, I, J, R)) rfl (fun hn => absurd hn (by decide)) (fun _ => ?_)
      refine az_E.sn 1 (pc' := 14) (L' := [.ref 3, .int v1]) (S' := [.int (-11 : Int32)]) (σ' := (97, I, J, R)) rfl ?_
      have h := Option.some.inj h
      subst h
      exact az_E.ret (v := some (.int (-11 : Int32))) (σ' := (97, I, J, R)) rfl hQ
    · rw [if_neg hc_101] at h
      refine az_E.sn 1 (pc' := 21) (L' := [.ref 69]) (S' := [.int (0 : Int32)]) (σ' := (97, I, J, R)) rfl ?_
      refine az_E.ret (v := some (.int (0 : Int32))) (σ' := (97, I, J, R)) rfl ?_
      show az_E az_F ex 2 150 9 [.ref 3, .int v1] [.int (0 : Int32)] (97, I, J, R) _
      refine az_E.br (c := (0 : Int32) = 0) (tt := 15) (ff := 12) (L' := [.ref 3, .int v1]) (S' := []) (σ' := (97, I, J, R)) rfl (fun _ => ?_) (fun hn => absurd (by decide) hn)
      refine az_E.sn 3 (pc' := 20) (L' := [.ref 3, .int v1]) (S' := [.int v1, .ref 58]) (σ' := (97, I, J, R)) rfl ?_
      by_cases hc_102 : v1 < 0 ∨ 6 ≤ v1.toNatClampNeg
      · rw [if_pos hc_102] at h; cases h
      · rw [if_neg hc_102] at h
        rcases az_six hc_102 with ehc_102 | ehc_102 | ehc_102 | ehc_102 | ehc_102 | ehc_102
        · rw [ehc_102] at h ⊢; (try rw [ehc_102] at hQ)
          refine az_E.ov (pc' := 21) (L' := [.ref 3, .int (0 : Int32)]) (S' := []) (σ' := (97, I, J, R)) (x := .ref 61) (o := az_aa az_F (97, I, J, R) 58 (0 : Int32)) rfl rfl ?_
          exact az_E.forget (L := [.retAddr 0, .retAddr 0]) ⟨trivial, trivial, trivial⟩ (re_X_refusalOfBook_21_61 (I := I) (J := J) (R := R)  h hQ)
        · rw [ehc_102] at h ⊢; (try rw [ehc_102] at hQ)
          refine az_E.ov (pc' := 21) (L' := [.ref 3, .int (1 : Int32)]) (S' := []) (σ' := (97, I, J, R)) (x := .ref 63) (o := az_aa az_F (97, I, J, R) 58 (1 : Int32)) rfl rfl ?_
          exact az_E.forget (L := [.retAddr 0, .retAddr 0]) ⟨trivial, trivial, trivial⟩ (re_X_refusalOfBook_21_63 (I := I) (J := J) (R := R)  h hQ)
        · rw [ehc_102] at h ⊢; (try rw [ehc_102] at hQ)
          refine az_E.ov (pc' := 21) (L' := [.ref 3, .int (2 : Int32)]) (S' := []) (σ' := (97, I, J, R)) (x := .ref 65) (o := az_aa az_F (97, I, J, R) 58 (2 : Int32)) rfl rfl ?_
          exact az_E.forget (L := [.retAddr 0, .retAddr 0]) ⟨trivial, trivial, trivial⟩ (re_X_refusalOfBook_21_65 (I := I) (J := J) (R := R)  h hQ)
        · rw [ehc_102] at h ⊢; (try rw [ehc_102] at hQ)
          refine az_E.ov (pc' := 21) (L' := [.ref 3, .int (3 : Int32)]) (S' := []) (σ' := (97, I, J, R)) (x := .ref 67) (o := az_aa az_F (97, I, J, R) 58 (3 : Int32)) rfl rfl ?_
          exact az_E.forget (L := [.retAddr 0, .retAddr 0]) ⟨trivial, trivial, trivial⟩ (re_X_refusalOfBook_21_67 (I := I) (J := J) (R := R)  h hQ)
        · rw [ehc_102] at h ⊢; (try rw [ehc_102] at hQ)
          refine az_E.ov (pc' := 21) (L' := [.ref 3, .int (4 : Int32)]) (S' := []) (σ' := (97, I, J, R)) (x := .ref 69) (o := az_aa az_F (97, I, J, R) 58 (4 : Int32)) rfl rfl ?_
          exact az_E.forget (L := [.retAddr 0, .retAddr 0]) ⟨trivial, trivial, trivial⟩ (re_X_refusalOfBook_21_69 (I := I) (J := J) (R := R)  h hQ)
        · rw [ehc_102] at h ⊢; (try rw [ehc_102] at hQ)
          refine az_E.ov (pc' := 21) (L' := [.ref 3, .int (5 : Int32)]) (S' := []) (σ' := (97, I, J, R)) (x := .ref 71) (o := az_aa az_F (97, I, J, R) 58 (5 : Int32)) rfl rfl ?_
          exact az_E.forget (L := [.retAddr 0, .retAddr 0]) ⟨trivial, trivial, trivial⟩ (re_X_refusalOfBook_21_71 (I := I) (J := J) (R := R)  h hQ)
  · rw [if_neg hc_100] at h
    refine az_E.sn 1 (pc' := 21) (L' := [.ref 69]) (S' := [.int (0 : Int32)]) (σ' := (97, I, J, R)) rfl ?_
    refine az_E.ret (v := some (.int (0 : Int32))) (σ' := (97, I, J, R)) rfl ?_
    show az_E az_F ex 2 150 9 [.ref 3, .int v1] [.int (0 : Int32)] (97, I, J, R) _
    refine az_E.br (c := (0 : Int32) = 0) (tt := 15) (ff := 12) (L' := [.ref 3, .int v1]) (S' := []) (σ' := (97, I, J, R)) rfl (fun _ => ?_) (fun hn => absurd (by decide) hn)
    refine az_E.sn 3 (pc' := 20) (L' := [.ref 3, .int v1]) (S' := [.int v1, .ref 58]) (σ' := (97, I, J, R)) rfl ?_
    by_cases hc_113 : v1 < 0 ∨ 6 ≤ v1.toNatClampNeg
    · rw [if_pos hc_113] at h; cases h
    · rw [if_neg hc_113] at h
      rcases az_six hc_113 with ehc_113 | ehc_113 | ehc_113 | ehc_113 | ehc_113 | ehc_113
      · rw [ehc_113] at h ⊢; (try rw [ehc_113] at hQ)
        refine az_E.ov (pc' := 21) (L' := [.ref 3, .int (0 : Int32)]) (S' := []) (σ' := (97, I, J, R)) (x := .ref 61) (o := az_aa az_F (97, I, J, R) 58 (0 : Int32)) rfl rfl ?_
        exact az_E.forget (L := [.retAddr 0, .retAddr 0]) ⟨trivial, trivial, trivial⟩ (re_X_refusalOfBook_21_61 (I := I) (J := J) (R := R)  h hQ)
      · rw [ehc_113] at h ⊢; (try rw [ehc_113] at hQ)
        refine az_E.ov (pc' := 21) (L' := [.ref 3, .int (1 : Int32)]) (S' := []) (σ' := (97, I, J, R)) (x := .ref 63) (o := az_aa az_F (97, I, J, R) 58 (1 : Int32)) rfl rfl ?_
        exact az_E.forget (L := [.retAddr 0, .retAddr 0]) ⟨trivial, trivial, trivial⟩ (re_X_refusalOfBook_21_63 (I := I) (J := J) (R := R)  h hQ)
      · rw [ehc_113] at h ⊢; (try rw [ehc_113] at hQ)
        refine az_E.ov (pc' := 21) (L' := [.ref 3, .int (2 : Int32)]) (S' := []) (σ' := (97, I, J, R)) (x := .ref 65) (o := az_aa az_F (97, I, J, R) 58 (2 : Int32)) rfl rfl ?_
        exact az_E.forget (L := [.retAddr 0, .retAddr 0]) ⟨trivial, trivial, trivial⟩ (re_X_refusalOfBook_21_65 (I := I) (J := J) (R := R)  h hQ)
      · rw [ehc_113] at h ⊢; (try rw [ehc_113] at hQ)
        refine az_E.ov (pc' := 21) (L' := [.ref 3, .int (3 : Int32)]) (S' := []) (σ' := (97, I, J, R)) (x := .ref 67) (o := az_aa az_F (97, I, J, R) 58 (3 : Int32)) rfl rfl ?_
        exact az_E.forget (L := [.retAddr 0, .retAddr 0]) ⟨trivial, trivial, trivial⟩ (re_X_refusalOfBook_21_67 (I := I) (J := J) (R := R)  h hQ)
      · rw [ehc_113] at h ⊢; (try rw [ehc_113] at hQ)
        refine az_E.ov (pc' := 21) (L' := [.ref 3, .int (4 : Int32)]) (S' := []) (σ' := (97, I, J, R)) (x := .ref 69) (o := az_aa az_F (97, I, J, R) 58 (4 : Int32)) rfl rfl ?_
        exact az_E.forget (L := [.retAddr 0, .retAddr 0]) ⟨trivial, trivial, trivial⟩ (re_X_refusalOfBook_21_69 (I := I) (J := J) (R := R)  h hQ)
      · rw [ehc_113] at h ⊢; (try rw [ehc_113] at hQ)
        refine az_E.ov (pc' := 21) (L' := [.ref 3, .int (5 : Int32)]) (S' := []) (σ' := (97, I, J, R)) (x := .ref 71) (o := az_aa az_F (97, I, J, R) 58 (5 : Int32)) rfl rfl ?_
        exact az_E.forget (L := [.retAddr 0, .retAddr 0]) ⟨trivial, trivial, trivial⟩ (re_X_refusalOfBook_21_71 (I := I) (J := J) (R := R)  h hQ)
set_option maxRecDepth 100000 in
set_option maxHeartbeats 4000000 in
theorem re_X_refusalOfBook_6_71 {ex : az_X} {I : Nat → Nat → Int32} {J : Nat → Nat → Int64} {R : Nat → Nat → Option Nat} {v1 : Int32} {x : Int32} (h : rs_X_refusalOfBook_6 71 I v1 = some x) {Q : Option Value → az_S → Prop} (hQ : Q (some (.int x)) (97, I, J, R)) : az_E az_F ex 2 150 6 [.ref 3, .int v1] [.ref 71] (97, I, J, R) Q := by
  unfold rs_X_refusalOfBook_6 at h
  refine az_E.call (d := 1) (k' := 54) (vs := [.ref 71]) (pc' := 9) (S' := []) rfl ?_ (fun _ _ hq => hq)
  show az_E az_F ex 1 54 0 [.ref 71] [] (97, I, J, R) _
  refine az_E.sn 3 (pc' := 5) (L' := [.ref 71]) (S' := [.int (-1 : Int32), .int (I 71 0)]) (σ' := (97, I, J, R)) rfl ?_
  refine az_E.br (c := (I 71 0) = (-1 : Int32)) (tt := 8) (ff := 20) (L' := [.ref 71]) (S' := []) (σ' := (97, I, J, R)) rfl (fun hc_124 => ?_) (fun hc_124 => ?_)
  · rw [if_pos hc_124] at h
    refine az_E.sn 3 (pc' := 13) (L' := [.ref 71]) (S' := [.int (-1 : Int32), .int (I 71 1)]) (σ' := (97, I, J, R)) rfl ?_
    refine az_E.br (c := (I 71 1) = (-1 : Int32)) (tt := 16) (ff := 20) (L' := [.ref 71]) (S' := []) (σ' := (97, I, J, R)) rfl (fun hc_125 => ?_) (fun hc_125 => ?_)
    · rw [if_pos hc_125] at h
      refine az_E.sn 2 (pc' := 21) (L' := [.ref 71]) (S' := [.int (1 : Int32)]) (σ' := (97, I, J, R)) rfl ?_
      refine az_E.ret (v := some (.int (1 : Int32))) (σ' := (97, I, J, R)) rfl ?_
      show az_E az_F ex 2 150 9 [.ref 3, .int v1] [.int (1 : Int32)] (97, I, J, R) _
      refine az_E.br (c := (1 : Int32) = 0) (tt := 15) (ff := 12) (L' := [.ref 3, .int v1]) (S' := []) (σ' := (97, I, J, R)) rfl (fun hn => absurd hn (by decide)) (fun _ => ?_)
      refine az_E.sn 1 (pc' := 14) (L' := [.ref 3, .int v1]) (S' := [.int (-11 : Int32)]) (σ' := (97, I, J, R)) rfl ?_
      have h := Option.some.inj h
      subst h
      exact az_E.ret (v := some (.int (-11 : Int32))) (σ' := (97, I, J, R)) rfl hQ
    · rw [if_neg hc_125] at h
      refine az_E.sn 1 (pc' := 21) (L' := [.ref 71]) (S' := [.int (0 : Int32)]) (σ' := (97, I, J, R)) rfl ?_
      refine az_E.ret (v := some (.int (0 : Int32))) (σ' := (97, I, J, R)) rfl ?_
      show az_E az_F ex 2 150 9 [.ref 3, .int v1] [.int (0 : Int32)] (97, I, J, R) _
      refine az_E.br (c := (0 : Int32) = 0) (tt := 15) (ff := 12) (L' := [.ref 3, .int v1]) (S' := []) (σ' := (97, I, J, R)) rfl (fun _ => ?_) (fun hn => absurd (by decide) hn)
      refine az_E.sn 3 (pc' := 20) (L' := [.ref 3, .int v1]) (S' := [.int v1, .ref 58]) (σ' := (97, I, J, R)) rfl ?_
      by_cases hc_126 : v1 < 0 ∨ 6 ≤ v1.toNatClampNeg
      · rw [if_pos hc_126] at h; cases h
      · rw [if_neg hc_126] at h
        rcases az_six hc_126 with ehc_126 | ehc_126 | ehc_126 | ehc_126 | ehc_126 | ehc_126
        · rw [ehc_126] at h ⊢; (try rw [ehc_126] at hQ)
          refine az_E.ov (pc' := 21) (L' := [.ref 3, .int (0 : Int32)]) (S' := []) (σ' := (97, I, J, R)) (x := .ref 61) (o := az_aa az_F (97, I, J, R) 58 (0 : Int32)) rfl rfl ?_
          exact az_E.forget (L := [.retAddr 0, .retAddr 0]) ⟨trivial, trivial, trivial⟩ (re_X_refusalOfBook_21_61 (I := I) (J := J) (R := R)  h hQ)
        · rw [ehc_126] at h ⊢; (try rw [ehc_126] at hQ)
          refine az_E.ov (pc' := 21) (L' := [.ref 3, .int (1 : Int32)]) (S' := []) (σ' := (97, I, J, R)) (x := .ref 63) (o := az_aa az_F (97, I, J, R) 58 (1 : Int32)) rfl rfl ?_
          exact az_E.forget (L := [.retAddr 0, .retAddr 0]) ⟨trivial, trivial, trivial⟩ (re_X_refusalOfBook_21_63 (I := I) (J := J) (R := R)  h hQ)
        · rw [ehc_126] at h ⊢; (try rw [ehc_126] at hQ)
          refine az_E.ov (pc' := 21) (L' := [.ref 3, .int (2 : Int32)]) (S' := []) (σ' := (97, I, J, R)) (x := .ref 65) (o := az_aa az_F (97, I, J, R) 58 (2 : Int32)) rfl rfl ?_
          exact az_E.forget (L := [.retAddr 0, .retAddr 0]) ⟨trivial, trivial, trivial⟩ (re_X_refusalOfBook_21_65 (I := I) (J := J) (R := R)  h hQ)
        · rw [ehc_126] at h ⊢; (try rw [ehc_126] at hQ)
          refine az_E.ov (pc' := 21) (L' := [.ref 3, .int (3 : Int32)]) (S' := []) (σ' := (97, I, J, R)) (x := .ref 67) (o := az_aa az_F (97, I, J, R) 58 (3 : Int32)) rfl rfl ?_
          exact az_E.forget (L := [.retAddr 0, .retAddr 0]) ⟨trivial, trivial, trivial⟩ (re_X_refusalOfBook_21_67 (I := I) (J := J) (R := R)  h hQ)
        · rw [ehc_126] at h ⊢; (try rw [ehc_126] at hQ)
          refine az_E.ov (pc' := 21) (L' := [.ref 3, .int (4 : Int32)]) (S' := []) (σ' := (97, I, J, R)) (x := .ref 69) (o := az_aa az_F (97, I, J, R) 58 (4 : Int32)) rfl rfl ?_
          exact az_E.forget (L := [.retAddr 0, .retAddr 0]) ⟨trivial, trivial, trivial⟩ (re_X_refusalOfBook_21_69 (I := I) (J := J) (R := R)  h hQ)
        · rw [ehc_126] at h ⊢; (try rw [ehc_126] at hQ)
          refine az_E.ov (pc' := 21) (L' := [.ref 3, .int (5 : Int32)]) (S' := []) (σ' := (97, I, J, R)) (x := .ref 71) (o := az_aa az_F (97, I, J, R) 58 (5 : Int32)) rfl rfl ?_
          exact az_E.forget (L := [.retAddr 0, .retAddr 0]) ⟨trivial, trivial, trivial⟩ (re_X_refusalOfBook_21_71 (I := I) (J := J) (R := R)  h hQ)
  · rw [if_neg hc_124] at h
    refine az_E.sn 1 (pc' := 21) (L' := [.ref 71]) (S' := [.int (0 : Int32)]) (σ' := (97, I, J, R)) rfl ?_
    refine az_E.ret (v := some (.int (0 : Int32))) (σ' := (97, I, J, R)) rfl ?_
    show az_E az_F ex 2 150 9 [.ref 3, .int v1] [.int (0 : Int32)] (97, I, J, R) _
    refine az_E.br (c := (0 : Int32) = 0) (tt := 15) (ff := 12) (L' := [.ref 3, .int v1]) (S' := []) (σ' := (97, I, J, R)) rfl (fun _ => ?_) (fun hn => absurd (by decide) hn)
    refine az_E.sn 3 (pc' := 20) (L' := [.ref 3, .int v1]) (S' := [.int v1, .ref 58]) (σ' := (97, I, J, R)) rfl ?_
    by_cases hc_137 : v1 < 0 ∨ 6 ≤ v1.toNatClampNeg
    · rw [if_pos hc_137] at h; cases h
    · rw [if_neg hc_137] at h
      rcases az_six hc_137 with ehc_137 | ehc_137 | ehc_137 | ehc_137 | ehc_137 | ehc_137
      · rw [ehc_137] at h ⊢; (try rw [ehc_137] at hQ)
        refine az_E.ov (pc' := 21) (L' := [.ref 3, .int (0 : Int32)]) (S' := []) (σ' := (97, I, J, R)) (x := .ref 61) (o := az_aa az_F (97, I, J, R) 58 (0 : Int32)) rfl rfl ?_
        exact az_E.forget (L := [.retAddr 0, .retAddr 0]) ⟨trivial, trivial, trivial⟩ (re_X_refusalOfBook_21_61 (I := I) (J := J) (R := R)  h hQ)
      · rw [ehc_137] at h ⊢; (try rw [ehc_137] at hQ)
        refine az_E.ov (pc' := 21) (L' := [.ref 3, .int (1 : Int32)]) (S' := []) (σ' := (97, I, J, R)) (x := .ref 63) (o := az_aa az_F (97, I, J, R) 58 (1 : Int32)) rfl rfl ?_
        exact az_E.forget (L := [.retAddr 0, .retAddr 0]) ⟨trivial, trivial, trivial⟩ (re_X_refusalOfBook_21_63 (I := I) (J := J) (R := R)  h hQ)
      · rw [ehc_137] at h ⊢; (try rw [ehc_137] at hQ)
        refine az_E.ov (pc' := 21) (L' := [.ref 3, .int (2 : Int32)]) (S' := []) (σ' := (97, I, J, R)) (x := .ref 65) (o := az_aa az_F (97, I, J, R) 58 (2 : Int32)) rfl rfl ?_
        exact az_E.forget (L := [.retAddr 0, .retAddr 0]) ⟨trivial, trivial, trivial⟩ (re_X_refusalOfBook_21_65 (I := I) (J := J) (R := R)  h hQ)
      · rw [ehc_137] at h ⊢; (try rw [ehc_137] at hQ)
        refine az_E.ov (pc' := 21) (L' := [.ref 3, .int (3 : Int32)]) (S' := []) (σ' := (97, I, J, R)) (x := .ref 67) (o := az_aa az_F (97, I, J, R) 58 (3 : Int32)) rfl rfl ?_
        exact az_E.forget (L := [.retAddr 0, .retAddr 0]) ⟨trivial, trivial, trivial⟩ (re_X_refusalOfBook_21_67 (I := I) (J := J) (R := R)  h hQ)
      · rw [ehc_137] at h ⊢; (try rw [ehc_137] at hQ)
        refine az_E.ov (pc' := 21) (L' := [.ref 3, .int (4 : Int32)]) (S' := []) (σ' := (97, I, J, R)) (x := .ref 69) (o := az_aa az_F (97, I, J, R) 58 (4 : Int32)) rfl rfl ?_
        exact az_E.forget (L := [.retAddr 0, .retAddr 0]) ⟨trivial, trivial, trivial⟩ (re_X_refusalOfBook_21_69 (I := I) (J := J) (R := R)  h hQ)
      · rw [ehc_137] at h ⊢; (try rw [ehc_137] at hQ)
        refine az_E.ov (pc' := 21) (L' := [.ref 3, .int (5 : Int32)]) (S' := []) (σ' := (97, I, J, R)) (x := .ref 71) (o := az_aa az_F (97, I, J, R) 58 (5 : Int32)) rfl rfl ?_
        exact az_E.forget (L := [.retAddr 0, .retAddr 0]) ⟨trivial, trivial, trivial⟩ (re_X_refusalOfBook_21_71 (I := I) (J := J) (R := R)  h hQ)
set_option maxRecDepth 100000 in
set_option maxHeartbeats 4000000 in
theorem re_X_refusalOfBook {ex : az_X} {I : Nat → Nat → Int32} {J : Nat → Nat → Int64} {R : Nat → Nat → Option Nat} {a1 : Int32} {o : Int32} (h : rs_X_refusalOfBook I a1 = some o) {Q : Option Value → az_S → Prop} (hQ : Q (some (.int o)) (97, I, J, R)) : az_E az_F ex 2 150 0 [.ref 3, .int a1] [] (97, I, J, R) Q := by
  unfold rs_X_refusalOfBook at h
  refine az_E.sn 3 (pc' := 5) (L' := [.ref 3, .int a1]) (S' := [.int a1, .ref 58]) (σ' := (97, I, J, R)) rfl ?_
  by_cases hc_1 : a1 < 0 ∨ 6 ≤ a1.toNatClampNeg
  · rw [if_pos hc_1] at h; cases h
  · rw [if_neg hc_1] at h
    rcases az_six hc_1 with ehc_1 | ehc_1 | ehc_1 | ehc_1 | ehc_1 | ehc_1
    · subst ehc_1
      refine az_E.ov (pc' := 6) (L' := [.ref 3, .int (0 : Int32)]) (S' := []) (σ' := (97, I, J, R)) (x := .ref 61) (o := az_aa az_F (97, I, J, R) 58 (0 : Int32)) rfl rfl ?_
      exact az_E.forget (L := [.ref 3, .int (0 : Int32)]) ⟨rfl, rfl, trivial⟩ (re_X_refusalOfBook_6_61 (I := I) (J := J) (R := R)  h hQ)
    · subst ehc_1
      refine az_E.ov (pc' := 6) (L' := [.ref 3, .int (1 : Int32)]) (S' := []) (σ' := (97, I, J, R)) (x := .ref 63) (o := az_aa az_F (97, I, J, R) 58 (1 : Int32)) rfl rfl ?_
      exact az_E.forget (L := [.ref 3, .int (1 : Int32)]) ⟨rfl, rfl, trivial⟩ (re_X_refusalOfBook_6_63 (I := I) (J := J) (R := R)  h hQ)
    · subst ehc_1
      refine az_E.ov (pc' := 6) (L' := [.ref 3, .int (2 : Int32)]) (S' := []) (σ' := (97, I, J, R)) (x := .ref 65) (o := az_aa az_F (97, I, J, R) 58 (2 : Int32)) rfl rfl ?_
      exact az_E.forget (L := [.ref 3, .int (2 : Int32)]) ⟨rfl, rfl, trivial⟩ (re_X_refusalOfBook_6_65 (I := I) (J := J) (R := R)  h hQ)
    · subst ehc_1
      refine az_E.ov (pc' := 6) (L' := [.ref 3, .int (3 : Int32)]) (S' := []) (σ' := (97, I, J, R)) (x := .ref 67) (o := az_aa az_F (97, I, J, R) 58 (3 : Int32)) rfl rfl ?_
      exact az_E.forget (L := [.ref 3, .int (3 : Int32)]) ⟨rfl, rfl, trivial⟩ (re_X_refusalOfBook_6_67 (I := I) (J := J) (R := R)  h hQ)
    · subst ehc_1
      refine az_E.ov (pc' := 6) (L' := [.ref 3, .int (4 : Int32)]) (S' := []) (σ' := (97, I, J, R)) (x := .ref 69) (o := az_aa az_F (97, I, J, R) 58 (4 : Int32)) rfl rfl ?_
      exact az_E.forget (L := [.ref 3, .int (4 : Int32)]) ⟨rfl, rfl, trivial⟩ (re_X_refusalOfBook_6_69 (I := I) (J := J) (R := R)  h hQ)
    · subst ehc_1
      refine az_E.ov (pc' := 6) (L' := [.ref 3, .int (5 : Int32)]) (S' := []) (σ' := (97, I, J, R)) (x := .ref 71) (o := az_aa az_F (97, I, J, R) 58 (5 : Int32)) rfl rfl ?_
      exact az_E.forget (L := [.ref 3, .int (5 : Int32)]) ⟨rfl, rfl, trivial⟩ (re_X_refusalOfBook_6_71 (I := I) (J := J) (R := R)  h hQ)
set_option maxRecDepth 100000 in
set_option maxHeartbeats 4000000 in
theorem re_X_firstWrongTwo_53_61_5 {ex : az_X} {I : Nat → Nat → Int32} {J : Nat → Nat → Int64} {R : Nat → Nat → Option Nat} {v2 : Int32} (hR_26_3 : R 26 3 = some 5) {x : Int32 × (Nat → Nat → Int32)} (h : rs_X_firstWrongTwo_53 61 I J v2 = some x) {Q : Option Value → az_S → Prop} (hQ : Q (some (.int x.1)) (97, x.2, J, R)) : az_E az_F ex 5 151 53 [.retAddr 0, .retAddr 0, .int v2, .retAddr 0] [] (97, I, J, R) Q := by
  unfold rs_X_firstWrongTwo_53 at h
  refine az_E.sn 2 (pc' := 55) (L' := [.retAddr 0, .retAddr 0, .int v2, .retAddr 0]) (S' := [.int (2 : Int32), .int v2]) (σ' := (97, I, J, R)) rfl ?_
  have hd_4 : ¬ ((2 : Int32) = 0) := by decide
  refine az_E.dv (c := (2 : Int32) = 0) (pc' := 56) (L' := [.retAddr 0, .retAddr 0, .int v2, .retAddr 0]) (S' := [.int (v2 / (2 : Int32))]) (σ' := (97, I, J, R)) rfl hd_4 ?_
  have h := Option.some.inj h
  subst h
  exact az_E.ret (v := some (.int (v2 / (2 : Int32)))) (σ' := (97, I, J, R)) rfl hQ
set_option maxRecDepth 100000 in
set_option maxHeartbeats 4000000 in
theorem re_X_firstWrongTwo_96_61_5 {ex : az_X} {I : Nat → Nat → Int32} {J : Nat → Nat → Int64} {R : Nat → Nat → Option Nat} {v2 : Int32} (hR_26_3 : R 26 3 = some 5) {x : Int32 × (Nat → Nat → Int32)} (h : rs_X_firstWrongTwo_96 61 I J v2 = some x) {Q : Option Value → az_S → Prop} (hQ : Q (some (.int x.1)) (97, x.2, J, R)) : az_E az_F ex 5 151 96 [.retAddr 0, .retAddr 0, .int v2, .retAddr 0] [] (97, I, J, R) Q := by
  unfold rs_X_firstWrongTwo_96 at h
  refine az_E.sn 2 (pc' := 98) (L' := [.retAddr 0, .retAddr 0, .int v2, .retAddr 0]) (S' := [.int (2 : Int32), .int v2]) (σ' := (97, I, J, R)) rfl ?_
  have hd_12 : ¬ ((2 : Int32) = 0) := by decide
  refine az_E.dv (c := (2 : Int32) = 0) (pc' := 99) (L' := [.retAddr 0, .retAddr 0, .int v2, .retAddr 0]) (S' := [.int (v2 / (2 : Int32))]) (σ' := (97, I, J, R)) rfl hd_12 ?_
  have h := Option.some.inj h
  subst h
  exact az_E.ret (v := some (.int (v2 / (2 : Int32)))) (σ' := (97, I, J, R)) rfl hQ
set_option maxRecDepth 100000 in
set_option maxHeartbeats 4000000 in
theorem re_X_firstWrongTwo_77_61_5 {ex : az_X} {I : Nat → Nat → Int32} {J : Nat → Nat → Int64} {R : Nat → Nat → Option Nat} {v2 : Int32} {v3 : Int32} (hR_26_3 : R 26 3 = some 5) {x : ((Int32 × (Nat → Nat → Int32)) ⊕ (Int32 × (Nat → Nat → Int32)))} (h : rs_X_firstWrongTwo_77 61 I J v2 v3 = some x) {Q : Option Value → az_S → Prop} (hQ : Sum.elim (fun s => az_E az_F ex 5 151 10 [.ref 3, .ref 61, .int s.1, .retAddr 0] [] (97, s.2, J, R) Q) (fun x => Q (some (.int x.1)) (97, x.2, J, R)) x) : az_E az_F ex 5 151 77 [.ref 3, .ref 61, .int v2, .int v3] [] (97, I, J, R) Q := by
  unfold rs_X_firstWrongTwo_77 at h
  refine az_E.sn 3 (pc' := 82) (L' := [.ref 3, .ref 61, .int v2, .int v3]) (S' := [.int v3, .ref 59]) (σ' := (97, I, J, R)) rfl ?_
  by_cases hc_9 : v3 < 0 ∨ 8 ≤ v3.toNatClampNeg
  · rw [if_pos hc_9] at h; cases h
  · rw [if_neg hc_9] at h
    refine az_E.oi (o := az_ai az_F ex (97, I, J, R) 59 v3) (pc' := 83) (L' := [.ref 3, .ref 61, .int v2, .int v3]) (S' := []) (σ' := (97, I, J, R)) (x := (I 59 v3.toNatClampNeg)) rfl (if_neg hc_9) ?_
    refine az_E.sn 6 (pc' := 91) (L' := [.ref 3, .ref 61, .int v2, .int v3]) (S' := [.int (v2 + (1 : Int32)), .ref (61 + 1), .long (I 59 v3.toNatClampNeg).toInt64]) (σ' := (97, I, J, R)) rfl ?_
    by_cases hc_10 : (v2 + (1 : Int32)) < 0 ∨ 60 ≤ (v2 + (1 : Int32)).toNatClampNeg
    · rw [if_pos hc_10] at h; cases h
    · rw [if_neg hc_10] at h
      refine az_E.ol (o := az_al az_F (97, I, J, R) (61 + 1) (v2 + (1 : Int32))) (pc' := 92) (L' := [.ref 3, .ref 61, .int v2, .int v3]) (S' := [.long (I 59 v3.toNatClampNeg).toInt64]) (σ' := (97, I, J, R)) (x := (J (61 + 1) (v2 + (1 : Int32)).toNatClampNeg)) rfl (if_neg hc_10) ?_
      refine az_E.sn 1 (pc' := 93) (L' := [.ref 3, .ref 61, .int v2, .int v3]) (S' := [.int (lg_cmp (I 59 v3.toNatClampNeg).toInt64 (J (61 + 1) (v2 + (1 : Int32)).toNatClampNeg))]) (σ' := (97, I, J, R)) rfl ?_
      refine az_E.br (c := (lg_cmp (I 59 v3.toNatClampNeg).toInt64 (J (61 + 1) (v2 + (1 : Int32)).toNatClampNeg)) = 0) (tt := 100) (ff := 96) (L' := [.ref 3, .ref 61, .int v2, .int v3]) (S' := []) (σ' := (97, I, J, R)) rfl (fun hc_11 => ?_) (fun hc_11 => ?_)
      · rw [if_pos hc_11] at h
        refine az_E.sn 2 (pc' := 10) (L' := [.ref 3, .ref 61, .int (v2 + (2 : Int32)), .int v3]) (S' := []) (σ' := (97, I, J, R)) rfl ?_
        have h := Option.some.inj h
        subst h
        exact az_E.forget (L := [.ref 3, .ref 61, .int (v2 + (2 : Int32)), .retAddr 0]) ⟨rfl, rfl, rfl, trivial, trivial⟩ hQ
      · rw [if_neg hc_11] at h
        obtain ⟨x, hx, rfl⟩ := Option.map_eq_some_iff.mp h
        exact az_E.forget (L := [.retAddr 0, .retAddr 0, .int v2, .retAddr 0]) ⟨trivial, trivial, rfl, trivial, trivial⟩ (re_X_firstWrongTwo_96_61_5 (I := I) (J := J) (R := R) hR_26_3 hx hQ)
set_option maxRecDepth 100000 in
set_option maxHeartbeats 4000000 in
theorem re_X_firstWrongTwo_10_b_61_5 {ex : az_X} {I : Nat → Nat → Int32} {J : Nat → Nat → Int64} {R : Nat → Nat → Option Nat} {v2 : Int32} (hR_26_3 : R 26 3 = some 5) {x : ((Int32 × (Nat → Nat → Int32)) ⊕ (Int32 × (Nat → Nat → Int32)))} (h : rs_X_firstWrongTwo_10_b 61 J v2 I = some x) {Q : Option Value → az_S → Prop} (hQ : Sum.elim (fun s => az_E az_F ex 5 151 10 [.ref 3, .ref 61, .int s.1, .retAddr 0] [] (97, s.2, J, R) Q) (fun x => Q (some (.int x.1)) (97, x.2, J, R)) x) : az_E az_F ex 5 151 10 [.ref 3, .ref 61, .int v2, .retAddr 0] [] (97, I, J, R) Q := by
  unfold rs_X_firstWrongTwo_10_b at h
  refine az_E.sn 3 (pc' := 15) (L' := [.ref 3, .ref 61, .int v2, .retAddr 0]) (S' := [.int (I 61 2), .int v2]) (σ' := (97, I, J, R)) rfl ?_
  refine az_E.br (c := (I 61 2) ≤ v2) (tt := 106) (ff := 18) (L' := [.ref 3, .ref 61, .int v2, .retAddr 0]) (S' := []) (σ' := (97, I, J, R)) rfl (fun hc_1 => ?_) (fun hc_1 => ?_)
  · rw [if_pos hc_1] at h
    refine az_E.sn 1 (pc' := 108) (L' := [.ref 3, .ref 61, .int v2, .retAddr 0]) (S' := [.int (-2 : Int32)]) (σ' := (97, I, J, R)) rfl ?_
    have h := Option.some.inj h
    subst h
    exact az_E.ret (v := some (.int (-2 : Int32))) (σ' := (97, I, J, R)) rfl hQ
  · rw [if_neg hc_1] at h
    refine az_E.sn 3 (pc' := 23) (L' := [.ref 3, .ref 61, .int v2, .retAddr 0]) (S' := [.int v2, .ref (61 + 1)]) (σ' := (97, I, J, R)) rfl ?_
    by_cases hc_2 : v2 < 0 ∨ 60 ≤ v2.toNatClampNeg
    · rw [if_pos hc_2] at h; cases h
    · rw [if_neg hc_2] at h
      refine az_E.ol (o := az_al az_F (97, I, J, R) (61 + 1) v2) (pc' := 24) (L' := [.ref 3, .ref 61, .int v2, .retAddr 0]) (S' := []) (σ' := (97, I, J, R)) (x := (J (61 + 1) v2.toNatClampNeg)) rfl (if_neg hc_2) ?_
      refine az_E.sn 7 (pc' := 33) (L' := [.ref 3, .ref 61, .int v2, .int (J (61 + 1) v2.toNatClampNeg).toInt32]) (S' := [.int (I 61 2), .int (v2 + (1 : Int32))]) (σ' := (97, I, J, R)) rfl ?_
      refine az_E.br (c := (I 61 2) ≤ (v2 + (1 : Int32))) (tt := 53) (ff := 36) (L' := [.ref 3, .ref 61, .int v2, .int (J (61 + 1) v2.toNatClampNeg).toInt32]) (S' := []) (σ' := (97, I, J, R)) rfl (fun hc_3 => ?_) (fun hc_3 => ?_)
      · rw [if_pos hc_3] at h
        obtain ⟨x, hx, rfl⟩ := Option.map_eq_some_iff.mp h
        exact az_E.forget (L := [.retAddr 0, .retAddr 0, .int v2, .retAddr 0]) ⟨trivial, trivial, rfl, trivial, trivial⟩ (re_X_firstWrongTwo_53_61_5 (I := I) (J := J) (R := R) hR_26_3 hx hQ)
      · rw [if_neg hc_3] at h
        refine az_E.sn 7 (pc' := 47) (L' := [.ref 3, .ref 61, .int v2, .int (J (61 + 1) v2.toNatClampNeg).toInt32]) (S' := [.int ((I 4 3) - (1 : Int32)), .int (0 : Int32), .int (J (61 + 1) v2.toNatClampNeg).toInt32]) (σ' := (97, I, J, R)) rfl ?_
        refine az_E.call (d := 4) (k' := 131) (vs := [.int (J (61 + 1) v2.toNatClampNeg).toInt32, .int (0 : Int32), .int ((I 4 3) - (1 : Int32))]) (pc' := 50) (S' := []) rfl ?_ (fun _ _ hq => hq)
        show az_E az_F ex 4 131 0 [.int (J (61 + 1) v2.toNatClampNeg).toInt32, .int (0 : Int32), .int ((I 4 3) - (1 : Int32))] [] (97, I, J, R) _
        refine az_E.sn 2 (pc' := 2) (L' := [.int (J (61 + 1) v2.toNatClampNeg).toInt32, .int (0 : Int32), .int ((I 4 3) - (1 : Int32))]) (S' := [.int (0 : Int32), .int (J (61 + 1) v2.toNatClampNeg).toInt32]) (σ' := (97, I, J, R)) rfl ?_
        refine az_E.br (c := (J (61 + 1) v2.toNatClampNeg).toInt32 < (0 : Int32)) (tt := 14) (ff := 5) (L' := [.int (J (61 + 1) v2.toNatClampNeg).toInt32, .int (0 : Int32), .int ((I 4 3) - (1 : Int32))]) (S' := []) (σ' := (97, I, J, R)) rfl (fun hc_5 => ?_) (fun hc_5 => ?_)
        · rw [if_pos hc_5] at h
          refine az_E.sn 1 (pc' := 15) (L' := [.int (J (61 + 1) v2.toNatClampNeg).toInt32, .int (0 : Int32), .int ((I 4 3) - (1 : Int32))]) (S' := [.int (0 : Int32)]) (σ' := (97, I, J, R)) rfl ?_
          refine az_E.ret (v := some (.int (0 : Int32))) (σ' := (97, I, J, R)) rfl ?_
          show az_E az_F ex 5 151 50 [.ref 3, .ref 61, .int v2, .int (J (61 + 1) v2.toNatClampNeg).toInt32] [.int (0 : Int32)] (97, I, J, R) _
          refine az_E.br (c := (0 : Int32) = 0) (tt := 53) (ff := 57) (L' := [.ref 3, .ref 61, .int v2, .int (J (61 + 1) v2.toNatClampNeg).toInt32]) (S' := []) (σ' := (97, I, J, R)) rfl (fun _ => ?_) (fun hn => absurd (by decide) hn)
          obtain ⟨x, hx, rfl⟩ := Option.map_eq_some_iff.mp h
          exact az_E.forget (L := [.retAddr 0, .retAddr 0, .int v2, .retAddr 0]) ⟨trivial, trivial, rfl, trivial, trivial⟩ (re_X_firstWrongTwo_53_61_5 (I := I) (J := J) (R := R) hR_26_3 hx hQ)
        · rw [if_neg hc_5] at h
          refine az_E.sn 2 (pc' := 7) (L' := [.int (J (61 + 1) v2.toNatClampNeg).toInt32, .int (0 : Int32), .int ((I 4 3) - (1 : Int32))]) (S' := [.int ((I 4 3) - (1 : Int32)), .int (J (61 + 1) v2.toNatClampNeg).toInt32]) (σ' := (97, I, J, R)) rfl ?_
          refine az_E.br (c := ((I 4 3) - (1 : Int32)) < (J (61 + 1) v2.toNatClampNeg).toInt32) (tt := 14) (ff := 10) (L' := [.int (J (61 + 1) v2.toNatClampNeg).toInt32, .int (0 : Int32), .int ((I 4 3) - (1 : Int32))]) (S' := []) (σ' := (97, I, J, R)) rfl (fun hc_6 => ?_) (fun hc_6 => ?_)
          · rw [if_pos hc_6] at h
            refine az_E.sn 1 (pc' := 15) (L' := [.int (J (61 + 1) v2.toNatClampNeg).toInt32, .int (0 : Int32), .int ((I 4 3) - (1 : Int32))]) (S' := [.int (0 : Int32)]) (σ' := (97, I, J, R)) rfl ?_
            refine az_E.ret (v := some (.int (0 : Int32))) (σ' := (97, I, J, R)) rfl ?_
            show az_E az_F ex 5 151 50 [.ref 3, .ref 61, .int v2, .int (J (61 + 1) v2.toNatClampNeg).toInt32] [.int (0 : Int32)] (97, I, J, R) _
            refine az_E.br (c := (0 : Int32) = 0) (tt := 53) (ff := 57) (L' := [.ref 3, .ref 61, .int v2, .int (J (61 + 1) v2.toNatClampNeg).toInt32]) (S' := []) (σ' := (97, I, J, R)) rfl (fun _ => ?_) (fun hn => absurd (by decide) hn)
            obtain ⟨x, hx, rfl⟩ := Option.map_eq_some_iff.mp h
            exact az_E.forget (L := [.retAddr 0, .retAddr 0, .int v2, .retAddr 0]) ⟨trivial, trivial, rfl, trivial, trivial⟩ (re_X_firstWrongTwo_53_61_5 (I := I) (J := J) (R := R) hR_26_3 hx hQ)
          · rw [if_neg hc_6] at h
            refine az_E.sn 2 (pc' := 15) (L' := [.int (J (61 + 1) v2.toNatClampNeg).toInt32, .int (0 : Int32), .int ((I 4 3) - (1 : Int32))]) (S' := [.int (1 : Int32)]) (σ' := (97, I, J, R)) rfl ?_
            refine az_E.ret (v := some (.int (1 : Int32))) (σ' := (97, I, J, R)) rfl ?_
            show az_E az_F ex 5 151 50 [.ref 3, .ref 61, .int v2, .int (J (61 + 1) v2.toNatClampNeg).toInt32] [.int (1 : Int32)] (97, I, J, R) _
            refine az_E.br (c := (1 : Int32) = 0) (tt := 53) (ff := 57) (L' := [.ref 3, .ref 61, .int v2, .int (J (61 + 1) v2.toNatClampNeg).toInt32]) (S' := []) (σ' := (97, I, J, R)) rfl (fun hn => absurd hn (by decide)) (fun _ => ?_)
            refine az_E.sn 3 (pc' := 62) (L' := [.ref 3, .ref 61, .int v2, .int (J (61 + 1) v2.toNatClampNeg).toInt32]) (S' := [.int (J (61 + 1) v2.toNatClampNeg).toInt32, .ref 59]) (σ' := (97, I, J, R)) rfl ?_
            by_cases hc_7 : (J (61 + 1) v2.toNatClampNeg).toInt32 < 0 ∨ 8 ≤ (J (61 + 1) v2.toNatClampNeg).toInt32.toNatClampNeg
            · rw [if_pos hc_7] at h; cases h
            · rw [if_neg hc_7] at h
              refine az_E.oi (o := az_ai az_F ex (97, I, J, R) 59 (J (61 + 1) v2.toNatClampNeg).toInt32) (pc' := 63) (L' := [.ref 3, .ref 61, .int v2, .int (J (61 + 1) v2.toNatClampNeg).toInt32]) (S' := []) (σ' := (97, I, J, R)) (x := (I 59 (J (61 + 1) v2.toNatClampNeg).toInt32.toNatClampNeg)) rfl (if_neg hc_7) ?_
              refine az_E.br (c := 0 ≤ (I 59 (J (61 + 1) v2.toNatClampNeg).toInt32.toNatClampNeg)) (tt := 77) (ff := 66) (L' := [.ref 3, .ref 61, .int v2, .int (J (61 + 1) v2.toNatClampNeg).toInt32]) (S' := []) (σ' := (97, I, J, R)) rfl (fun hc_8 => ?_) (fun hc_8 => ?_)
              · rw [if_pos hc_8] at h
                exact az_E.forget (L := [.ref 3, .ref 61, .int v2, .int (J (61 + 1) v2.toNatClampNeg).toInt32]) ⟨rfl, rfl, rfl, rfl, trivial⟩ (re_X_firstWrongTwo_77_61_5 (I := I) (J := J) (R := R) hR_26_3 h hQ)
              · rw [if_neg hc_8] at h
                refine az_E.sn 5 (pc' := 73) (L' := [.ref 3, .ref 61, .int v2, .int (J (61 + 1) v2.toNatClampNeg).toInt32]) (S' := [.int (J (61 + 1) v2.toNatClampNeg).toInt32, .ref 3, .int (J (61 + 1) v2.toNatClampNeg).toInt32, .ref 59]) (σ' := (97, I, J, R)) rfl ?_
                cases hx_15 : rs_X_armAt I (J (61 + 1) v2.toNatClampNeg).toInt32 with
                | none => rw [hx_15] at h; cases h
                | some o =>
                  rw [hx_15] at h
                  obtain ⟨x_13, I_14⟩ := o
                  dsimp only at h
                  refine az_E.call (d := 4) (k' := 146) (vs := [.ref 3, .int (J (61 + 1) v2.toNatClampNeg).toInt32]) (pc' := 76) (S' := [.int (J (61 + 1) v2.toNatClampNeg).toInt32, .ref 59]) (Q1 := fun v s => v = some (.int x_13) ∧ s = (97, I_14, J, R)) rfl (az_E.deep (by omega) (re_X_armAt_5 (J := J) (R := R) hR_26_3 hx_15 ⟨rfl, rfl⟩)) (fun v s hq => ?_)
                  obtain ⟨rfl, rfl⟩ := hq
                  show az_E az_F ex 5 151 76 [.ref 3, .ref 61, .int v2, .int (J (61 + 1) v2.toNatClampNeg).toInt32] [.int x_13, .int (J (61 + 1) v2.toNatClampNeg).toInt32, .ref 59] (97, I_14, J, R) _
                  by_cases hc_16 : (J (61 + 1) v2.toNatClampNeg).toInt32 < 0 ∨ 8 ≤ (J (61 + 1) v2.toNatClampNeg).toInt32.toNatClampNeg
                  · rw [if_pos hc_16] at h; cases h
                  · rw [if_neg hc_16] at h
                    refine az_E.o (o := az_si az_F (97, I_14, J, R) 59 (J (61 + 1) v2.toNatClampNeg).toInt32 x_13) (pc' := 77) (L' := [.ref 3, .ref 61, .int v2, .int (J (61 + 1) v2.toNatClampNeg).toInt32]) (S' := []) (x := (97, (az_u I_14 59 (J (61 + 1) v2.toNatClampNeg).toInt32.toNatClampNeg x_13), J, R)) rfl (if_neg hc_16) ?_
                    exact az_E.forget (L := [.ref 3, .ref 61, .int v2, .int (J (61 + 1) v2.toNatClampNeg).toInt32]) ⟨rfl, rfl, rfl, rfl, trivial⟩ (re_X_firstWrongTwo_77_61_5 (I := (az_u I_14 59 (J (61 + 1) v2.toNatClampNeg).toInt32.toNatClampNeg x_13)) (J := J) (R := R) hR_26_3 h hQ)
set_option maxRecDepth 100000 in
set_option maxHeartbeats 4000000 in
theorem re_X_firstWrongTwo_10_61_5 {ex : az_X} {I : Nat → Nat → Int32} {J : Nat → Nat → Int64} {R : Nat → Nat → Option Nat} {v2 : Int32} (hR_26_3 : R 26 3 = some 5) {x : Int32 × (Nat → Nat → Int32)} (h : rs_X_firstWrongTwo_10 61 I J v2 = some x) {Q : Option Value → az_S → Prop} (hQ : Q (some (.int x.1)) (97, x.2, J, R)) : az_E az_F ex 5 151 10 [.ref 3, .ref 61, .int v2, .retAddr 0] [] (97, I, J, R) Q := by
  unfold rs_X_firstWrongTwo_10 at h
  refine az_lp_E (G := fun s => az_E az_F ex 5 151 10 [.ref 3, .ref 61, .int s.1, .retAddr 0] [] (97, s.2, J, R) Q) (H := fun x => Q (some (.int x.1)) (97, x.2, J, R)) (fun s o hb ho => ?_) _ _ _ h hQ
  exact re_X_firstWrongTwo_10_b_61_5 hR_26_3 hb ho
set_option maxRecDepth 100000 in
set_option maxHeartbeats 4000000 in
theorem re_X_firstWrongTwo_61_5 {ex : az_X} {I : Nat → Nat → Int32} {J : Nat → Nat → Int64} {R : Nat → Nat → Option Nat} (hR_26_3 : R 26 3 = some 5) {o : Int32 × (Nat → Nat → Int32)} (h : rs_X_firstWrongTwo 61 I J = some o) {Q : Option Value → az_S → Prop} (hQ : Q (some (.int o.1)) (97, o.2, J, R)) : az_E az_F ex 5 151 0 [.ref 3, .ref 61, .retAddr 0, .retAddr 0] [] (97, I, J, R) Q := by
  unfold rs_X_firstWrongTwo at h
  refine az_E.sn 3 (pc' := 5) (L' := [.ref 3, .ref 61, .retAddr 0, .retAddr 0]) (S' := [.int (-1 : Int32), .ref 59]) (σ' := (97, I, J, R)) rfl ?_
  refine az_E.call (d := 4) (k' := 257) (vs := [.ref 59, .int (-1 : Int32)]) (pc' := 8) (S' := []) (Q1 := fun v s => v = none ∧ s = (97, (az_ur I 59 (az_fill 8 (-1 : Int32) (I 59))), J, R)) rfl (az_E.deep (by omega) (re_fillI (r := 59) rfl ⟨rfl, rfl⟩)) (fun v s hq => ?_)
  obtain ⟨rfl, rfl⟩ := hq
  show az_E az_F ex 5 151 8 [.ref 3, .ref 61, .retAddr 0, .retAddr 0] [] (97, (az_ur I 59 (az_fill 8 (-1 : Int32) (I 59))), J, R) _
  refine az_E.sn 2 (pc' := 10) (L' := [.ref 3, .ref 61, .int (0 : Int32), .retAddr 0]) (S' := []) (σ' := (97, (az_ur I 59 (az_fill 8 (-1 : Int32) (I 59))), J, R)) rfl ?_
  exact az_E.forget (L := [.ref 3, .ref 61, .int (0 : Int32), .retAddr 0]) ⟨rfl, rfl, rfl, trivial, trivial⟩ (re_X_firstWrongTwo_10_61_5 (I := (az_ur I 59 (az_fill 8 (-1 : Int32) (I 59)))) (J := J) (R := R) hR_26_3 h hQ)
set_option maxRecDepth 100000 in
set_option maxHeartbeats 4000000 in
theorem re_X_firstWrongTwo_53_63_5 {ex : az_X} {I : Nat → Nat → Int32} {J : Nat → Nat → Int64} {R : Nat → Nat → Option Nat} {v2 : Int32} (hR_26_3 : R 26 3 = some 5) {x : Int32 × (Nat → Nat → Int32)} (h : rs_X_firstWrongTwo_53 63 I J v2 = some x) {Q : Option Value → az_S → Prop} (hQ : Q (some (.int x.1)) (97, x.2, J, R)) : az_E az_F ex 5 151 53 [.retAddr 0, .retAddr 0, .int v2, .retAddr 0] [] (97, I, J, R) Q := by
  unfold rs_X_firstWrongTwo_53 at h
  refine az_E.sn 2 (pc' := 55) (L' := [.retAddr 0, .retAddr 0, .int v2, .retAddr 0]) (S' := [.int (2 : Int32), .int v2]) (σ' := (97, I, J, R)) rfl ?_
  have hd_4 : ¬ ((2 : Int32) = 0) := by decide
  refine az_E.dv (c := (2 : Int32) = 0) (pc' := 56) (L' := [.retAddr 0, .retAddr 0, .int v2, .retAddr 0]) (S' := [.int (v2 / (2 : Int32))]) (σ' := (97, I, J, R)) rfl hd_4 ?_
  have h := Option.some.inj h
  subst h
  exact az_E.ret (v := some (.int (v2 / (2 : Int32)))) (σ' := (97, I, J, R)) rfl hQ
set_option maxRecDepth 100000 in
set_option maxHeartbeats 4000000 in
theorem re_X_firstWrongTwo_96_63_5 {ex : az_X} {I : Nat → Nat → Int32} {J : Nat → Nat → Int64} {R : Nat → Nat → Option Nat} {v2 : Int32} (hR_26_3 : R 26 3 = some 5) {x : Int32 × (Nat → Nat → Int32)} (h : rs_X_firstWrongTwo_96 63 I J v2 = some x) {Q : Option Value → az_S → Prop} (hQ : Q (some (.int x.1)) (97, x.2, J, R)) : az_E az_F ex 5 151 96 [.retAddr 0, .retAddr 0, .int v2, .retAddr 0] [] (97, I, J, R) Q := by
  unfold rs_X_firstWrongTwo_96 at h
  refine az_E.sn 2 (pc' := 98) (L' := [.retAddr 0, .retAddr 0, .int v2, .retAddr 0]) (S' := [.int (2 : Int32), .int v2]) (σ' := (97, I, J, R)) rfl ?_
  have hd_12 : ¬ ((2 : Int32) = 0) := by decide
  refine az_E.dv (c := (2 : Int32) = 0) (pc' := 99) (L' := [.retAddr 0, .retAddr 0, .int v2, .retAddr 0]) (S' := [.int (v2 / (2 : Int32))]) (σ' := (97, I, J, R)) rfl hd_12 ?_
  have h := Option.some.inj h
  subst h
  exact az_E.ret (v := some (.int (v2 / (2 : Int32)))) (σ' := (97, I, J, R)) rfl hQ
set_option maxRecDepth 100000 in
set_option maxHeartbeats 4000000 in
theorem re_X_firstWrongTwo_77_63_5 {ex : az_X} {I : Nat → Nat → Int32} {J : Nat → Nat → Int64} {R : Nat → Nat → Option Nat} {v2 : Int32} {v3 : Int32} (hR_26_3 : R 26 3 = some 5) {x : ((Int32 × (Nat → Nat → Int32)) ⊕ (Int32 × (Nat → Nat → Int32)))} (h : rs_X_firstWrongTwo_77 63 I J v2 v3 = some x) {Q : Option Value → az_S → Prop} (hQ : Sum.elim (fun s => az_E az_F ex 5 151 10 [.ref 3, .ref 63, .int s.1, .retAddr 0] [] (97, s.2, J, R) Q) (fun x => Q (some (.int x.1)) (97, x.2, J, R)) x) : az_E az_F ex 5 151 77 [.ref 3, .ref 63, .int v2, .int v3] [] (97, I, J, R) Q := by
  unfold rs_X_firstWrongTwo_77 at h
  refine az_E.sn 3 (pc' := 82) (L' := [.ref 3, .ref 63, .int v2, .int v3]) (S' := [.int v3, .ref 59]) (σ' := (97, I, J, R)) rfl ?_
  by_cases hc_9 : v3 < 0 ∨ 8 ≤ v3.toNatClampNeg
  · rw [if_pos hc_9] at h; cases h
  · rw [if_neg hc_9] at h
    refine az_E.oi (o := az_ai az_F ex (97, I, J, R) 59 v3) (pc' := 83) (L' := [.ref 3, .ref 63, .int v2, .int v3]) (S' := []) (σ' := (97, I, J, R)) (x := (I 59 v3.toNatClampNeg)) rfl (if_neg hc_9) ?_
    refine az_E.sn 6 (pc' := 91) (L' := [.ref 3, .ref 63, .int v2, .int v3]) (S' := [.int (v2 + (1 : Int32)), .ref (63 + 1), .long (I 59 v3.toNatClampNeg).toInt64]) (σ' := (97, I, J, R)) rfl ?_
    by_cases hc_10 : (v2 + (1 : Int32)) < 0 ∨ 60 ≤ (v2 + (1 : Int32)).toNatClampNeg
    · rw [if_pos hc_10] at h; cases h
    · rw [if_neg hc_10] at h
      refine az_E.ol (o := az_al az_F (97, I, J, R) (63 + 1) (v2 + (1 : Int32))) (pc' := 92) (L' := [.ref 3, .ref 63, .int v2, .int v3]) (S' := [.long (I 59 v3.toNatClampNeg).toInt64]) (σ' := (97, I, J, R)) (x := (J (63 + 1) (v2 + (1 : Int32)).toNatClampNeg)) rfl (if_neg hc_10) ?_
      refine az_E.sn 1 (pc' := 93) (L' := [.ref 3, .ref 63, .int v2, .int v3]) (S' := [.int (lg_cmp (I 59 v3.toNatClampNeg).toInt64 (J (63 + 1) (v2 + (1 : Int32)).toNatClampNeg))]) (σ' := (97, I, J, R)) rfl ?_
      refine az_E.br (c := (lg_cmp (I 59 v3.toNatClampNeg).toInt64 (J (63 + 1) (v2 + (1 : Int32)).toNatClampNeg)) = 0) (tt := 100) (ff := 96) (L' := [.ref 3, .ref 63, .int v2, .int v3]) (S' := []) (σ' := (97, I, J, R)) rfl (fun hc_11 => ?_) (fun hc_11 => ?_)
      · rw [if_pos hc_11] at h
        refine az_E.sn 2 (pc' := 10) (L' := [.ref 3, .ref 63, .int (v2 + (2 : Int32)), .int v3]) (S' := []) (σ' := (97, I, J, R)) rfl ?_
        have h := Option.some.inj h
        subst h
        exact az_E.forget (L := [.ref 3, .ref 63, .int (v2 + (2 : Int32)), .retAddr 0]) ⟨rfl, rfl, rfl, trivial, trivial⟩ hQ
      · rw [if_neg hc_11] at h
        obtain ⟨x, hx, rfl⟩ := Option.map_eq_some_iff.mp h
        exact az_E.forget (L := [.retAddr 0, .retAddr 0, .int v2, .retAddr 0]) ⟨trivial, trivial, rfl, trivial, trivial⟩ (re_X_firstWrongTwo_96_63_5 (I := I) (J := J) (R := R) hR_26_3 hx hQ)
set_option maxRecDepth 100000 in
set_option maxHeartbeats 4000000 in
theorem re_X_firstWrongTwo_10_b_63_5 {ex : az_X} {I : Nat → Nat → Int32} {J : Nat → Nat → Int64} {R : Nat → Nat → Option Nat} {v2 : Int32} (hR_26_3 : R 26 3 = some 5) {x : ((Int32 × (Nat → Nat → Int32)) ⊕ (Int32 × (Nat → Nat → Int32)))} (h : rs_X_firstWrongTwo_10_b 63 J v2 I = some x) {Q : Option Value → az_S → Prop} (hQ : Sum.elim (fun s => az_E az_F ex 5 151 10 [.ref 3, .ref 63, .int s.1, .retAddr 0] [] (97, s.2, J, R) Q) (fun x => Q (some (.int x.1)) (97, x.2, J, R)) x) : az_E az_F ex 5 151 10 [.ref 3, .ref 63, .int v2, .retAddr 0] [] (97, I, J, R) Q := by
  unfold rs_X_firstWrongTwo_10_b at h
  refine az_E.sn 3 (pc' := 15) (L' := [.ref 3, .ref 63, .int v2, .retAddr 0]) (S' := [.int (I 63 2), .int v2]) (σ' := (97, I, J, R)) rfl ?_
  refine az_E.br (c := (I 63 2) ≤ v2) (tt := 106) (ff := 18) (L' := [.ref 3, .ref 63, .int v2, .retAddr 0]) (S' := []) (σ' := (97, I, J, R)) rfl (fun hc_1 => ?_) (fun hc_1 => ?_)
  · rw [if_pos hc_1] at h
    refine az_E.sn 1 (pc' := 108) (L' := [.ref 3, .ref 63, .int v2, .retAddr 0]) (S' := [.int (-2 : Int32)]) (σ' := (97, I, J, R)) rfl ?_
    have h := Option.some.inj h
    subst h
    exact az_E.ret (v := some (.int (-2 : Int32))) (σ' := (97, I, J, R)) rfl hQ
  · rw [if_neg hc_1] at h
    refine az_E.sn 3 (pc' := 23) (L' := [.ref 3, .ref 63, .int v2, .retAddr 0]) (S' := [.int v2, .ref (63 + 1)]) (σ' := (97, I, J, R)) rfl ?_
    by_cases hc_2 : v2 < 0 ∨ 60 ≤ v2.toNatClampNeg
    · rw [if_pos hc_2] at h; cases h
    · rw [if_neg hc_2] at h
      refine az_E.ol (o := az_al az_F (97, I, J, R) (63 + 1) v2) (pc' := 24) (L' := [.ref 3, .ref 63, .int v2, .retAddr 0]) (S' := []) (σ' := (97, I, J, R)) (x := (J (63 + 1) v2.toNatClampNeg)) rfl (if_neg hc_2) ?_
      refine az_E.sn 7 (pc' := 33) (L' := [.ref 3, .ref 63, .int v2, .int (J (63 + 1) v2.toNatClampNeg).toInt32]) (S' := [.int (I 63 2), .int (v2 + (1 : Int32))]) (σ' := (97, I, J, R)) rfl ?_
      refine az_E.br (c := (I 63 2) ≤ (v2 + (1 : Int32))) (tt := 53) (ff := 36) (L' := [.ref 3, .ref 63, .int v2, .int (J (63 + 1) v2.toNatClampNeg).toInt32]) (S' := []) (σ' := (97, I, J, R)) rfl (fun hc_3 => ?_) (fun hc_3 => ?_)
      · rw [if_pos hc_3] at h
        obtain ⟨x, hx, rfl⟩ := Option.map_eq_some_iff.mp h
        exact az_E.forget (L := [.retAddr 0, .retAddr 0, .int v2, .retAddr 0]) ⟨trivial, trivial, rfl, trivial, trivial⟩ (re_X_firstWrongTwo_53_63_5 (I := I) (J := J) (R := R) hR_26_3 hx hQ)
      · rw [if_neg hc_3] at h
        refine az_E.sn 7 (pc' := 47) (L' := [.ref 3, .ref 63, .int v2, .int (J (63 + 1) v2.toNatClampNeg).toInt32]) (S' := [.int ((I 4 3) - (1 : Int32)), .int (0 : Int32), .int (J (63 + 1) v2.toNatClampNeg).toInt32]) (σ' := (97, I, J, R)) rfl ?_
        refine az_E.call (d := 4) (k' := 131) (vs := [.int (J (63 + 1) v2.toNatClampNeg).toInt32, .int (0 : Int32), .int ((I 4 3) - (1 : Int32))]) (pc' := 50) (S' := []) rfl ?_ (fun _ _ hq => hq)
        show az_E az_F ex 4 131 0 [.int (J (63 + 1) v2.toNatClampNeg).toInt32, .int (0 : Int32), .int ((I 4 3) - (1 : Int32))] [] (97, I, J, R) _
        refine az_E.sn 2 (pc' := 2) (L' := [.int (J (63 + 1) v2.toNatClampNeg).toInt32, .int (0 : Int32), .int ((I 4 3) - (1 : Int32))]) (S' := [.int (0 : Int32), .int (J (63 + 1) v2.toNatClampNeg).toInt32]) (σ' := (97, I, J, R)) rfl ?_
        refine az_E.br (c := (J (63 + 1) v2.toNatClampNeg).toInt32 < (0 : Int32)) (tt := 14) (ff := 5) (L' := [.int (J (63 + 1) v2.toNatClampNeg).toInt32, .int (0 : Int32), .int ((I 4 3) - (1 : Int32))]) (S' := []) (σ' := (97, I, J, R)) rfl (fun hc_5 => ?_) (fun hc_5 => ?_)
        · rw [if_pos hc_5] at h
          refine az_E.sn 1 (pc' := 15) (L' := [.int (J (63 + 1) v2.toNatClampNeg).toInt32, .int (0 : Int32), .int ((I 4 3) - (1 : Int32))]) (S' := [.int (0 : Int32)]) (σ' := (97, I, J, R)) rfl ?_
          refine az_E.ret (v := some (.int (0 : Int32))) (σ' := (97, I, J, R)) rfl ?_
          show az_E az_F ex 5 151 50 [.ref 3, .ref 63, .int v2, .int (J (63 + 1) v2.toNatClampNeg).toInt32] [.int (0 : Int32)] (97, I, J, R) _
          refine az_E.br (c := (0 : Int32) = 0) (tt := 53) (ff := 57) (L' := [.ref 3, .ref 63, .int v2, .int (J (63 + 1) v2.toNatClampNeg).toInt32]) (S' := []) (σ' := (97, I, J, R)) rfl (fun _ => ?_) (fun hn => absurd (by decide) hn)
          obtain ⟨x, hx, rfl⟩ := Option.map_eq_some_iff.mp h
          exact az_E.forget (L := [.retAddr 0, .retAddr 0, .int v2, .retAddr 0]) ⟨trivial, trivial, rfl, trivial, trivial⟩ (re_X_firstWrongTwo_53_63_5 (I := I) (J := J) (R := R) hR_26_3 hx hQ)
        · rw [if_neg hc_5] at h
          refine az_E.sn 2 (pc' := 7) (L' := [.int (J (63 + 1) v2.toNatClampNeg).toInt32, .int (0 : Int32), .int ((I 4 3) - (1 : Int32))]) (S' := [.int ((I 4 3) - (1 : Int32)), .int (J (63 + 1) v2.toNatClampNeg).toInt32]) (σ' := (97, I, J, R)) rfl ?_
          refine az_E.br (c := ((I 4 3) - (1 : Int32)) < (J (63 + 1) v2.toNatClampNeg).toInt32) (tt := 14) (ff := 10) (L' := [.int (J (63 + 1) v2.toNatClampNeg).toInt32, .int (0 : Int32), .int ((I 4 3) - (1 : Int32))]) (S' := []) (σ' := (97, I, J, R)) rfl (fun hc_6 => ?_) (fun hc_6 => ?_)
          · rw [if_pos hc_6] at h
            refine az_E.sn 1 (pc' := 15) (L' := [.int (J (63 + 1) v2.toNatClampNeg).toInt32, .int (0 : Int32), .int ((I 4 3) - (1 : Int32))]) (S' := [.int (0 : Int32)]) (σ' := (97, I, J, R)) rfl ?_
            refine az_E.ret (v := some (.int (0 : Int32))) (σ' := (97, I, J, R)) rfl ?_
            show az_E az_F ex 5 151 50 [.ref 3, .ref 63, .int v2, .int (J (63 + 1) v2.toNatClampNeg).toInt32] [.int (0 : Int32)] (97, I, J, R) _
            refine az_E.br (c := (0 : Int32) = 0) (tt := 53) (ff := 57) (L' := [.ref 3, .ref 63, .int v2, .int (J (63 + 1) v2.toNatClampNeg).toInt32]) (S' := []) (σ' := (97, I, J, R)) rfl (fun _ => ?_) (fun hn => absurd (by decide) hn)
            obtain ⟨x, hx, rfl⟩ := Option.map_eq_some_iff.mp h
            exact az_E.forget (L := [.retAddr 0, .retAddr 0, .int v2, .retAddr 0]) ⟨trivial, trivial, rfl, trivial, trivial⟩ (re_X_firstWrongTwo_53_63_5 (I := I) (J := J) (R := R) hR_26_3 hx hQ)
          · rw [if_neg hc_6] at h
            refine az_E.sn 2 (pc' := 15) (L' := [.int (J (63 + 1) v2.toNatClampNeg).toInt32, .int (0 : Int32), .int ((I 4 3) - (1 : Int32))]) (S' := [.int (1 : Int32)]) (σ' := (97, I, J, R)) rfl ?_
            refine az_E.ret (v := some (.int (1 : Int32))) (σ' := (97, I, J, R)) rfl ?_
            show az_E az_F ex 5 151 50 [.ref 3, .ref 63, .int v2, .int (J (63 + 1) v2.toNatClampNeg).toInt32] [.int (1 : Int32)] (97, I, J, R) _
            refine az_E.br (c := (1 : Int32) = 0) (tt := 53) (ff := 57) (L' := [.ref 3, .ref 63, .int v2, .int (J (63 + 1) v2.toNatClampNeg).toInt32]) (S' := []) (σ' := (97, I, J, R)) rfl (fun hn => absurd hn (by decide)) (fun _ => ?_)
            refine az_E.sn 3 (pc' := 62) (L' := [.ref 3, .ref 63, .int v2, .int (J (63 + 1) v2.toNatClampNeg).toInt32]) (S' := [.int (J (63 + 1) v2.toNatClampNeg).toInt32, .ref 59]) (σ' := (97, I, J, R)) rfl ?_
            by_cases hc_7 : (J (63 + 1) v2.toNatClampNeg).toInt32 < 0 ∨ 8 ≤ (J (63 + 1) v2.toNatClampNeg).toInt32.toNatClampNeg
            · rw [if_pos hc_7] at h; cases h
            · rw [if_neg hc_7] at h
              refine az_E.oi (o := az_ai az_F ex (97, I, J, R) 59 (J (63 + 1) v2.toNatClampNeg).toInt32) (pc' := 63) (L' := [.ref 3, .ref 63, .int v2, .int (J (63 + 1) v2.toNatClampNeg).toInt32]) (S' := []) (σ' := (97, I, J, R)) (x := (I 59 (J (63 + 1) v2.toNatClampNeg).toInt32.toNatClampNeg)) rfl (if_neg hc_7) ?_
              refine az_E.br (c := 0 ≤ (I 59 (J (63 + 1) v2.toNatClampNeg).toInt32.toNatClampNeg)) (tt := 77) (ff := 66) (L' := [.ref 3, .ref 63, .int v2, .int (J (63 + 1) v2.toNatClampNeg).toInt32]) (S' := []) (σ' := (97, I, J, R)) rfl (fun hc_8 => ?_) (fun hc_8 => ?_)
              · rw [if_pos hc_8] at h
                exact az_E.forget (L := [.ref 3, .ref 63, .int v2, .int (J (63 + 1) v2.toNatClampNeg).toInt32]) ⟨rfl, rfl, rfl, rfl, trivial⟩ (re_X_firstWrongTwo_77_63_5 (I := I) (J := J) (R := R) hR_26_3 h hQ)
              · rw [if_neg hc_8] at h
                refine az_E.sn 5 (pc' := 73) (L' := [.ref 3, .ref 63, .int v2, .int (J (63 + 1) v2.toNatClampNeg).toInt32]) (S' := [.int (J (63 + 1) v2.toNatClampNeg).toInt32, .ref 3, .int (J (63 + 1) v2.toNatClampNeg).toInt32, .ref 59]) (σ' := (97, I, J, R)) rfl ?_
                cases hx_15 : rs_X_armAt I (J (63 + 1) v2.toNatClampNeg).toInt32 with
                | none => rw [hx_15] at h; cases h
                | some o =>
                  rw [hx_15] at h
                  obtain ⟨x_13, I_14⟩ := o
                  dsimp only at h
                  refine az_E.call (d := 4) (k' := 146) (vs := [.ref 3, .int (J (63 + 1) v2.toNatClampNeg).toInt32]) (pc' := 76) (S' := [.int (J (63 + 1) v2.toNatClampNeg).toInt32, .ref 59]) (Q1 := fun v s => v = some (.int x_13) ∧ s = (97, I_14, J, R)) rfl (az_E.deep (by omega) (re_X_armAt_5 (J := J) (R := R) hR_26_3 hx_15 ⟨rfl, rfl⟩)) (fun v s hq => ?_)
                  obtain ⟨rfl, rfl⟩ := hq
                  show az_E az_F ex 5 151 76 [.ref 3, .ref 63, .int v2, .int (J (63 + 1) v2.toNatClampNeg).toInt32] [.int x_13, .int (J (63 + 1) v2.toNatClampNeg).toInt32, .ref 59] (97, I_14, J, R) _
                  by_cases hc_16 : (J (63 + 1) v2.toNatClampNeg).toInt32 < 0 ∨ 8 ≤ (J (63 + 1) v2.toNatClampNeg).toInt32.toNatClampNeg
                  · rw [if_pos hc_16] at h; cases h
                  · rw [if_neg hc_16] at h
                    refine az_E.o (o := az_si az_F (97, I_14, J, R) 59 (J (63 + 1) v2.toNatClampNeg).toInt32 x_13) (pc' := 77) (L' := [.ref 3, .ref 63, .int v2, .int (J (63 + 1) v2.toNatClampNeg).toInt32]) (S' := []) (x := (97, (az_u I_14 59 (J (63 + 1) v2.toNatClampNeg).toInt32.toNatClampNeg x_13), J, R)) rfl (if_neg hc_16) ?_
                    exact az_E.forget (L := [.ref 3, .ref 63, .int v2, .int (J (63 + 1) v2.toNatClampNeg).toInt32]) ⟨rfl, rfl, rfl, rfl, trivial⟩ (re_X_firstWrongTwo_77_63_5 (I := (az_u I_14 59 (J (63 + 1) v2.toNatClampNeg).toInt32.toNatClampNeg x_13)) (J := J) (R := R) hR_26_3 h hQ)
set_option maxRecDepth 100000 in
set_option maxHeartbeats 4000000 in
theorem re_X_firstWrongTwo_10_63_5 {ex : az_X} {I : Nat → Nat → Int32} {J : Nat → Nat → Int64} {R : Nat → Nat → Option Nat} {v2 : Int32} (hR_26_3 : R 26 3 = some 5) {x : Int32 × (Nat → Nat → Int32)} (h : rs_X_firstWrongTwo_10 63 I J v2 = some x) {Q : Option Value → az_S → Prop} (hQ : Q (some (.int x.1)) (97, x.2, J, R)) : az_E az_F ex 5 151 10 [.ref 3, .ref 63, .int v2, .retAddr 0] [] (97, I, J, R) Q := by
  unfold rs_X_firstWrongTwo_10 at h
  refine az_lp_E (G := fun s => az_E az_F ex 5 151 10 [.ref 3, .ref 63, .int s.1, .retAddr 0] [] (97, s.2, J, R) Q) (H := fun x => Q (some (.int x.1)) (97, x.2, J, R)) (fun s o hb ho => ?_) _ _ _ h hQ
  exact re_X_firstWrongTwo_10_b_63_5 hR_26_3 hb ho
set_option maxRecDepth 100000 in
set_option maxHeartbeats 4000000 in
theorem re_X_firstWrongTwo_63_5 {ex : az_X} {I : Nat → Nat → Int32} {J : Nat → Nat → Int64} {R : Nat → Nat → Option Nat} (hR_26_3 : R 26 3 = some 5) {o : Int32 × (Nat → Nat → Int32)} (h : rs_X_firstWrongTwo 63 I J = some o) {Q : Option Value → az_S → Prop} (hQ : Q (some (.int o.1)) (97, o.2, J, R)) : az_E az_F ex 5 151 0 [.ref 3, .ref 63, .retAddr 0, .retAddr 0] [] (97, I, J, R) Q := by
  unfold rs_X_firstWrongTwo at h
  refine az_E.sn 3 (pc' := 5) (L' := [.ref 3, .ref 63, .retAddr 0, .retAddr 0]) (S' := [.int (-1 : Int32), .ref 59]) (σ' := (97, I, J, R)) rfl ?_
  refine az_E.call (d := 4) (k' := 257) (vs := [.ref 59, .int (-1 : Int32)]) (pc' := 8) (S' := []) (Q1 := fun v s => v = none ∧ s = (97, (az_ur I 59 (az_fill 8 (-1 : Int32) (I 59))), J, R)) rfl (az_E.deep (by omega) (re_fillI (r := 59) rfl ⟨rfl, rfl⟩)) (fun v s hq => ?_)
  obtain ⟨rfl, rfl⟩ := hq
  show az_E az_F ex 5 151 8 [.ref 3, .ref 63, .retAddr 0, .retAddr 0] [] (97, (az_ur I 59 (az_fill 8 (-1 : Int32) (I 59))), J, R) _
  refine az_E.sn 2 (pc' := 10) (L' := [.ref 3, .ref 63, .int (0 : Int32), .retAddr 0]) (S' := []) (σ' := (97, (az_ur I 59 (az_fill 8 (-1 : Int32) (I 59))), J, R)) rfl ?_
  exact az_E.forget (L := [.ref 3, .ref 63, .int (0 : Int32), .retAddr 0]) ⟨rfl, rfl, rfl, trivial, trivial⟩ (re_X_firstWrongTwo_10_63_5 (I := (az_ur I 59 (az_fill 8 (-1 : Int32) (I 59)))) (J := J) (R := R) hR_26_3 h hQ)
set_option maxRecDepth 100000 in
set_option maxHeartbeats 4000000 in
theorem re_X_firstWrongTwo_53_65_5 {ex : az_X} {I : Nat → Nat → Int32} {J : Nat → Nat → Int64} {R : Nat → Nat → Option Nat} {v2 : Int32} (hR_26_3 : R 26 3 = some 5) {x : Int32 × (Nat → Nat → Int32)} (h : rs_X_firstWrongTwo_53 65 I J v2 = some x) {Q : Option Value → az_S → Prop} (hQ : Q (some (.int x.1)) (97, x.2, J, R)) : az_E az_F ex 5 151 53 [.retAddr 0, .retAddr 0, .int v2, .retAddr 0] [] (97, I, J, R) Q := by
  unfold rs_X_firstWrongTwo_53 at h
  refine az_E.sn 2 (pc' := 55) (L' := [.retAddr 0, .retAddr 0, .int v2, .retAddr 0]) (S' := [.int (2 : Int32), .int v2]) (σ' := (97, I, J, R)) rfl ?_
  have hd_4 : ¬ ((2 : Int32) = 0) := by decide
  refine az_E.dv (c := (2 : Int32) = 0) (pc' := 56) (L' := [.retAddr 0, .retAddr 0, .int v2, .retAddr 0]) (S' := [.int (v2 / (2 : Int32))]) (σ' := (97, I, J, R)) rfl hd_4 ?_
  have h := Option.some.inj h
  subst h
  exact az_E.ret (v := some (.int (v2 / (2 : Int32)))) (σ' := (97, I, J, R)) rfl hQ
set_option maxRecDepth 100000 in
set_option maxHeartbeats 4000000 in
theorem re_X_firstWrongTwo_96_65_5 {ex : az_X} {I : Nat → Nat → Int32} {J : Nat → Nat → Int64} {R : Nat → Nat → Option Nat} {v2 : Int32} (hR_26_3 : R 26 3 = some 5) {x : Int32 × (Nat → Nat → Int32)} (h : rs_X_firstWrongTwo_96 65 I J v2 = some x) {Q : Option Value → az_S → Prop} (hQ : Q (some (.int x.1)) (97, x.2, J, R)) : az_E az_F ex 5 151 96 [.retAddr 0, .retAddr 0, .int v2, .retAddr 0] [] (97, I, J, R) Q := by
  unfold rs_X_firstWrongTwo_96 at h
  refine az_E.sn 2 (pc' := 98) (L' := [.retAddr 0, .retAddr 0, .int v2, .retAddr 0]) (S' := [.int (2 : Int32), .int v2]) (σ' := (97, I, J, R)) rfl ?_
  have hd_12 : ¬ ((2 : Int32) = 0) := by decide
  refine az_E.dv (c := (2 : Int32) = 0) (pc' := 99) (L' := [.retAddr 0, .retAddr 0, .int v2, .retAddr 0]) (S' := [.int (v2 / (2 : Int32))]) (σ' := (97, I, J, R)) rfl hd_12 ?_
  have h := Option.some.inj h
  subst h
  exact az_E.ret (v := some (.int (v2 / (2 : Int32)))) (σ' := (97, I, J, R)) rfl hQ
set_option maxRecDepth 100000 in
set_option maxHeartbeats 4000000 in
theorem re_X_firstWrongTwo_77_65_5 {ex : az_X} {I : Nat → Nat → Int32} {J : Nat → Nat → Int64} {R : Nat → Nat → Option Nat} {v2 : Int32} {v3 : Int32} (hR_26_3 : R 26 3 = some 5) {x : ((Int32 × (Nat → Nat → Int32)) ⊕ (Int32 × (Nat → Nat → Int32)))} (h : rs_X_firstWrongTwo_77 65 I J v2 v3 = some x) {Q : Option Value → az_S → Prop} (hQ : Sum.elim (fun s => az_E az_F ex 5 151 10 [.ref 3, .ref 65, .int s.1, .retAddr 0] [] (97, s.2, J, R) Q) (fun x => Q (some (.int x.1)) (97, x.2, J, R)) x) : az_E az_F ex 5 151 77 [.ref 3, .ref 65, .int v2, .int v3] [] (97, I, J, R) Q := by
  unfold rs_X_firstWrongTwo_77 at h
  refine az_E.sn 3 (pc' := 82) (L' := [.ref 3, .ref 65, .int v2, .int v3]) (S' := [.int v3, .ref 59]) (σ' := (97, I, J, R)) rfl ?_
  by_cases hc_9 : v3 < 0 ∨ 8 ≤ v3.toNatClampNeg
  · rw [if_pos hc_9] at h; cases h
  · rw [if_neg hc_9] at h
    refine az_E.oi (o := az_ai az_F ex (97, I, J, R) 59 v3) (pc' := 83) (L' := [.ref 3, .ref 65, .int v2, .int v3]) (S' := []) (σ' := (97, I, J, R)) (x := (I 59 v3.toNatClampNeg)) rfl (if_neg hc_9) ?_
    refine az_E.sn 6 (pc' := 91) (L' := [.ref 3, .ref 65, .int v2, .int v3]) (S' := [.int (v2 + (1 : Int32)), .ref (65 + 1), .long (I 59 v3.toNatClampNeg).toInt64]) (σ' := (97, I, J, R)) rfl ?_
    by_cases hc_10 : (v2 + (1 : Int32)) < 0 ∨ 60 ≤ (v2 + (1 : Int32)).toNatClampNeg
    · rw [if_pos hc_10] at h; cases h
    · rw [if_neg hc_10] at h
      refine az_E.ol (o := az_al az_F (97, I, J, R) (65 + 1) (v2 + (1 : Int32))) (pc' := 92) (L' := [.ref 3, .ref 65, .int v2, .int v3]) (S' := [.long (I 59 v3.toNatClampNeg).toInt64]) (σ' := (97, I, J, R)) (x := (J (65 + 1) (v2 + (1 : Int32)).toNatClampNeg)) rfl (if_neg hc_10) ?_
      refine az_E.sn 1 (pc' := 93) (L' := [.ref 3, .ref 65, .int v2, .int v3]) (S' := [.int (lg_cmp (I 59 v3.toNatClampNeg).toInt64 (J (65 + 1) (v2 + (1 : Int32)).toNatClampNeg))]) (σ' := (97, I, J, R)) rfl ?_
      refine az_E.br (c := (lg_cmp (I 59 v3.toNatClampNeg).toInt64 (J (65 + 1) (v2 + (1 : Int32)).toNatClampNeg)) = 0) (tt := 100) (ff := 96) (L' := [.ref 3, .ref 65, .int v2, .int v3]) (S' := []) (σ' := (97, I, J, R)) rfl (fun hc_11 => ?_) (fun hc_11 => ?_)
      · rw [if_pos hc_11] at h
        refine az_E.sn 2 (pc' := 10) (L' := [.ref 3, .ref 65, .int (v2 + (2 : Int32)), .int v3]) (S' := []) (σ' := (97, I, J, R)) rfl ?_
        have h := Option.some.inj h
        subst h
        exact az_E.forget (L := [.ref 3, .ref 65, .int (v2 + (2 : Int32)), .retAddr 0]) ⟨rfl, rfl, rfl, trivial, trivial⟩ hQ
      · rw [if_neg hc_11] at h
        obtain ⟨x, hx, rfl⟩ := Option.map_eq_some_iff.mp h
        exact az_E.forget (L := [.retAddr 0, .retAddr 0, .int v2, .retAddr 0]) ⟨trivial, trivial, rfl, trivial, trivial⟩ (re_X_firstWrongTwo_96_65_5 (I := I) (J := J) (R := R) hR_26_3 hx hQ)
set_option maxRecDepth 100000 in
set_option maxHeartbeats 4000000 in
theorem re_X_firstWrongTwo_10_b_65_5 {ex : az_X} {I : Nat → Nat → Int32} {J : Nat → Nat → Int64} {R : Nat → Nat → Option Nat} {v2 : Int32} (hR_26_3 : R 26 3 = some 5) {x : ((Int32 × (Nat → Nat → Int32)) ⊕ (Int32 × (Nat → Nat → Int32)))} (h : rs_X_firstWrongTwo_10_b 65 J v2 I = some x) {Q : Option Value → az_S → Prop} (hQ : Sum.elim (fun s => az_E az_F ex 5 151 10 [.ref 3, .ref 65, .int s.1, .retAddr 0] [] (97, s.2, J, R) Q) (fun x => Q (some (.int x.1)) (97, x.2, J, R)) x) : az_E az_F ex 5 151 10 [.ref 3, .ref 65, .int v2, .retAddr 0] [] (97, I, J, R) Q := by
  unfold rs_X_firstWrongTwo_10_b at h
  refine az_E.sn 3 (pc' := 15) (L' := [.ref 3, .ref 65, .int v2, .retAddr 0]) (S' := [.int (I 65 2), .int v2]) (σ' := (97, I, J, R)) rfl ?_
  refine az_E.br (c := (I 65 2) ≤ v2) (tt := 106) (ff := 18) (L' := [.ref 3, .ref 65, .int v2, .retAddr 0]) (S' := []) (σ' := (97, I, J, R)) rfl (fun hc_1 => ?_) (fun hc_1 => ?_)
  · rw [if_pos hc_1] at h
    refine az_E.sn 1 (pc' := 108) (L' := [.ref 3, .ref 65, .int v2, .retAddr 0]) (S' := [.int (-2 : Int32)]) (σ' := (97, I, J, R)) rfl ?_
    have h := Option.some.inj h
    subst h
    exact az_E.ret (v := some (.int (-2 : Int32))) (σ' := (97, I, J, R)) rfl hQ
  · rw [if_neg hc_1] at h
    refine az_E.sn 3 (pc' := 23) (L' := [.ref 3, .ref 65, .int v2, .retAddr 0]) (S' := [.int v2, .ref (65 + 1)]) (σ' := (97, I, J, R)) rfl ?_
    by_cases hc_2 : v2 < 0 ∨ 60 ≤ v2.toNatClampNeg
    · rw [if_pos hc_2] at h; cases h
    · rw [if_neg hc_2] at h
      refine az_E.ol (o := az_al az_F (97, I, J, R) (65 + 1) v2) (pc' := 24) (L' := [.ref 3, .ref 65, .int v2, .retAddr 0]) (S' := []) (σ' := (97, I, J, R)) (x := (J (65 + 1) v2.toNatClampNeg)) rfl (if_neg hc_2) ?_
      refine az_E.sn 7 (pc' := 33) (L' := [.ref 3, .ref 65, .int v2, .int (J (65 + 1) v2.toNatClampNeg).toInt32]) (S' := [.int (I 65 2), .int (v2 + (1 : Int32))]) (σ' := (97, I, J, R)) rfl ?_
      refine az_E.br (c := (I 65 2) ≤ (v2 + (1 : Int32))) (tt := 53) (ff := 36) (L' := [.ref 3, .ref 65, .int v2, .int (J (65 + 1) v2.toNatClampNeg).toInt32]) (S' := []) (σ' := (97, I, J, R)) rfl (fun hc_3 => ?_) (fun hc_3 => ?_)
      · rw [if_pos hc_3] at h
        obtain ⟨x, hx, rfl⟩ := Option.map_eq_some_iff.mp h
        exact az_E.forget (L := [.retAddr 0, .retAddr 0, .int v2, .retAddr 0]) ⟨trivial, trivial, rfl, trivial, trivial⟩ (re_X_firstWrongTwo_53_65_5 (I := I) (J := J) (R := R) hR_26_3 hx hQ)
      · rw [if_neg hc_3] at h
        refine az_E.sn 7 (pc' := 47) (L' := [.ref 3, .ref 65, .int v2, .int (J (65 + 1) v2.toNatClampNeg).toInt32]) (S' := [.int ((I 4 3) - (1 : Int32)), .int (0 : Int32), .int (J (65 + 1) v2.toNatClampNeg).toInt32]) (σ' := (97, I, J, R)) rfl ?_
        refine az_E.call (d := 4) (k' := 131) (vs := [.int (J (65 + 1) v2.toNatClampNeg).toInt32, .int (0 : Int32), .int ((I 4 3) - (1 : Int32))]) (pc' := 50) (S' := []) rfl ?_ (fun _ _ hq => hq)
        show az_E az_F ex 4 131 0 [.int (J (65 + 1) v2.toNatClampNeg).toInt32, .int (0 : Int32), .int ((I 4 3) - (1 : Int32))] [] (97, I, J, R) _
        refine az_E.sn 2 (pc' := 2) (L' := [.int (J (65 + 1) v2.toNatClampNeg).toInt32, .int (0 : Int32), .int ((I 4 3) - (1 : Int32))]) (S' := [.int (0 : Int32), .int (J (65 + 1) v2.toNatClampNeg).toInt32]) (σ' := (97, I, J, R)) rfl ?_
        refine az_E.br (c := (J (65 + 1) v2.toNatClampNeg).toInt32 < (0 : Int32)) (tt := 14) (ff := 5) (L' := [.int (J (65 + 1) v2.toNatClampNeg).toInt32, .int (0 : Int32), .int ((I 4 3) - (1 : Int32))]) (S' := []) (σ' := (97, I, J, R)) rfl (fun hc_5 => ?_) (fun hc_5 => ?_)
        · rw [if_pos hc_5] at h
          refine az_E.sn 1 (pc' := 15) (L' := [.int (J (65 + 1) v2.toNatClampNeg).toInt32, .int (0 : Int32), .int ((I 4 3) - (1 : Int32))]) (S' := [.int (0 : Int32)]) (σ' := (97, I, J, R)) rfl ?_
          refine az_E.ret (v := some (.int (0 : Int32))) (σ' := (97, I, J, R)) rfl ?_
          show az_E az_F ex 5 151 50 [.ref 3, .ref 65, .int v2, .int (J (65 + 1) v2.toNatClampNeg).toInt32] [.int (0 : Int32)] (97, I, J, R) _
          refine az_E.br (c := (0 : Int32) = 0) (tt := 53) (ff := 57) (L' := [.ref 3, .ref 65, .int v2, .int (J (65 + 1) v2.toNatClampNeg).toInt32]) (S' := []) (σ' := (97, I, J, R)) rfl (fun _ => ?_) (fun hn => absurd (by decide) hn)
          obtain ⟨x, hx, rfl⟩ := Option.map_eq_some_iff.mp h
          exact az_E.forget (L := [.retAddr 0, .retAddr 0, .int v2, .retAddr 0]) ⟨trivial, trivial, rfl, trivial, trivial⟩ (re_X_firstWrongTwo_53_65_5 (I := I) (J := J) (R := R) hR_26_3 hx hQ)
        · rw [if_neg hc_5] at h
          refine az_E.sn 2 (pc' := 7) (L' := [.int (J (65 + 1) v2.toNatClampNeg).toInt32, .int (0 : Int32), .int ((I 4 3) - (1 : Int32))]) (S' := [.int ((I 4 3) - (1 : Int32)), .int (J (65 + 1) v2.toNatClampNeg).toInt32]) (σ' := (97, I, J, R)) rfl ?_
          refine az_E.br (c := ((I 4 3) - (1 : Int32)) < (J (65 + 1) v2.toNatClampNeg).toInt32) (tt := 14) (ff := 10) (L' := [.int (J (65 + 1) v2.toNatClampNeg).toInt32, .int (0 : Int32), .int ((I 4 3) - (1 : Int32))]) (S' := []) (σ' := (97, I, J, R)) rfl (fun hc_6 => ?_) (fun hc_6 => ?_)
          · rw [if_pos hc_6] at h
            refine az_E.sn 1 (pc' := 15) (L' := [.int (J (65 + 1) v2.toNatClampNeg).toInt32, .int (0 : Int32), .int ((I 4 3) - (1 : Int32))]) (S' := [.int (0 : Int32)]) (σ' := (97, I, J, R)) rfl ?_
            refine az_E.ret (v := some (.int (0 : Int32))) (σ' := (97, I, J, R)) rfl ?_
            show az_E az_F ex 5 151 50 [.ref 3, .ref 65, .int v2, .int (J (65 + 1) v2.toNatClampNeg).toInt32] [.int (0 : Int32)] (97, I, J, R) _
            refine az_E.br (c := (0 : Int32) = 0) (tt := 53) (ff := 57) (L' := [.ref 3, .ref 65, .int v2, .int (J (65 + 1) v2.toNatClampNeg).toInt32]) (S' := []) (σ' := (97, I, J, R)) rfl (fun _ => ?_) (fun hn => absurd (by decide) hn)
            obtain ⟨x, hx, rfl⟩ := Option.map_eq_some_iff.mp h
            exact az_E.forget (L := [.retAddr 0, .retAddr 0, .int v2, .retAddr 0]) ⟨trivial, trivial, rfl, trivial, trivial⟩ (re_X_firstWrongTwo_53_65_5 (I := I) (J := J) (R := R) hR_26_3 hx hQ)
          · rw [if_neg hc_6] at h
            refine az_E.sn 2 (pc' := 15) (L' := [.int (J (65 + 1) v2.toNatClampNeg).toInt32, .int (0 : Int32), .int ((I 4 3) - (1 : Int32))]) (S' := [.int (1 : Int32)]) (σ' := (97, I, J, R)) rfl ?_
            refine az_E.ret (v := some (.int (1 : Int32))) (σ' := (97, I, J, R)) rfl ?_
            show az_E az_F ex 5 151 50 [.ref 3, .ref 65, .int v2, .int (J (65 + 1) v2.toNatClampNeg).toInt32] [.int (1 : Int32)] (97, I, J, R) _
            refine az_E.br (c := (1 : Int32) = 0) (tt := 53) (ff := 57) (L' := [.ref 3, .ref 65, .int v2, .int (J (65 + 1) v2.toNatClampNeg).toInt32]) (S' := []) (σ' := (97, I, J, R)) rfl (fun hn => absurd hn (by decide)) (fun _ => ?_)
            refine az_E.sn 3 (pc' := 62) (L' := [.ref 3, .ref 65, .int v2, .int (J (65 + 1) v2.toNatClampNeg).toInt32]) (S' := [.int (J (65 + 1) v2.toNatClampNeg).toInt32, .ref 59]) (σ' := (97, I, J, R)) rfl ?_
            by_cases hc_7 : (J (65 + 1) v2.toNatClampNeg).toInt32 < 0 ∨ 8 ≤ (J (65 + 1) v2.toNatClampNeg).toInt32.toNatClampNeg
            · rw [if_pos hc_7] at h; cases h
            · rw [if_neg hc_7] at h
              refine az_E.oi (o := az_ai az_F ex (97, I, J, R) 59 (J (65 + 1) v2.toNatClampNeg).toInt32) (pc' := 63) (L' := [.ref 3, .ref 65, .int v2, .int (J (65 + 1) v2.toNatClampNeg).toInt32]) (S' := []) (σ' := (97, I, J, R)) (x := (I 59 (J (65 + 1) v2.toNatClampNeg).toInt32.toNatClampNeg)) rfl (if_neg hc_7) ?_
              refine az_E.br (c := 0 ≤ (I 59 (J (65 + 1) v2.toNatClampNeg).toInt32.toNatClampNeg)) (tt := 77) (ff := 66) (L' := [.ref 3, .ref 65, .int v2, .int (J (65 + 1) v2.toNatClampNeg).toInt32]) (S' := []) (σ' := (97, I, J, R)) rfl (fun hc_8 => ?_) (fun hc_8 => ?_)
              · rw [if_pos hc_8] at h
                exact az_E.forget (L := [.ref 3, .ref 65, .int v2, .int (J (65 + 1) v2.toNatClampNeg).toInt32]) ⟨rfl, rfl, rfl, rfl, trivial⟩ (re_X_firstWrongTwo_77_65_5 (I := I) (J := J) (R := R) hR_26_3 h hQ)
              · rw [if_neg hc_8] at h
                refine az_E.sn 5 (pc' := 73) (L' := [.ref 3, .ref 65, .int v2, .int (J (65 + 1) v2.toNatClampNeg).toInt32]) (S' := [.int (J (65 + 1) v2.toNatClampNeg).toInt32, .ref 3, .int (J (65 + 1) v2.toNatClampNeg).toInt32, .ref 59]) (σ' := (97, I, J, R)) rfl ?_
                cases hx_15 : rs_X_armAt I (J (65 + 1) v2.toNatClampNeg).toInt32 with
                | none => rw [hx_15] at h; cases h
                | some o =>
                  rw [hx_15] at h
                  obtain ⟨x_13, I_14⟩ := o
                  dsimp only at h
                  refine az_E.call (d := 4) (k' := 146) (vs := [.ref 3, .int (J (65 + 1) v2.toNatClampNeg).toInt32]) (pc' := 76) (S' := [.int (J (65 + 1) v2.toNatClampNeg).toInt32, .ref 59]) (Q1 := fun v s => v = some (.int x_13) ∧ s = (97, I_14, J, R)) rfl (az_E.deep (by omega) (re_X_armAt_5 (J := J) (R := R) hR_26_3 hx_15 ⟨rfl, rfl⟩)) (fun v s hq => ?_)
                  obtain ⟨rfl, rfl⟩ := hq
                  show az_E az_F ex 5 151 76 [.ref 3, .ref 65, .int v2, .int (J (65 + 1) v2.toNatClampNeg).toInt32] [.int x_13, .int (J (65 + 1) v2.toNatClampNeg).toInt32, .ref 59] (97, I_14, J, R) _
                  by_cases hc_16 : (J (65 + 1) v2.toNatClampNeg).toInt32 < 0 ∨ 8 ≤ (J (65 + 1) v2.toNatClampNeg).toInt32.toNatClampNeg
                  · rw [if_pos hc_16] at h; cases h
                  · rw [if_neg hc_16] at h
                    refine az_E.o (o := az_si az_F (97, I_14, J, R) 59 (J (65 + 1) v2.toNatClampNeg).toInt32 x_13) (pc' := 77) (L' := [.ref 3, .ref 65, .int v2, .int (J (65 + 1) v2.toNatClampNeg).toInt32]) (S' := []) (x := (97, (az_u I_14 59 (J (65 + 1) v2.toNatClampNeg).toInt32.toNatClampNeg x_13), J, R)) rfl (if_neg hc_16) ?_
                    exact az_E.forget (L := [.ref 3, .ref 65, .int v2, .int (J (65 + 1) v2.toNatClampNeg).toInt32]) ⟨rfl, rfl, rfl, rfl, trivial⟩ (re_X_firstWrongTwo_77_65_5 (I := (az_u I_14 59 (J (65 + 1) v2.toNatClampNeg).toInt32.toNatClampNeg x_13)) (J := J) (R := R) hR_26_3 h hQ)
set_option maxRecDepth 100000 in
set_option maxHeartbeats 4000000 in
theorem re_X_firstWrongTwo_10_65_5 {ex : az_X} {I : Nat → Nat → Int32} {J : Nat → Nat → Int64} {R : Nat → Nat → Option Nat} {v2 : Int32} (hR_26_3 : R 26 3 = some 5) {x : Int32 × (Nat → Nat → Int32)} (h : rs_X_firstWrongTwo_10 65 I J v2 = some x) {Q : Option Value → az_S → Prop} (hQ : Q (some (.int x.1)) (97, x.2, J, R)) : az_E az_F ex 5 151 10 [.ref 3, .ref 65, .int v2, .retAddr 0] [] (97, I, J, R) Q := by
  unfold rs_X_firstWrongTwo_10 at h
  refine az_lp_E (G := fun s => az_E az_F ex 5 151 10 [.ref 3, .ref 65, .int s.1, .retAddr 0] [] (97, s.2, J, R) Q) (H := fun x => Q (some (.int x.1)) (97, x.2, J, R)) (fun s o hb ho => ?_) _ _ _ h hQ
  exact re_X_firstWrongTwo_10_b_65_5 hR_26_3 hb ho
set_option maxRecDepth 100000 in
set_option maxHeartbeats 4000000 in
theorem re_X_firstWrongTwo_65_5 {ex : az_X} {I : Nat → Nat → Int32} {J : Nat → Nat → Int64} {R : Nat → Nat → Option Nat} (hR_26_3 : R 26 3 = some 5) {o : Int32 × (Nat → Nat → Int32)} (h : rs_X_firstWrongTwo 65 I J = some o) {Q : Option Value → az_S → Prop} (hQ : Q (some (.int o.1)) (97, o.2, J, R)) : az_E az_F ex 5 151 0 [.ref 3, .ref 65, .retAddr 0, .retAddr 0] [] (97, I, J, R) Q := by
  unfold rs_X_firstWrongTwo at h
  refine az_E.sn 3 (pc' := 5) (L' := [.ref 3, .ref 65, .retAddr 0, .retAddr 0]) (S' := [.int (-1 : Int32), .ref 59]) (σ' := (97, I, J, R)) rfl ?_
  refine az_E.call (d := 4) (k' := 257) (vs := [.ref 59, .int (-1 : Int32)]) (pc' := 8) (S' := []) (Q1 := fun v s => v = none ∧ s = (97, (az_ur I 59 (az_fill 8 (-1 : Int32) (I 59))), J, R)) rfl (az_E.deep (by omega) (re_fillI (r := 59) rfl ⟨rfl, rfl⟩)) (fun v s hq => ?_)
  obtain ⟨rfl, rfl⟩ := hq
  show az_E az_F ex 5 151 8 [.ref 3, .ref 65, .retAddr 0, .retAddr 0] [] (97, (az_ur I 59 (az_fill 8 (-1 : Int32) (I 59))), J, R) _
  refine az_E.sn 2 (pc' := 10) (L' := [.ref 3, .ref 65, .int (0 : Int32), .retAddr 0]) (S' := []) (σ' := (97, (az_ur I 59 (az_fill 8 (-1 : Int32) (I 59))), J, R)) rfl ?_
  exact az_E.forget (L := [.ref 3, .ref 65, .int (0 : Int32), .retAddr 0]) ⟨rfl, rfl, rfl, trivial, trivial⟩ (re_X_firstWrongTwo_10_65_5 (I := (az_ur I 59 (az_fill 8 (-1 : Int32) (I 59)))) (J := J) (R := R) hR_26_3 h hQ)
set_option maxRecDepth 100000 in
set_option maxHeartbeats 4000000 in
theorem re_X_firstWrongTwo_53_67_5 {ex : az_X} {I : Nat → Nat → Int32} {J : Nat → Nat → Int64} {R : Nat → Nat → Option Nat} {v2 : Int32} (hR_26_3 : R 26 3 = some 5) {x : Int32 × (Nat → Nat → Int32)} (h : rs_X_firstWrongTwo_53 67 I J v2 = some x) {Q : Option Value → az_S → Prop} (hQ : Q (some (.int x.1)) (97, x.2, J, R)) : az_E az_F ex 5 151 53 [.retAddr 0, .retAddr 0, .int v2, .retAddr 0] [] (97, I, J, R) Q := by
  unfold rs_X_firstWrongTwo_53 at h
  refine az_E.sn 2 (pc' := 55) (L' := [.retAddr 0, .retAddr 0, .int v2, .retAddr 0]) (S' := [.int (2 : Int32), .int v2]) (σ' := (97, I, J, R)) rfl ?_
  have hd_4 : ¬ ((2 : Int32) = 0) := by decide
  refine az_E.dv (c := (2 : Int32) = 0) (pc' := 56) (L' := [.retAddr 0, .retAddr 0, .int v2, .retAddr 0]) (S' := [.int (v2 / (2 : Int32))]) (σ' := (97, I, J, R)) rfl hd_4 ?_
  have h := Option.some.inj h
  subst h
  exact az_E.ret (v := some (.int (v2 / (2 : Int32)))) (σ' := (97, I, J, R)) rfl hQ
set_option maxRecDepth 100000 in
set_option maxHeartbeats 4000000 in
theorem re_X_firstWrongTwo_96_67_5 {ex : az_X} {I : Nat → Nat → Int32} {J : Nat → Nat → Int64} {R : Nat → Nat → Option Nat} {v2 : Int32} (hR_26_3 : R 26 3 = some 5) {x : Int32 × (Nat → Nat → Int32)} (h : rs_X_firstWrongTwo_96 67 I J v2 = some x) {Q : Option Value → az_S → Prop} (hQ : Q (some (.int x.1)) (97, x.2, J, R)) : az_E az_F ex 5 151 96 [.retAddr 0, .retAddr 0, .int v2, .retAddr 0] [] (97, I, J, R) Q := by
  unfold rs_X_firstWrongTwo_96 at h
  refine az_E.sn 2 (pc' := 98) (L' := [.retAddr 0, .retAddr 0, .int v2, .retAddr 0]) (S' := [.int (2 : Int32), .int v2]) (σ' := (97, I, J, R)) rfl ?_
  have hd_12 : ¬ ((2 : Int32) = 0) := by decide
  refine az_E.dv (c := (2 : Int32) = 0) (pc' := 99) (L' := [.retAddr 0, .retAddr 0, .int v2, .retAddr 0]) (S' := [.int (v2 / (2 : Int32))]) (σ' := (97, I, J, R)) rfl hd_12 ?_
  have h := Option.some.inj h
  subst h
  exact az_E.ret (v := some (.int (v2 / (2 : Int32)))) (σ' := (97, I, J, R)) rfl hQ
set_option maxRecDepth 100000 in
set_option maxHeartbeats 4000000 in
theorem re_X_firstWrongTwo_77_67_5 {ex : az_X} {I : Nat → Nat → Int32} {J : Nat → Nat → Int64} {R : Nat → Nat → Option Nat} {v2 : Int32} {v3 : Int32} (hR_26_3 : R 26 3 = some 5) {x : ((Int32 × (Nat → Nat → Int32)) ⊕ (Int32 × (Nat → Nat → Int32)))} (h : rs_X_firstWrongTwo_77 67 I J v2 v3 = some x) {Q : Option Value → az_S → Prop} (hQ : Sum.elim (fun s => az_E az_F ex 5 151 10 [.ref 3, .ref 67, .int s.1, .retAddr 0] [] (97, s.2, J, R) Q) (fun x => Q (some (.int x.1)) (97, x.2, J, R)) x) : az_E az_F ex 5 151 77 [.ref 3, .ref 67, .int v2, .int v3] [] (97, I, J, R) Q := by
  unfold rs_X_firstWrongTwo_77 at h
  refine az_E.sn 3 (pc' := 82) (L' := [.ref 3, .ref 67, .int v2, .int v3]) (S' := [.int v3, .ref 59]) (σ' := (97, I, J, R)) rfl ?_
  by_cases hc_9 : v3 < 0 ∨ 8 ≤ v3.toNatClampNeg
  · rw [if_pos hc_9] at h; cases h
  · rw [if_neg hc_9] at h
    refine az_E.oi (o := az_ai az_F ex (97, I, J, R) 59 v3) (pc' := 83) (L' := [.ref 3, .ref 67, .int v2, .int v3]) (S' := []) (σ' := (97, I, J, R)) (x := (I 59 v3.toNatClampNeg)) rfl (if_neg hc_9) ?_
    refine az_E.sn 6 (pc' := 91) (L' := [.ref 3, .ref 67, .int v2, .int v3]) (S' := [.int (v2 + (1 : Int32)), .ref (67 + 1), .long (I 59 v3.toNatClampNeg).toInt64]) (σ' := (97, I, J, R)) rfl ?_
    by_cases hc_10 : (v2 + (1 : Int32)) < 0 ∨ 60 ≤ (v2 + (1 : Int32)).toNatClampNeg
    · rw [if_pos hc_10] at h; cases h
    · rw [if_neg hc_10] at h
      refine az_E.ol (o := az_al az_F (97, I, J, R) (67 + 1) (v2 + (1 : Int32))) (pc' := 92) (L' := [.ref 3, .ref 67, .int v2, .int v3]) (S' := [.long (I 59 v3.toNatClampNeg).toInt64]) (σ' := (97, I, J, R)) (x := (J (67 + 1) (v2 + (1 : Int32)).toNatClampNeg)) rfl (if_neg hc_10) ?_
      refine az_E.sn 1 (pc' := 93) (L' := [.ref 3, .ref 67, .int v2, .int v3]) (S' := [.int (lg_cmp (I 59 v3.toNatClampNeg).toInt64 (J (67 + 1) (v2 + (1 : Int32)).toNatClampNeg))]) (σ' := (97, I, J, R)) rfl ?_
      refine az_E.br (c := (lg_cmp (I 59 v3.toNatClampNeg).toInt64 (J (67 + 1) (v2 + (1 : Int32)).toNatClampNeg)) = 0) (tt := 100) (ff := 96) (L' := [.ref 3, .ref 67, .int v2, .int v3]) (S' := []) (σ' := (97, I, J, R)) rfl (fun hc_11 => ?_) (fun hc_11 => ?_)
      · rw [if_pos hc_11] at h
        refine az_E.sn 2 (pc' := 10) (L' := [.ref 3, .ref 67, .int (v2 + (2 : Int32)), .int v3]) (S' := []) (σ' := (97, I, J, R)) rfl ?_
        have h := Option.some.inj h
        subst h
        exact az_E.forget (L := [.ref 3, .ref 67, .int (v2 + (2 : Int32)), .retAddr 0]) ⟨rfl, rfl, rfl, trivial, trivial⟩ hQ
      · rw [if_neg hc_11] at h
        obtain ⟨x, hx, rfl⟩ := Option.map_eq_some_iff.mp h
        exact az_E.forget (L := [.retAddr 0, .retAddr 0, .int v2, .retAddr 0]) ⟨trivial, trivial, rfl, trivial, trivial⟩ (re_X_firstWrongTwo_96_67_5 (I := I) (J := J) (R := R) hR_26_3 hx hQ)
set_option maxRecDepth 100000 in
set_option maxHeartbeats 4000000 in
theorem re_X_firstWrongTwo_10_b_67_5 {ex : az_X} {I : Nat → Nat → Int32} {J : Nat → Nat → Int64} {R : Nat → Nat → Option Nat} {v2 : Int32} (hR_26_3 : R 26 3 = some 5) {x : ((Int32 × (Nat → Nat → Int32)) ⊕ (Int32 × (Nat → Nat → Int32)))} (h : rs_X_firstWrongTwo_10_b 67 J v2 I = some x) {Q : Option Value → az_S → Prop} (hQ : Sum.elim (fun s => az_E az_F ex 5 151 10 [.ref 3, .ref 67, .int s.1, .retAddr 0] [] (97, s.2, J, R) Q) (fun x => Q (some (.int x.1)) (97, x.2, J, R)) x) : az_E az_F ex 5 151 10 [.ref 3, .ref 67, .int v2, .retAddr 0] [] (97, I, J, R) Q := by
  unfold rs_X_firstWrongTwo_10_b at h
  refine az_E.sn 3 (pc' := 15) (L' := [.ref 3, .ref 67, .int v2, .retAddr 0]) (S' := [.int (I 67 2), .int v2]) (σ' := (97, I, J, R)) rfl ?_
  refine az_E.br (c := (I 67 2) ≤ v2) (tt := 106) (ff := 18) (L' := [.ref 3, .ref 67, .int v2, .retAddr 0]) (S' := []) (σ' := (97, I, J, R)) rfl (fun hc_1 => ?_) (fun hc_1 => ?_)
  · rw [if_pos hc_1] at h
    refine az_E.sn 1 (pc' := 108) (L' := [.ref 3, .ref 67, .int v2, .retAddr 0]) (S' := [.int (-2 : Int32)]) (σ' := (97, I, J, R)) rfl ?_
    have h := Option.some.inj h
    subst h
    exact az_E.ret (v := some (.int (-2 : Int32))) (σ' := (97, I, J, R)) rfl hQ
  · rw [if_neg hc_1] at h
    refine az_E.sn 3 (pc' := 23) (L' := [.ref 3, .ref 67, .int v2, .retAddr 0]) (S' := [.int v2, .ref (67 + 1)]) (σ' := (97, I, J, R)) rfl ?_
    by_cases hc_2 : v2 < 0 ∨ 60 ≤ v2.toNatClampNeg
    · rw [if_pos hc_2] at h; cases h
    · rw [if_neg hc_2] at h
      refine az_E.ol (o := az_al az_F (97, I, J, R) (67 + 1) v2) (pc' := 24) (L' := [.ref 3, .ref 67, .int v2, .retAddr 0]) (S' := []) (σ' := (97, I, J, R)) (x := (J (67 + 1) v2.toNatClampNeg)) rfl (if_neg hc_2) ?_
      refine az_E.sn 7 (pc' := 33) (L' := [.ref 3, .ref 67, .int v2, .int (J (67 + 1) v2.toNatClampNeg).toInt32]) (S' := [.int (I 67 2), .int (v2 + (1 : Int32))]) (σ' := (97, I, J, R)) rfl ?_
      refine az_E.br (c := (I 67 2) ≤ (v2 + (1 : Int32))) (tt := 53) (ff := 36) (L' := [.ref 3, .ref 67, .int v2, .int (J (67 + 1) v2.toNatClampNeg).toInt32]) (S' := []) (σ' := (97, I, J, R)) rfl (fun hc_3 => ?_) (fun hc_3 => ?_)
      · rw [if_pos hc_3] at h
        obtain ⟨x, hx, rfl⟩ := Option.map_eq_some_iff.mp h
        exact az_E.forget (L := [.retAddr 0, .retAddr 0, .int v2, .retAddr 0]) ⟨trivial, trivial, rfl, trivial, trivial⟩ (re_X_firstWrongTwo_53_67_5 (I := I) (J := J) (R := R) hR_26_3 hx hQ)
      · rw [if_neg hc_3] at h
        refine az_E.sn 7 (pc' := 47) (L' := [.ref 3, .ref 67, .int v2, .int (J (67 + 1) v2.toNatClampNeg).toInt32]) (S' := [.int ((I 4 3) - (1 : Int32)), .int (0 : Int32), .int (J (67 + 1) v2.toNatClampNeg).toInt32]) (σ' := (97, I, J, R)) rfl ?_
        refine az_E.call (d := 4) (k' := 131) (vs := [.int (J (67 + 1) v2.toNatClampNeg).toInt32, .int (0 : Int32), .int ((I 4 3) - (1 : Int32))]) (pc' := 50) (S' := []) rfl ?_ (fun _ _ hq => hq)
        show az_E az_F ex 4 131 0 [.int (J (67 + 1) v2.toNatClampNeg).toInt32, .int (0 : Int32), .int ((I 4 3) - (1 : Int32))] [] (97, I, J, R) _
        refine az_E.sn 2 (pc' := 2) (L' := [.int (J (67 + 1) v2.toNatClampNeg).toInt32, .int (0 : Int32), .int ((I 4 3) - (1 : Int32))]) (S' := [.int (0 : Int32), .int (J (67 + 1) v2.toNatClampNeg).toInt32]) (σ' := (97, I, J, R)) rfl ?_
        refine az_E.br (c := (J (67 + 1) v2.toNatClampNeg).toInt32 < (0 : Int32)) (tt := 14) (ff := 5) (L' := [.int (J (67 + 1) v2.toNatClampNeg).toInt32, .int (0 : Int32), .int ((I 4 3) - (1 : Int32))]) (S' := []) (σ' := (97, I, J, R)) rfl (fun hc_5 => ?_) (fun hc_5 => ?_)
        · rw [if_pos hc_5] at h
          refine az_E.sn 1 (pc' := 15) (L' := [.int (J (67 + 1) v2.toNatClampNeg).toInt32, .int (0 : Int32), .int ((I 4 3) - (1 : Int32))]) (S' := [.int (0 : Int32)]) (σ' := (97, I, J, R)) rfl ?_
          refine az_E.ret (v := some (.int (0 : Int32))) (σ' := (97, I, J, R)) rfl ?_
          show az_E az_F ex 5 151 50 [.ref 3, .ref 67, .int v2, .int (J (67 + 1) v2.toNatClampNeg).toInt32] [.int (0 : Int32)] (97, I, J, R) _
          refine az_E.br (c := (0 : Int32) = 0) (tt := 53) (ff := 57) (L' := [.ref 3, .ref 67, .int v2, .int (J (67 + 1) v2.toNatClampNeg).toInt32]) (S' := []) (σ' := (97, I, J, R)) rfl (fun _ => ?_) (fun hn => absurd (by decide) hn)
          obtain ⟨x, hx, rfl⟩ := Option.map_eq_some_iff.mp h
          exact az_E.forget (L := [.retAddr 0, .retAddr 0, .int v2, .retAddr 0]) ⟨trivial, trivial, rfl, trivial, trivial⟩ (re_X_firstWrongTwo_53_67_5 (I := I) (J := J) (R := R) hR_26_3 hx hQ)
        · rw [if_neg hc_5] at h
          refine az_E.sn 2 (pc' := 7) (L' := [.int (J (67 + 1) v2.toNatClampNeg).toInt32, .int (0 : Int32), .int ((I 4 3) - (1 : Int32))]) (S' := [.int ((I 4 3) - (1 : Int32)), .int (J (67 + 1) v2.toNatClampNeg).toInt32]) (σ' := (97, I, J, R)) rfl ?_
          refine az_E.br (c := ((I 4 3) - (1 : Int32)) < (J (67 + 1) v2.toNatClampNeg).toInt32) (tt := 14) (ff := 10) (L' := [.int (J (67 + 1) v2.toNatClampNeg).toInt32, .int (0 : Int32), .int ((I 4 3) - (1 : Int32))]) (S' := []) (σ' := (97, I, J, R)) rfl (fun hc_6 => ?_) (fun hc_6 => ?_)
          · rw [if_pos hc_6] at h
            refine az_E.sn 1 (pc' := 15) (L' := [.int (J (67 + 1) v2.toNatClampNeg).toInt32, .int (0 : Int32), .int ((I 4 3) - (1 : Int32))]) (S' := [.int (0 : Int32)]) (σ' := (97, I, J, R)) rfl ?_
            refine az_E.ret (v := some (.int (0 : Int32))) (σ' := (97, I, J, R)) rfl ?_
            show az_E az_F ex 5 151 50 [.ref 3, .ref 67, .int v2, .int (J (67 + 1) v2.toNatClampNeg).toInt32] [.int (0 : Int32)] (97, I, J, R) _
            refine az_E.br (c := (0 : Int32) = 0) (tt := 53) (ff := 57) (L' := [.ref 3, .ref 67, .int v2, .int (J (67 + 1) v2.toNatClampNeg).toInt32]) (S' := []) (σ' := (97, I, J, R)) rfl (fun _ => ?_) (fun hn => absurd (by decide) hn)
            obtain ⟨x, hx, rfl⟩ := Option.map_eq_some_iff.mp h
            exact az_E.forget (L := [.retAddr 0, .retAddr 0, .int v2, .retAddr 0]) ⟨trivial, trivial, rfl, trivial, trivial⟩ (re_X_firstWrongTwo_53_67_5 (I := I) (J := J) (R := R) hR_26_3 hx hQ)
          · rw [if_neg hc_6] at h
            refine az_E.sn 2 (pc' := 15) (L' := [.int (J (67 + 1) v2.toNatClampNeg).toInt32, .int (0 : Int32), .int ((I 4 3) - (1 : Int32))]) (S' := [.int (1 : Int32)]) (σ' := (97, I, J, R)) rfl ?_
            refine az_E.ret (v := some (.int (1 : Int32))) (σ' := (97, I, J, R)) rfl ?_
            show az_E az_F ex 5 151 50 [.ref 3, .ref 67, .int v2, .int (J (67 + 1) v2.toNatClampNeg).toInt32] [.int (1 : Int32)] (97, I, J, R) _
            refine az_E.br (c := (1 : Int32) = 0) (tt := 53) (ff := 57) (L' := [.ref 3, .ref 67, .int v2, .int (J (67 + 1) v2.toNatClampNeg).toInt32]) (S' := []) (σ' := (97, I, J, R)) rfl (fun hn => absurd hn (by decide)) (fun _ => ?_)
            refine az_E.sn 3 (pc' := 62) (L' := [.ref 3, .ref 67, .int v2, .int (J (67 + 1) v2.toNatClampNeg).toInt32]) (S' := [.int (J (67 + 1) v2.toNatClampNeg).toInt32, .ref 59]) (σ' := (97, I, J, R)) rfl ?_
            by_cases hc_7 : (J (67 + 1) v2.toNatClampNeg).toInt32 < 0 ∨ 8 ≤ (J (67 + 1) v2.toNatClampNeg).toInt32.toNatClampNeg
            · rw [if_pos hc_7] at h; cases h
            · rw [if_neg hc_7] at h
              refine az_E.oi (o := az_ai az_F ex (97, I, J, R) 59 (J (67 + 1) v2.toNatClampNeg).toInt32) (pc' := 63) (L' := [.ref 3, .ref 67, .int v2, .int (J (67 + 1) v2.toNatClampNeg).toInt32]) (S' := []) (σ' := (97, I, J, R)) (x := (I 59 (J (67 + 1) v2.toNatClampNeg).toInt32.toNatClampNeg)) rfl (if_neg hc_7) ?_
              refine az_E.br (c := 0 ≤ (I 59 (J (67 + 1) v2.toNatClampNeg).toInt32.toNatClampNeg)) (tt := 77) (ff := 66) (L' := [.ref 3, .ref 67, .int v2, .int (J (67 + 1) v2.toNatClampNeg).toInt32]) (S' := []) (σ' := (97, I, J, R)) rfl (fun hc_8 => ?_) (fun hc_8 => ?_)
              · rw [if_pos hc_8] at h
                exact az_E.forget (L := [.ref 3, .ref 67, .int v2, .int (J (67 + 1) v2.toNatClampNeg).toInt32]) ⟨rfl, rfl, rfl, rfl, trivial⟩ (re_X_firstWrongTwo_77_67_5 (I := I) (J := J) (R := R) hR_26_3 h hQ)
              · rw [if_neg hc_8] at h
                refine az_E.sn 5 (pc' := 73) (L' := [.ref 3, .ref 67, .int v2, .int (J (67 + 1) v2.toNatClampNeg).toInt32]) (S' := [.int (J (67 + 1) v2.toNatClampNeg).toInt32, .ref 3, .int (J (67 + 1) v2.toNatClampNeg).toInt32, .ref 59]) (σ' := (97, I, J, R)) rfl ?_
                cases hx_15 : rs_X_armAt I (J (67 + 1) v2.toNatClampNeg).toInt32 with
                | none => rw [hx_15] at h; cases h
                | some o =>
                  rw [hx_15] at h
                  obtain ⟨x_13, I_14⟩ := o
                  dsimp only at h
                  refine az_E.call (d := 4) (k' := 146) (vs := [.ref 3, .int (J (67 + 1) v2.toNatClampNeg).toInt32]) (pc' := 76) (S' := [.int (J (67 + 1) v2.toNatClampNeg).toInt32, .ref 59]) (Q1 := fun v s => v = some (.int x_13) ∧ s = (97, I_14, J, R)) rfl (az_E.deep (by omega) (re_X_armAt_5 (J := J) (R := R) hR_26_3 hx_15 ⟨rfl, rfl⟩)) (fun v s hq => ?_)
                  obtain ⟨rfl, rfl⟩ := hq
                  show az_E az_F ex 5 151 76 [.ref 3, .ref 67, .int v2, .int (J (67 + 1) v2.toNatClampNeg).toInt32] [.int x_13, .int (J (67 + 1) v2.toNatClampNeg).toInt32, .ref 59] (97, I_14, J, R) _
                  by_cases hc_16 : (J (67 + 1) v2.toNatClampNeg).toInt32 < 0 ∨ 8 ≤ (J (67 + 1) v2.toNatClampNeg).toInt32.toNatClampNeg
                  · rw [if_pos hc_16] at h; cases h
                  · rw [if_neg hc_16] at h
                    refine az_E.o (o := az_si az_F (97, I_14, J, R) 59 (J (67 + 1) v2.toNatClampNeg).toInt32 x_13) (pc' := 77) (L' := [.ref 3, .ref 67, .int v2, .int (J (67 + 1) v2.toNatClampNeg).toInt32]) (S' := []) (x := (97, (az_u I_14 59 (J (67 + 1) v2.toNatClampNeg).toInt32.toNatClampNeg x_13), J, R)) rfl (if_neg hc_16) ?_
                    exact az_E.forget (L := [.ref 3, .ref 67, .int v2, .int (J (67 + 1) v2.toNatClampNeg).toInt32]) ⟨rfl, rfl, rfl, rfl, trivial⟩ (re_X_firstWrongTwo_77_67_5 (I := (az_u I_14 59 (J (67 + 1) v2.toNatClampNeg).toInt32.toNatClampNeg x_13)) (J := J) (R := R) hR_26_3 h hQ)
set_option maxRecDepth 100000 in
set_option maxHeartbeats 4000000 in
theorem re_X_firstWrongTwo_10_67_5 {ex : az_X} {I : Nat → Nat → Int32} {J : Nat → Nat → Int64} {R : Nat → Nat → Option Nat} {v2 : Int32} (hR_26_3 : R 26 3 = some 5) {x : Int32 × (Nat → Nat → Int32)} (h : rs_X_firstWrongTwo_10 67 I J v2 = some x) {Q : Option Value → az_S → Prop} (hQ : Q (some (.int x.1)) (97, x.2, J, R)) : az_E az_F ex 5 151 10 [.ref 3, .ref 67, .int v2, .retAddr 0] [] (97, I, J, R) Q := by
  unfold rs_X_firstWrongTwo_10 at h
  refine az_lp_E (G := fun s => az_E az_F ex 5 151 10 [.ref 3, .ref 67, .int s.1, .retAddr 0] [] (97, s.2, J, R) Q) (H := fun x => Q (some (.int x.1)) (97, x.2, J, R)) (fun s o hb ho => ?_) _ _ _ h hQ
  exact re_X_firstWrongTwo_10_b_67_5 hR_26_3 hb ho
set_option maxRecDepth 100000 in
set_option maxHeartbeats 4000000 in
theorem re_X_firstWrongTwo_67_5 {ex : az_X} {I : Nat → Nat → Int32} {J : Nat → Nat → Int64} {R : Nat → Nat → Option Nat} (hR_26_3 : R 26 3 = some 5) {o : Int32 × (Nat → Nat → Int32)} (h : rs_X_firstWrongTwo 67 I J = some o) {Q : Option Value → az_S → Prop} (hQ : Q (some (.int o.1)) (97, o.2, J, R)) : az_E az_F ex 5 151 0 [.ref 3, .ref 67, .retAddr 0, .retAddr 0] [] (97, I, J, R) Q := by
  unfold rs_X_firstWrongTwo at h
  refine az_E.sn 3 (pc' := 5) (L' := [.ref 3, .ref 67, .retAddr 0, .retAddr 0]) (S' := [.int (-1 : Int32), .ref 59]) (σ' := (97, I, J, R)) rfl ?_
  refine az_E.call (d := 4) (k' := 257) (vs := [.ref 59, .int (-1 : Int32)]) (pc' := 8) (S' := []) (Q1 := fun v s => v = none ∧ s = (97, (az_ur I 59 (az_fill 8 (-1 : Int32) (I 59))), J, R)) rfl (az_E.deep (by omega) (re_fillI (r := 59) rfl ⟨rfl, rfl⟩)) (fun v s hq => ?_)
  obtain ⟨rfl, rfl⟩ := hq
  show az_E az_F ex 5 151 8 [.ref 3, .ref 67, .retAddr 0, .retAddr 0] [] (97, (az_ur I 59 (az_fill 8 (-1 : Int32) (I 59))), J, R) _
  refine az_E.sn 2 (pc' := 10) (L' := [.ref 3, .ref 67, .int (0 : Int32), .retAddr 0]) (S' := []) (σ' := (97, (az_ur I 59 (az_fill 8 (-1 : Int32) (I 59))), J, R)) rfl ?_
  exact az_E.forget (L := [.ref 3, .ref 67, .int (0 : Int32), .retAddr 0]) ⟨rfl, rfl, rfl, trivial, trivial⟩ (re_X_firstWrongTwo_10_67_5 (I := (az_ur I 59 (az_fill 8 (-1 : Int32) (I 59)))) (J := J) (R := R) hR_26_3 h hQ)
set_option maxRecDepth 100000 in
set_option maxHeartbeats 4000000 in
theorem re_X_firstWrongTwo_53_69_5 {ex : az_X} {I : Nat → Nat → Int32} {J : Nat → Nat → Int64} {R : Nat → Nat → Option Nat} {v2 : Int32} (hR_26_3 : R 26 3 = some 5) {x : Int32 × (Nat → Nat → Int32)} (h : rs_X_firstWrongTwo_53 69 I J v2 = some x) {Q : Option Value → az_S → Prop} (hQ : Q (some (.int x.1)) (97, x.2, J, R)) : az_E az_F ex 5 151 53 [.retAddr 0, .retAddr 0, .int v2, .retAddr 0] [] (97, I, J, R) Q := by
  unfold rs_X_firstWrongTwo_53 at h
  refine az_E.sn 2 (pc' := 55) (L' := [.retAddr 0, .retAddr 0, .int v2, .retAddr 0]) (S' := [.int (2 : Int32), .int v2]) (σ' := (97, I, J, R)) rfl ?_
  have hd_4 : ¬ ((2 : Int32) = 0) := by decide
  refine az_E.dv (c := (2 : Int32) = 0) (pc' := 56) (L' := [.retAddr 0, .retAddr 0, .int v2, .retAddr 0]) (S' := [.int (v2 / (2 : Int32))]) (σ' := (97, I, J, R)) rfl hd_4 ?_
  have h := Option.some.inj h
  subst h
  exact az_E.ret (v := some (.int (v2 / (2 : Int32)))) (σ' := (97, I, J, R)) rfl hQ
set_option maxRecDepth 100000 in
set_option maxHeartbeats 4000000 in
theorem re_X_firstWrongTwo_96_69_5 {ex : az_X} {I : Nat → Nat → Int32} {J : Nat → Nat → Int64} {R : Nat → Nat → Option Nat} {v2 : Int32} (hR_26_3 : R 26 3 = some 5) {x : Int32 × (Nat → Nat → Int32)} (h : rs_X_firstWrongTwo_96 69 I J v2 = some x) {Q : Option Value → az_S → Prop} (hQ : Q (some (.int x.1)) (97, x.2, J, R)) : az_E az_F ex 5 151 96 [.retAddr 0, .retAddr 0, .int v2, .retAddr 0] [] (97, I, J, R) Q := by
  unfold rs_X_firstWrongTwo_96 at h
  refine az_E.sn 2 (pc' := 98) (L' := [.retAddr 0, .retAddr 0, .int v2, .retAddr 0]) (S' := [.int (2 : Int32), .int v2]) (σ' := (97, I, J, R)) rfl ?_
  have hd_12 : ¬ ((2 : Int32) = 0) := by decide
  refine az_E.dv (c := (2 : Int32) = 0) (pc' := 99) (L' := [.retAddr 0, .retAddr 0, .int v2, .retAddr 0]) (S' := [.int (v2 / (2 : Int32))]) (σ' := (97, I, J, R)) rfl hd_12 ?_
  have h := Option.some.inj h
  subst h
  exact az_E.ret (v := some (.int (v2 / (2 : Int32)))) (σ' := (97, I, J, R)) rfl hQ
set_option maxRecDepth 100000 in
set_option maxHeartbeats 4000000 in
theorem re_X_firstWrongTwo_77_69_5 {ex : az_X} {I : Nat → Nat → Int32} {J : Nat → Nat → Int64} {R : Nat → Nat → Option Nat} {v2 : Int32} {v3 : Int32} (hR_26_3 : R 26 3 = some 5) {x : ((Int32 × (Nat → Nat → Int32)) ⊕ (Int32 × (Nat → Nat → Int32)))} (h : rs_X_firstWrongTwo_77 69 I J v2 v3 = some x) {Q : Option Value → az_S → Prop} (hQ : Sum.elim (fun s => az_E az_F ex 5 151 10 [.ref 3, .ref 69, .int s.1, .retAddr 0] [] (97, s.2, J, R) Q) (fun x => Q (some (.int x.1)) (97, x.2, J, R)) x) : az_E az_F ex 5 151 77 [.ref 3, .ref 69, .int v2, .int v3] [] (97, I, J, R) Q := by
  unfold rs_X_firstWrongTwo_77 at h
  refine az_E.sn 3 (pc' := 82) (L' := [.ref 3, .ref 69, .int v2, .int v3]) (S' := [.int v3, .ref 59]) (σ' := (97, I, J, R)) rfl ?_
  by_cases hc_9 : v3 < 0 ∨ 8 ≤ v3.toNatClampNeg
  · rw [if_pos hc_9] at h; cases h
  · rw [if_neg hc_9] at h
    refine az_E.oi (o := az_ai az_F ex (97, I, J, R) 59 v3) (pc' := 83) (L' := [.ref 3, .ref 69, .int v2, .int v3]) (S' := []) (σ' := (97, I, J, R)) (x := (I 59 v3.toNatClampNeg)) rfl (if_neg hc_9) ?_
    refine az_E.sn 6 (pc' := 91) (L' := [.ref 3, .ref 69, .int v2, .int v3]) (S' := [.int (v2 + (1 : Int32)), .ref (69 + 1), .long (I 59 v3.toNatClampNeg).toInt64]) (σ' := (97, I, J, R)) rfl ?_
    by_cases hc_10 : (v2 + (1 : Int32)) < 0 ∨ 60 ≤ (v2 + (1 : Int32)).toNatClampNeg
    · rw [if_pos hc_10] at h; cases h
    · rw [if_neg hc_10] at h
      refine az_E.ol (o := az_al az_F (97, I, J, R) (69 + 1) (v2 + (1 : Int32))) (pc' := 92) (L' := [.ref 3, .ref 69, .int v2, .int v3]) (S' := [.long (I 59 v3.toNatClampNeg).toInt64]) (σ' := (97, I, J, R)) (x := (J (69 + 1) (v2 + (1 : Int32)).toNatClampNeg)) rfl (if_neg hc_10) ?_
      refine az_E.sn 1 (pc' := 93) (L' := [.ref 3, .ref 69, .int v2, .int v3]) (S' := [.int (lg_cmp (I 59 v3.toNatClampNeg).toInt64 (J (69 + 1) (v2 + (1 : Int32)).toNatClampNeg))]) (σ' := (97, I, J, R)) rfl ?_
      refine az_E.br (c := (lg_cmp (I 59 v3.toNatClampNeg).toInt64 (J (69 + 1) (v2 + (1 : Int32)).toNatClampNeg)) = 0) (tt := 100) (ff := 96) (L' := [.ref 3, .ref 69, .int v2, .int v3]) (S' := []) (σ' := (97, I, J, R)) rfl (fun hc_11 => ?_) (fun hc_11 => ?_)
      · rw [if_pos hc_11] at h
        refine az_E.sn 2 (pc' := 10) (L' := [.ref 3, .ref 69, .int (v2 + (2 : Int32)), .int v3]) (S' := []) (σ' := (97, I, J, R)) rfl ?_
        have h := Option.some.inj h
        subst h
        exact az_E.forget (L := [.ref 3, .ref 69, .int (v2 + (2 : Int32)), .retAddr 0]) ⟨rfl, rfl, rfl, trivial, trivial⟩ hQ
      · rw [if_neg hc_11] at h
        obtain ⟨x, hx, rfl⟩ := Option.map_eq_some_iff.mp h
        exact az_E.forget (L := [.retAddr 0, .retAddr 0, .int v2, .retAddr 0]) ⟨trivial, trivial, rfl, trivial, trivial⟩ (re_X_firstWrongTwo_96_69_5 (I := I) (J := J) (R := R) hR_26_3 hx hQ)
set_option maxRecDepth 100000 in
set_option maxHeartbeats 4000000 in
theorem re_X_firstWrongTwo_10_b_69_5 {ex : az_X} {I : Nat → Nat → Int32} {J : Nat → Nat → Int64} {R : Nat → Nat → Option Nat} {v2 : Int32} (hR_26_3 : R 26 3 = some 5) {x : ((Int32 × (Nat → Nat → Int32)) ⊕ (Int32 × (Nat → Nat → Int32)))} (h : rs_X_firstWrongTwo_10_b 69 J v2 I = some x) {Q : Option Value → az_S → Prop} (hQ : Sum.elim (fun s => az_E az_F ex 5 151 10 [.ref 3, .ref 69, .int s.1, .retAddr 0] [] (97, s.2, J, R) Q) (fun x => Q (some (.int x.1)) (97, x.2, J, R)) x) : az_E az_F ex 5 151 10 [.ref 3, .ref 69, .int v2, .retAddr 0] [] (97, I, J, R) Q := by
  unfold rs_X_firstWrongTwo_10_b at h
  refine az_E.sn 3 (pc' := 15) (L' := [.ref 3, .ref 69, .int v2, .retAddr 0]) (S' := [.int (I 69 2), .int v2]) (σ' := (97, I, J, R)) rfl ?_
  refine az_E.br (c := (I 69 2) ≤ v2) (tt := 106) (ff := 18) (L' := [.ref 3, .ref 69, .int v2, .retAddr 0]) (S' := []) (σ' := (97, I, J, R)) rfl (fun hc_1 => ?_) (fun hc_1 => ?_)
  · rw [if_pos hc_1] at h
    refine az_E.sn 1 (pc' := 108) (L' := [.ref 3, .ref 69, .int v2, .retAddr 0]) (S' := [.int (-2 : Int32)]) (σ' := (97, I, J, R)) rfl ?_
    have h := Option.some.inj h
    subst h
    exact az_E.ret (v := some (.int (-2 : Int32))) (σ' := (97, I, J, R)) rfl hQ
  · rw [if_neg hc_1] at h
    refine az_E.sn 3 (pc' := 23) (L' := [.ref 3, .ref 69, .int v2, .retAddr 0]) (S' := [.int v2, .ref (69 + 1)]) (σ' := (97, I, J, R)) rfl ?_
    by_cases hc_2 : v2 < 0 ∨ 60 ≤ v2.toNatClampNeg
    · rw [if_pos hc_2] at h; cases h
    · rw [if_neg hc_2] at h
      refine az_E.ol (o := az_al az_F (97, I, J, R) (69 + 1) v2) (pc' := 24) (L' := [.ref 3, .ref 69, .int v2, .retAddr 0]) (S' := []) (σ' := (97, I, J, R)) (x := (J (69 + 1) v2.toNatClampNeg)) rfl (if_neg hc_2) ?_
      refine az_E.sn 7 (pc' := 33) (L' := [.ref 3, .ref 69, .int v2, .int (J (69 + 1) v2.toNatClampNeg).toInt32]) (S' := [.int (I 69 2), .int (v2 + (1 : Int32))]) (σ' := (97, I, J, R)) rfl ?_
      refine az_E.br (c := (I 69 2) ≤ (v2 + (1 : Int32))) (tt := 53) (ff := 36) (L' := [.ref 3, .ref 69, .int v2, .int (J (69 + 1) v2.toNatClampNeg).toInt32]) (S' := []) (σ' := (97, I, J, R)) rfl (fun hc_3 => ?_) (fun hc_3 => ?_)
      · rw [if_pos hc_3] at h
        obtain ⟨x, hx, rfl⟩ := Option.map_eq_some_iff.mp h
        exact az_E.forget (L := [.retAddr 0, .retAddr 0, .int v2, .retAddr 0]) ⟨trivial, trivial, rfl, trivial, trivial⟩ (re_X_firstWrongTwo_53_69_5 (I := I) (J := J) (R := R) hR_26_3 hx hQ)
      · rw [if_neg hc_3] at h
        refine az_E.sn 7 (pc' := 47) (L' := [.ref 3, .ref 69, .int v2, .int (J (69 + 1) v2.toNatClampNeg).toInt32]) (S' := [.int ((I 4 3) - (1 : Int32)), .int (0 : Int32), .int (J (69 + 1) v2.toNatClampNeg).toInt32]) (σ' := (97, I, J, R)) rfl ?_
        refine az_E.call (d := 4) (k' := 131) (vs := [.int (J (69 + 1) v2.toNatClampNeg).toInt32, .int (0 : Int32), .int ((I 4 3) - (1 : Int32))]) (pc' := 50) (S' := []) rfl ?_ (fun _ _ hq => hq)
        show az_E az_F ex 4 131 0 [.int (J (69 + 1) v2.toNatClampNeg).toInt32, .int (0 : Int32), .int ((I 4 3) - (1 : Int32))] [] (97, I, J, R) _
        refine az_E.sn 2 (pc' := 2) (L' := [.int (J (69 + 1) v2.toNatClampNeg).toInt32, .int (0 : Int32), .int ((I 4 3) - (1 : Int32))]) (S' := [.int (0 : Int32), .int (J (69 + 1) v2.toNatClampNeg).toInt32]) (σ' := (97, I, J, R)) rfl ?_
        refine az_E.br (c := (J (69 + 1) v2.toNatClampNeg).toInt32 < (0 : Int32)) (tt := 14) (ff := 5) (L' := [.int (J (69 + 1) v2.toNatClampNeg).toInt32, .int (0 : Int32), .int ((I 4 3) - (1 : Int32))]) (S' := []) (σ' := (97, I, J, R)) rfl (fun hc_5 => ?_) (fun hc_5 => ?_)
        · rw [if_pos hc_5] at h
          refine az_E.sn 1 (pc' := 15) (L' := [.int (J (69 + 1) v2.toNatClampNeg).toInt32, .int (0 : Int32), .int ((I 4 3) - (1 : Int32))]) (S' := [.int (0 : Int32)]) (σ' := (97, I, J, R)) rfl ?_
          refine az_E.ret (v := some (.int (0 : Int32))) (σ' := (97, I, J, R)) rfl ?_
          show az_E az_F ex 5 151 50 [.ref 3, .ref 69, .int v2, .int (J (69 + 1) v2.toNatClampNeg).toInt32] [.int (0 : Int32)] (97, I, J, R) _
          refine az_E.br (c := (0 : Int32) = 0) (tt := 53) (ff := 57) (L' := [.ref 3, .ref 69, .int v2, .int (J (69 + 1) v2.toNatClampNeg).toInt32]) (S' := []) (σ' := (97, I, J, R)) rfl (fun _ => ?_) (fun hn => absurd (by decide) hn)
          obtain ⟨x, hx, rfl⟩ := Option.map_eq_some_iff.mp h
          exact az_E.forget (L := [.retAddr 0, .retAddr 0, .int v2, .retAddr 0]) ⟨trivial, trivial, rfl, trivial, trivial⟩ (re_X_firstWrongTwo_53_69_5 (I := I) (J := J) (R := R) hR_26_3 hx hQ)
        · rw [if_neg hc_5] at h
          refine az_E.sn 2 (pc' := 7) (L' := [.int (J (69 + 1) v2.toNatClampNeg).toInt32, .int (0 : Int32), .int ((I 4 3) - (1 : Int32))]) (S' := [.int ((I 4 3) - (1 : Int32)), .int (J (69 + 1) v2.toNatClampNeg).toInt32]) (σ' := (97, I, J, R)) rfl ?_
          refine az_E.br (c := ((I 4 3) - (1 : Int32)) < (J (69 + 1) v2.toNatClampNeg).toInt32) (tt := 14) (ff := 10) (L' := [.int (J (69 + 1) v2.toNatClampNeg).toInt32, .int (0 : Int32), .int ((I 4 3) - (1 : Int32))]) (S' := []) (σ' := (97, I, J, R)) rfl (fun hc_6 => ?_) (fun hc_6 => ?_)
          · rw [if_pos hc_6] at h
            refine az_E.sn 1 (pc' := 15) (L' := [.int (J (69 + 1) v2.toNatClampNeg).toInt32, .int (0 : Int32), .int ((I 4 3) - (1 : Int32))]) (S' := [.int (0 : Int32)]) (σ' := (97, I, J, R)) rfl ?_
            refine az_E.ret (v := some (.int (0 : Int32))) (σ' := (97, I, J, R)) rfl ?_
            show az_E az_F ex 5 151 50 [.ref 3, .ref 69, .int v2, .int (J (69 + 1) v2.toNatClampNeg).toInt32] [.int (0 : Int32)] (97, I, J, R) _
            refine az_E.br (c := (0 : Int32) = 0) (tt := 53) (ff := 57) (L' := [.ref 3, .ref 69, .int v2, .int (J (69 + 1) v2.toNatClampNeg).toInt32]) (S' := []) (σ' := (97, I, J, R)) rfl (fun _ => ?_) (fun hn => absurd (by decide) hn)
            obtain ⟨x, hx, rfl⟩ := Option.map_eq_some_iff.mp h
            exact az_E.forget (L := [.retAddr 0, .retAddr 0, .int v2, .retAddr 0]) ⟨trivial, trivial, rfl, trivial, trivial⟩ (re_X_firstWrongTwo_53_69_5 (I := I) (J := J) (R := R) hR_26_3 hx hQ)
          · rw [if_neg hc_6] at h
            refine az_E.sn 2 (pc' := 15) (L' := [.int (J (69 + 1) v2.toNatClampNeg).toInt32, .int (0 : Int32), .int ((I 4 3) - (1 : Int32))]) (S' := [.int (1 : Int32)]) (σ' := (97, I, J, R)) rfl ?_
            refine az_E.ret (v := some (.int (1 : Int32))) (σ' := (97, I, J, R)) rfl ?_
            show az_E az_F ex 5 151 50 [.ref 3, .ref 69, .int v2, .int (J (69 + 1) v2.toNatClampNeg).toInt32] [.int (1 : Int32)] (97, I, J, R) _
            refine az_E.br (c := (1 : Int32) = 0) (tt := 53) (ff := 57) (L' := [.ref 3, .ref 69, .int v2, .int (J (69 + 1) v2.toNatClampNeg).toInt32]) (S' := []) (σ' := (97, I, J, R)) rfl (fun hn => absurd hn (by decide)) (fun _ => ?_)
            refine az_E.sn 3 (pc' := 62) (L' := [.ref 3, .ref 69, .int v2, .int (J (69 + 1) v2.toNatClampNeg).toInt32]) (S' := [.int (J (69 + 1) v2.toNatClampNeg).toInt32, .ref 59]) (σ' := (97, I, J, R)) rfl ?_
            by_cases hc_7 : (J (69 + 1) v2.toNatClampNeg).toInt32 < 0 ∨ 8 ≤ (J (69 + 1) v2.toNatClampNeg).toInt32.toNatClampNeg
            · rw [if_pos hc_7] at h; cases h
            · rw [if_neg hc_7] at h
              refine az_E.oi (o := az_ai az_F ex (97, I, J, R) 59 (J (69 + 1) v2.toNatClampNeg).toInt32) (pc' := 63) (L' := [.ref 3, .ref 69, .int v2, .int (J (69 + 1) v2.toNatClampNeg).toInt32]) (S' := []) (σ' := (97, I, J, R)) (x := (I 59 (J (69 + 1) v2.toNatClampNeg).toInt32.toNatClampNeg)) rfl (if_neg hc_7) ?_
              refine az_E.br (c := 0 ≤ (I 59 (J (69 + 1) v2.toNatClampNeg).toInt32.toNatClampNeg)) (tt := 77) (ff := 66) (L' := [.ref 3, .ref 69, .int v2, .int (J (69 + 1) v2.toNatClampNeg).toInt32]) (S' := []) (σ' := (97, I, J, R)) rfl (fun hc_8 => ?_) (fun hc_8 => ?_)
              · rw [if_pos hc_8] at h
                exact az_E.forget (L := [.ref 3, .ref 69, .int v2, .int (J (69 + 1) v2.toNatClampNeg).toInt32]) ⟨rfl, rfl, rfl, rfl, trivial⟩ (re_X_firstWrongTwo_77_69_5 (I := I) (J := J) (R := R) hR_26_3 h hQ)
              · rw [if_neg hc_8] at h
                refine az_E.sn 5 (pc' := 73) (L' := [.ref 3, .ref 69, .int v2, .int (J (69 + 1) v2.toNatClampNeg).toInt32]) (S' := [.int (J (69 + 1) v2.toNatClampNeg).toInt32, .ref 3, .int (J (69 + 1) v2.toNatClampNeg).toInt32, .ref 59]) (σ' := (97, I, J, R)) rfl ?_
                cases hx_15 : rs_X_armAt I (J (69 + 1) v2.toNatClampNeg).toInt32 with
                | none => rw [hx_15] at h; cases h
                | some o =>
                  rw [hx_15] at h
                  obtain ⟨x_13, I_14⟩ := o
                  dsimp only at h
                  refine az_E.call (d := 4) (k' := 146) (vs := [.ref 3, .int (J (69 + 1) v2.toNatClampNeg).toInt32]) (pc' := 76) (S' := [.int (J (69 + 1) v2.toNatClampNeg).toInt32, .ref 59]) (Q1 := fun v s => v = some (.int x_13) ∧ s = (97, I_14, J, R)) rfl (az_E.deep (by omega) (re_X_armAt_5 (J := J) (R := R) hR_26_3 hx_15 ⟨rfl, rfl⟩)) (fun v s hq => ?_)
                  obtain ⟨rfl, rfl⟩ := hq
                  show az_E az_F ex 5 151 76 [.ref 3, .ref 69, .int v2, .int (J (69 + 1) v2.toNatClampNeg).toInt32] [.int x_13, .int (J (69 + 1) v2.toNatClampNeg).toInt32, .ref 59] (97, I_14, J, R) _
                  by_cases hc_16 : (J (69 + 1) v2.toNatClampNeg).toInt32 < 0 ∨ 8 ≤ (J (69 + 1) v2.toNatClampNeg).toInt32.toNatClampNeg
                  · rw [if_pos hc_16] at h; cases h
                  · rw [if_neg hc_16] at h
                    refine az_E.o (o := az_si az_F (97, I_14, J, R) 59 (J (69 + 1) v2.toNatClampNeg).toInt32 x_13) (pc' := 77) (L' := [.ref 3, .ref 69, .int v2, .int (J (69 + 1) v2.toNatClampNeg).toInt32]) (S' := []) (x := (97, (az_u I_14 59 (J (69 + 1) v2.toNatClampNeg).toInt32.toNatClampNeg x_13), J, R)) rfl (if_neg hc_16) ?_
                    exact az_E.forget (L := [.ref 3, .ref 69, .int v2, .int (J (69 + 1) v2.toNatClampNeg).toInt32]) ⟨rfl, rfl, rfl, rfl, trivial⟩ (re_X_firstWrongTwo_77_69_5 (I := (az_u I_14 59 (J (69 + 1) v2.toNatClampNeg).toInt32.toNatClampNeg x_13)) (J := J) (R := R) hR_26_3 h hQ)
set_option maxRecDepth 100000 in
set_option maxHeartbeats 4000000 in
theorem re_X_firstWrongTwo_10_69_5 {ex : az_X} {I : Nat → Nat → Int32} {J : Nat → Nat → Int64} {R : Nat → Nat → Option Nat} {v2 : Int32} (hR_26_3 : R 26 3 = some 5) {x : Int32 × (Nat → Nat → Int32)} (h : rs_X_firstWrongTwo_10 69 I J v2 = some x) {Q : Option Value → az_S → Prop} (hQ : Q (some (.int x.1)) (97, x.2, J, R)) : az_E az_F ex 5 151 10 [.ref 3, .ref 69, .int v2, .retAddr 0] [] (97, I, J, R) Q := by
  unfold rs_X_firstWrongTwo_10 at h
  refine az_lp_E (G := fun s => az_E az_F ex 5 151 10 [.ref 3, .ref 69, .int s.1, .retAddr 0] [] (97, s.2, J, R) Q) (H := fun x => Q (some (.int x.1)) (97, x.2, J, R)) (fun s o hb ho => ?_) _ _ _ h hQ
  exact re_X_firstWrongTwo_10_b_69_5 hR_26_3 hb ho
set_option maxRecDepth 100000 in
set_option maxHeartbeats 4000000 in
theorem re_X_firstWrongTwo_69_5 {ex : az_X} {I : Nat → Nat → Int32} {J : Nat → Nat → Int64} {R : Nat → Nat → Option Nat} (hR_26_3 : R 26 3 = some 5) {o : Int32 × (Nat → Nat → Int32)} (h : rs_X_firstWrongTwo 69 I J = some o) {Q : Option Value → az_S → Prop} (hQ : Q (some (.int o.1)) (97, o.2, J, R)) : az_E az_F ex 5 151 0 [.ref 3, .ref 69, .retAddr 0, .retAddr 0] [] (97, I, J, R) Q := by
  unfold rs_X_firstWrongTwo at h
  refine az_E.sn 3 (pc' := 5) (L' := [.ref 3, .ref 69, .retAddr 0, .retAddr 0]) (S' := [.int (-1 : Int32), .ref 59]) (σ' := (97, I, J, R)) rfl ?_
  refine az_E.call (d := 4) (k' := 257) (vs := [.ref 59, .int (-1 : Int32)]) (pc' := 8) (S' := []) (Q1 := fun v s => v = none ∧ s = (97, (az_ur I 59 (az_fill 8 (-1 : Int32) (I 59))), J, R)) rfl (az_E.deep (by omega) (re_fillI (r := 59) rfl ⟨rfl, rfl⟩)) (fun v s hq => ?_)
  obtain ⟨rfl, rfl⟩ := hq
  show az_E az_F ex 5 151 8 [.ref 3, .ref 69, .retAddr 0, .retAddr 0] [] (97, (az_ur I 59 (az_fill 8 (-1 : Int32) (I 59))), J, R) _
  refine az_E.sn 2 (pc' := 10) (L' := [.ref 3, .ref 69, .int (0 : Int32), .retAddr 0]) (S' := []) (σ' := (97, (az_ur I 59 (az_fill 8 (-1 : Int32) (I 59))), J, R)) rfl ?_
  exact az_E.forget (L := [.ref 3, .ref 69, .int (0 : Int32), .retAddr 0]) ⟨rfl, rfl, rfl, trivial, trivial⟩ (re_X_firstWrongTwo_10_69_5 (I := (az_ur I 59 (az_fill 8 (-1 : Int32) (I 59)))) (J := J) (R := R) hR_26_3 h hQ)
set_option maxRecDepth 100000 in
set_option maxHeartbeats 4000000 in
theorem re_X_firstWrongTwo_53_71_5 {ex : az_X} {I : Nat → Nat → Int32} {J : Nat → Nat → Int64} {R : Nat → Nat → Option Nat} {v2 : Int32} (hR_26_3 : R 26 3 = some 5) {x : Int32 × (Nat → Nat → Int32)} (h : rs_X_firstWrongTwo_53 71 I J v2 = some x) {Q : Option Value → az_S → Prop} (hQ : Q (some (.int x.1)) (97, x.2, J, R)) : az_E az_F ex 5 151 53 [.retAddr 0, .retAddr 0, .int v2, .retAddr 0] [] (97, I, J, R) Q := by
  unfold rs_X_firstWrongTwo_53 at h
  refine az_E.sn 2 (pc' := 55) (L' := [.retAddr 0, .retAddr 0, .int v2, .retAddr 0]) (S' := [.int (2 : Int32), .int v2]) (σ' := (97, I, J, R)) rfl ?_
  have hd_4 : ¬ ((2 : Int32) = 0) := by decide
  refine az_E.dv (c := (2 : Int32) = 0) (pc' := 56) (L' := [.retAddr 0, .retAddr 0, .int v2, .retAddr 0]) (S' := [.int (v2 / (2 : Int32))]) (σ' := (97, I, J, R)) rfl hd_4 ?_
  have h := Option.some.inj h
  subst h
  exact az_E.ret (v := some (.int (v2 / (2 : Int32)))) (σ' := (97, I, J, R)) rfl hQ
set_option maxRecDepth 100000 in
set_option maxHeartbeats 4000000 in
theorem re_X_firstWrongTwo_96_71_5 {ex : az_X} {I : Nat → Nat → Int32} {J : Nat → Nat → Int64} {R : Nat → Nat → Option Nat} {v2 : Int32} (hR_26_3 : R 26 3 = some 5) {x : Int32 × (Nat → Nat → Int32)} (h : rs_X_firstWrongTwo_96 71 I J v2 = some x) {Q : Option Value → az_S → Prop} (hQ : Q (some (.int x.1)) (97, x.2, J, R)) : az_E az_F ex 5 151 96 [.retAddr 0, .retAddr 0, .int v2, .retAddr 0] [] (97, I, J, R) Q := by
  unfold rs_X_firstWrongTwo_96 at h
  refine az_E.sn 2 (pc' := 98) (L' := [.retAddr 0, .retAddr 0, .int v2, .retAddr 0]) (S' := [.int (2 : Int32), .int v2]) (σ' := (97, I, J, R)) rfl ?_
  have hd_12 : ¬ ((2 : Int32) = 0) := by decide
  refine az_E.dv (c := (2 : Int32) = 0) (pc' := 99) (L' := [.retAddr 0, .retAddr 0, .int v2, .retAddr 0]) (S' := [.int (v2 / (2 : Int32))]) (σ' := (97, I, J, R)) rfl hd_12 ?_
  have h := Option.some.inj h
  subst h
  exact az_E.ret (v := some (.int (v2 / (2 : Int32)))) (σ' := (97, I, J, R)) rfl hQ
set_option maxRecDepth 100000 in
set_option maxHeartbeats 4000000 in
theorem re_X_firstWrongTwo_77_71_5 {ex : az_X} {I : Nat → Nat → Int32} {J : Nat → Nat → Int64} {R : Nat → Nat → Option Nat} {v2 : Int32} {v3 : Int32} (hR_26_3 : R 26 3 = some 5) {x : ((Int32 × (Nat → Nat → Int32)) ⊕ (Int32 × (Nat → Nat → Int32)))} (h : rs_X_firstWrongTwo_77 71 I J v2 v3 = some x) {Q : Option Value → az_S → Prop} (hQ : Sum.elim (fun s => az_E az_F ex 5 151 10 [.ref 3, .ref 71, .int s.1, .retAddr 0] [] (97, s.2, J, R) Q) (fun x => Q (some (.int x.1)) (97, x.2, J, R)) x) : az_E az_F ex 5 151 77 [.ref 3, .ref 71, .int v2, .int v3] [] (97, I, J, R) Q := by
  unfold rs_X_firstWrongTwo_77 at h
  refine az_E.sn 3 (pc' := 82) (L' := [.ref 3, .ref 71, .int v2, .int v3]) (S' := [.int v3, .ref 59]) (σ' := (97, I, J, R)) rfl ?_
  by_cases hc_9 : v3 < 0 ∨ 8 ≤ v3.toNatClampNeg
  · rw [if_pos hc_9] at h; cases h
  · rw [if_neg hc_9] at h
    refine az_E.oi (o := az_ai az_F ex (97, I, J, R) 59 v3) (pc' := 83) (L' := [.ref 3, .ref 71, .int v2, .int v3]) (S' := []) (σ' := (97, I, J, R)) (x := (I 59 v3.toNatClampNeg)) rfl (if_neg hc_9) ?_
    refine az_E.sn 6 (pc' := 91) (L' := [.ref 3, .ref 71, .int v2, .int v3]) (S' := [.int (v2 + (1 : Int32)), .ref (71 + 1), .long (I 59 v3.toNatClampNeg).toInt64]) (σ' := (97, I, J, R)) rfl ?_
    by_cases hc_10 : (v2 + (1 : Int32)) < 0 ∨ 60 ≤ (v2 + (1 : Int32)).toNatClampNeg
    · rw [if_pos hc_10] at h; cases h
    · rw [if_neg hc_10] at h
      refine az_E.ol (o := az_al az_F (97, I, J, R) (71 + 1) (v2 + (1 : Int32))) (pc' := 92) (L' := [.ref 3, .ref 71, .int v2, .int v3]) (S' := [.long (I 59 v3.toNatClampNeg).toInt64]) (σ' := (97, I, J, R)) (x := (J (71 + 1) (v2 + (1 : Int32)).toNatClampNeg)) rfl (if_neg hc_10) ?_
      refine az_E.sn 1 (pc' := 93) (L' := [.ref 3, .ref 71, .int v2, .int v3]) (S' := [.int (lg_cmp (I 59 v3.toNatClampNeg).toInt64 (J (71 + 1) (v2 + (1 : Int32)).toNatClampNeg))]) (σ' := (97, I, J, R)) rfl ?_
      refine az_E.br (c := (lg_cmp (I 59 v3.toNatClampNeg).toInt64 (J (71 + 1) (v2 + (1 : Int32)).toNatClampNeg)) = 0) (tt := 100) (ff := 96) (L' := [.ref 3, .ref 71, .int v2, .int v3]) (S' := []) (σ' := (97, I, J, R)) rfl (fun hc_11 => ?_) (fun hc_11 => ?_)
      · rw [if_pos hc_11] at h
        refine az_E.sn 2 (pc' := 10) (L' := [.ref 3, .ref 71, .int (v2 + (2 : Int32)), .int v3]) (S' := []) (σ' := (97, I, J, R)) rfl ?_
        have h := Option.some.inj h
        subst h
        exact az_E.forget (L := [.ref 3, .ref 71, .int (v2 + (2 : Int32)), .retAddr 0]) ⟨rfl, rfl, rfl, trivial, trivial⟩ hQ
      · rw [if_neg hc_11] at h
        obtain ⟨x, hx, rfl⟩ := Option.map_eq_some_iff.mp h
        exact az_E.forget (L := [.retAddr 0, .retAddr 0, .int v2, .retAddr 0]) ⟨trivial, trivial, rfl, trivial, trivial⟩ (re_X_firstWrongTwo_96_71_5 (I := I) (J := J) (R := R) hR_26_3 hx hQ)
set_option maxRecDepth 100000 in
set_option maxHeartbeats 4000000 in
theorem re_X_firstWrongTwo_10_b_71_5 {ex : az_X} {I : Nat → Nat → Int32} {J : Nat → Nat → Int64} {R : Nat → Nat → Option Nat} {v2 : Int32} (hR_26_3 : R 26 3 = some 5) {x : ((Int32 × (Nat → Nat → Int32)) ⊕ (Int32 × (Nat → Nat → Int32)))} (h : rs_X_firstWrongTwo_10_b 71 J v2 I = some x) {Q : Option Value → az_S → Prop} (hQ : Sum.elim (fun s => az_E az_F ex 5 151 10 [.ref 3, .ref 71, .int s.1, .retAddr 0] [] (97, s.2, J, R) Q) (fun x => Q (some (.int x.1)) (97, x.2, J, R)) x) : az_E az_F ex 5 151 10 [.ref 3, .ref 71, .int v2, .retAddr 0] [] (97, I, J, R) Q := by
  unfold rs_X_firstWrongTwo_10_b at h
  refine az_E.sn 3 (pc' := 15) (L' := [.ref 3, .ref 71, .int v2, .retAddr 0]) (S' := [.int (I 71 2), .int v2]) (σ' := (97, I, J, R)) rfl ?_
  refine az_E.br (c := (I 71 2) ≤ v2) (tt := 106) (ff := 18) (L' := [.ref 3, .ref 71, .int v2, .retAddr 0]) (S' := []) (σ' := (97, I, J, R)) rfl (fun hc_1 => ?_) (fun hc_1 => ?_)
  · rw [if_pos hc_1] at h
    refine az_E.sn 1 (pc' := 108) (L' := [.ref 3, .ref 71, .int v2, .retAddr 0]) (S' := [.int (-2 : Int32)]) (σ' := (97, I, J, R)) rfl ?_
    have h := Option.some.inj h
    subst h
    exact az_E.ret (v := some (.int (-2 : Int32))) (σ' := (97, I, J, R)) rfl hQ
  · rw [if_neg hc_1] at h
    refine az_E.sn 3 (pc' := 23) (L' := [.ref 3, .ref 71, .int v2, .retAddr 0]) (S' := [.int v2, .ref (71 + 1)]) (σ' := (97, I, J, R)) rfl ?_
    by_cases hc_2 : v2 < 0 ∨ 60 ≤ v2.toNatClampNeg
    · rw [if_pos hc_2] at h; cases h
    · rw [if_neg hc_2] at h
      refine az_E.ol (o := az_al az_F (97, I, J, R) (71 + 1) v2) (pc' := 24) (L' := [.ref 3, .ref 71, .int v2, .retAddr 0]) (S' := []) (σ' := (97, I, J, R)) (x := (J (71 + 1) v2.toNatClampNeg)) rfl (if_neg hc_2) ?_
      refine az_E.sn 7 (pc' := 33) (L' := [.ref 3, .ref 71, .int v2, .int (J (71 + 1) v2.toNatClampNeg).toInt32]) (S' := [.int (I 71 2), .int (v2 + (1 : Int32))]) (σ' := (97, I, J, R)) rfl ?_
      refine az_E.br (c := (I 71 2) ≤ (v2 + (1 : Int32))) (tt := 53) (ff := 36) (L' := [.ref 3, .ref 71, .int v2, .int (J (71 + 1) v2.toNatClampNeg).toInt32]) (S' := []) (σ' := (97, I, J, R)) rfl (fun hc_3 => ?_) (fun hc_3 => ?_)
      · rw [if_pos hc_3] at h
        obtain ⟨x, hx, rfl⟩ := Option.map_eq_some_iff.mp h
        exact az_E.forget (L := [.retAddr 0, .retAddr 0, .int v2, .retAddr 0]) ⟨trivial, trivial, rfl, trivial, trivial⟩ (re_X_firstWrongTwo_53_71_5 (I := I) (J := J) (R := R) hR_26_3 hx hQ)
      · rw [if_neg hc_3] at h
        refine az_E.sn 7 (pc' := 47) (L' := [.ref 3, .ref 71, .int v2, .int (J (71 + 1) v2.toNatClampNeg).toInt32]) (S' := [.int ((I 4 3) - (1 : Int32)), .int (0 : Int32), .int (J (71 + 1) v2.toNatClampNeg).toInt32]) (σ' := (97, I, J, R)) rfl ?_
        refine az_E.call (d := 4) (k' := 131) (vs := [.int (J (71 + 1) v2.toNatClampNeg).toInt32, .int (0 : Int32), .int ((I 4 3) - (1 : Int32))]) (pc' := 50) (S' := []) rfl ?_ (fun _ _ hq => hq)
        show az_E az_F ex 4 131 0 [.int (J (71 + 1) v2.toNatClampNeg).toInt32, .int (0 : Int32), .int ((I 4 3) - (1 : Int32))] [] (97, I, J, R) _
        refine az_E.sn 2 (pc' := 2) (L' := [.int (J (71 + 1) v2.toNatClampNeg).toInt32, .int (0 : Int32), .int ((I 4 3) - (1 : Int32))]) (S' := [.int (0 : Int32), .int (J (71 + 1) v2.toNatClampNeg).toInt32]) (σ' := (97, I, J, R)) rfl ?_
        refine az_E.br (c := (J (71 + 1) v2.toNatClampNeg).toInt32 < (0 : Int32)) (tt := 14) (ff := 5) (L' := [.int (J (71 + 1) v2.toNatClampNeg).toInt32, .int (0 : Int32), .int ((I 4 3) - (1 : Int32))]) (S' := []) (σ' := (97, I, J, R)) rfl (fun hc_5 => ?_) (fun hc_5 => ?_)
        · rw [if_pos hc_5] at h
          refine az_E.sn 1 (pc' := 15) (L' := [.int (J (71 + 1) v2.toNatClampNeg).toInt32, .int (0 : Int32), .int ((I 4 3) - (1 : Int32))]) (S' := [.int (0 : Int32)]) (σ' := (97, I, J, R)) rfl ?_
          refine az_E.ret (v := some (.int (0 : Int32))) (σ' := (97, I, J, R)) rfl ?_
          show az_E az_F ex 5 151 50 [.ref 3, .ref 71, .int v2, .int (J (71 + 1) v2.toNatClampNeg).toInt32] [.int (0 : Int32)] (97, I, J, R) _
          refine az_E.br (c := (0 : Int32) = 0) (tt := 53) (ff := 57) (L' := [.ref 3, .ref 71, .int v2, .int (J (71 + 1) v2.toNatClampNeg).toInt32]) (S' := []) (σ' := (97, I, J, R)) rfl (fun _ => ?_) (fun hn => absurd (by decide) hn)
          obtain ⟨x, hx, rfl⟩ := Option.map_eq_some_iff.mp h
          exact az_E.forget (L := [.retAddr 0, .retAddr 0, .int v2, .retAddr 0]) ⟨trivial, trivial, rfl, trivial, trivial⟩ (re_X_firstWrongTwo_53_71_5 (I := I) (J := J) (R := R) hR_26_3 hx hQ)
        · rw [if_neg hc_5] at h
          refine az_E.sn 2 (pc' := 7) (L' := [.int (J (71 + 1) v2.toNatClampNeg).toInt32, .int (0 : Int32), .int ((I 4 3) - (1 : Int32))]) (S' := [.int ((I 4 3) - (1 : Int32)), .int (J (71 + 1) v2.toNatClampNeg).toInt32]) (σ' := (97, I, J, R)) rfl ?_
          refine az_E.br (c := ((I 4 3) - (1 : Int32)) < (J (71 + 1) v2.toNatClampNeg).toInt32) (tt := 14) (ff := 10) (L' := [.int (J (71 + 1) v2.toNatClampNeg).toInt32, .int (0 : Int32), .int ((I 4 3) - (1 : Int32))]) (S' := []) (σ' := (97, I, J, R)) rfl (fun hc_6 => ?_) (fun hc_6 => ?_)
          · rw [if_pos hc_6] at h
            refine az_E.sn 1 (pc' := 15) (L' := [.int (J (71 + 1) v2.toNatClampNeg).toInt32, .int (0 : Int32), .int ((I 4 3) - (1 : Int32))]) (S' := [.int (0 : Int32)]) (σ' := (97, I, J, R)) rfl ?_
            refine az_E.ret (v := some (.int (0 : Int32))) (σ' := (97, I, J, R)) rfl ?_
            show az_E az_F ex 5 151 50 [.ref 3, .ref 71, .int v2, .int (J (71 + 1) v2.toNatClampNeg).toInt32] [.int (0 : Int32)] (97, I, J, R) _
            refine az_E.br (c := (0 : Int32) = 0) (tt := 53) (ff := 57) (L' := [.ref 3, .ref 71, .int v2, .int (J (71 + 1) v2.toNatClampNeg).toInt32]) (S' := []) (σ' := (97, I, J, R)) rfl (fun _ => ?_) (fun hn => absurd (by decide) hn)
            obtain ⟨x, hx, rfl⟩ := Option.map_eq_some_iff.mp h
            exact az_E.forget (L := [.retAddr 0, .retAddr 0, .int v2, .retAddr 0]) ⟨trivial, trivial, rfl, trivial, trivial⟩ (re_X_firstWrongTwo_53_71_5 (I := I) (J := J) (R := R) hR_26_3 hx hQ)
          · rw [if_neg hc_6] at h
            refine az_E.sn 2 (pc' := 15) (L' := [.int (J (71 + 1) v2.toNatClampNeg).toInt32, .int (0 : Int32), .int ((I 4 3) - (1 : Int32))]) (S' := [.int (1 : Int32)]) (σ' := (97, I, J, R)) rfl ?_
            refine az_E.ret (v := some (.int (1 : Int32))) (σ' := (97, I, J, R)) rfl ?_
            show az_E az_F ex 5 151 50 [.ref 3, .ref 71, .int v2, .int (J (71 + 1) v2.toNatClampNeg).toInt32] [.int (1 : Int32)] (97, I, J, R) _
            refine az_E.br (c := (1 : Int32) = 0) (tt := 53) (ff := 57) (L' := [.ref 3, .ref 71, .int v2, .int (J (71 + 1) v2.toNatClampNeg).toInt32]) (S' := []) (σ' := (97, I, J, R)) rfl (fun hn => absurd hn (by decide)) (fun _ => ?_)
            refine az_E.sn 3 (pc' := 62) (L' := [.ref 3, .ref 71, .int v2, .int (J (71 + 1) v2.toNatClampNeg).toInt32]) (S' := [.int (J (71 + 1) v2.toNatClampNeg).toInt32, .ref 59]) (σ' := (97, I, J, R)) rfl ?_
            by_cases hc_7 : (J (71 + 1) v2.toNatClampNeg).toInt32 < 0 ∨ 8 ≤ (J (71 + 1) v2.toNatClampNeg).toInt32.toNatClampNeg
            · rw [if_pos hc_7] at h; cases h
            · rw [if_neg hc_7] at h
              refine az_E.oi (o := az_ai az_F ex (97, I, J, R) 59 (J (71 + 1) v2.toNatClampNeg).toInt32) (pc' := 63) (L' := [.ref 3, .ref 71, .int v2, .int (J (71 + 1) v2.toNatClampNeg).toInt32]) (S' := []) (σ' := (97, I, J, R)) (x := (I 59 (J (71 + 1) v2.toNatClampNeg).toInt32.toNatClampNeg)) rfl (if_neg hc_7) ?_
              refine az_E.br (c := 0 ≤ (I 59 (J (71 + 1) v2.toNatClampNeg).toInt32.toNatClampNeg)) (tt := 77) (ff := 66) (L' := [.ref 3, .ref 71, .int v2, .int (J (71 + 1) v2.toNatClampNeg).toInt32]) (S' := []) (σ' := (97, I, J, R)) rfl (fun hc_8 => ?_) (fun hc_8 => ?_)
              · rw [if_pos hc_8] at h
                exact az_E.forget (L := [.ref 3, .ref 71, .int v2, .int (J (71 + 1) v2.toNatClampNeg).toInt32]) ⟨rfl, rfl, rfl, rfl, trivial⟩ (re_X_firstWrongTwo_77_71_5 (I := I) (J := J) (R := R) hR_26_3 h hQ)
              · rw [if_neg hc_8] at h
                refine az_E.sn 5 (pc' := 73) (L' := [.ref 3, .ref 71, .int v2, .int (J (71 + 1) v2.toNatClampNeg).toInt32]) (S' := [.int (J (71 + 1) v2.toNatClampNeg).toInt32, .ref 3, .int (J (71 + 1) v2.toNatClampNeg).toInt32, .ref 59]) (σ' := (97, I, J, R)) rfl ?_
                cases hx_15 : rs_X_armAt I (J (71 + 1) v2.toNatClampNeg).toInt32 with
                | none => rw [hx_15] at h; cases h
                | some o =>
                  rw [hx_15] at h
                  obtain ⟨x_13, I_14⟩ := o
                  dsimp only at h
                  refine az_E.call (d := 4) (k' := 146) (vs := [.ref 3, .int (J (71 + 1) v2.toNatClampNeg).toInt32]) (pc' := 76) (S' := [.int (J (71 + 1) v2.toNatClampNeg).toInt32, .ref 59]) (Q1 := fun v s => v = some (.int x_13) ∧ s = (97, I_14, J, R)) rfl (az_E.deep (by omega) (re_X_armAt_5 (J := J) (R := R) hR_26_3 hx_15 ⟨rfl, rfl⟩)) (fun v s hq => ?_)
                  obtain ⟨rfl, rfl⟩ := hq
                  show az_E az_F ex 5 151 76 [.ref 3, .ref 71, .int v2, .int (J (71 + 1) v2.toNatClampNeg).toInt32] [.int x_13, .int (J (71 + 1) v2.toNatClampNeg).toInt32, .ref 59] (97, I_14, J, R) _
                  by_cases hc_16 : (J (71 + 1) v2.toNatClampNeg).toInt32 < 0 ∨ 8 ≤ (J (71 + 1) v2.toNatClampNeg).toInt32.toNatClampNeg
                  · rw [if_pos hc_16] at h; cases h
                  · rw [if_neg hc_16] at h
                    refine az_E.o (o := az_si az_F (97, I_14, J, R) 59 (J (71 + 1) v2.toNatClampNeg).toInt32 x_13) (pc' := 77) (L' := [.ref 3, .ref 71, .int v2, .int (J (71 + 1) v2.toNatClampNeg).toInt32]) (S' := []) (x := (97, (az_u I_14 59 (J (71 + 1) v2.toNatClampNeg).toInt32.toNatClampNeg x_13), J, R)) rfl (if_neg hc_16) ?_
                    exact az_E.forget (L := [.ref 3, .ref 71, .int v2, .int (J (71 + 1) v2.toNatClampNeg).toInt32]) ⟨rfl, rfl, rfl, rfl, trivial⟩ (re_X_firstWrongTwo_77_71_5 (I := (az_u I_14 59 (J (71 + 1) v2.toNatClampNeg).toInt32.toNatClampNeg x_13)) (J := J) (R := R) hR_26_3 h hQ)
set_option maxRecDepth 100000 in
set_option maxHeartbeats 4000000 in
theorem re_X_firstWrongTwo_10_71_5 {ex : az_X} {I : Nat → Nat → Int32} {J : Nat → Nat → Int64} {R : Nat → Nat → Option Nat} {v2 : Int32} (hR_26_3 : R 26 3 = some 5) {x : Int32 × (Nat → Nat → Int32)} (h : rs_X_firstWrongTwo_10 71 I J v2 = some x) {Q : Option Value → az_S → Prop} (hQ : Q (some (.int x.1)) (97, x.2, J, R)) : az_E az_F ex 5 151 10 [.ref 3, .ref 71, .int v2, .retAddr 0] [] (97, I, J, R) Q := by
  unfold rs_X_firstWrongTwo_10 at h
  refine az_lp_E (G := fun s => az_E az_F ex 5 151 10 [.ref 3, .ref 71, .int s.1, .retAddr 0] [] (97, s.2, J, R) Q) (H := fun x => Q (some (.int x.1)) (97, x.2, J, R)) (fun s o hb ho => ?_) _ _ _ h hQ
  exact re_X_firstWrongTwo_10_b_71_5 hR_26_3 hb ho
set_option maxRecDepth 100000 in
set_option maxHeartbeats 4000000 in
theorem re_X_firstWrongTwo_71_5 {ex : az_X} {I : Nat → Nat → Int32} {J : Nat → Nat → Int64} {R : Nat → Nat → Option Nat} (hR_26_3 : R 26 3 = some 5) {o : Int32 × (Nat → Nat → Int32)} (h : rs_X_firstWrongTwo 71 I J = some o) {Q : Option Value → az_S → Prop} (hQ : Q (some (.int o.1)) (97, o.2, J, R)) : az_E az_F ex 5 151 0 [.ref 3, .ref 71, .retAddr 0, .retAddr 0] [] (97, I, J, R) Q := by
  unfold rs_X_firstWrongTwo at h
  refine az_E.sn 3 (pc' := 5) (L' := [.ref 3, .ref 71, .retAddr 0, .retAddr 0]) (S' := [.int (-1 : Int32), .ref 59]) (σ' := (97, I, J, R)) rfl ?_
  refine az_E.call (d := 4) (k' := 257) (vs := [.ref 59, .int (-1 : Int32)]) (pc' := 8) (S' := []) (Q1 := fun v s => v = none ∧ s = (97, (az_ur I 59 (az_fill 8 (-1 : Int32) (I 59))), J, R)) rfl (az_E.deep (by omega) (re_fillI (r := 59) rfl ⟨rfl, rfl⟩)) (fun v s hq => ?_)
  obtain ⟨rfl, rfl⟩ := hq
  show az_E az_F ex 5 151 8 [.ref 3, .ref 71, .retAddr 0, .retAddr 0] [] (97, (az_ur I 59 (az_fill 8 (-1 : Int32) (I 59))), J, R) _
  refine az_E.sn 2 (pc' := 10) (L' := [.ref 3, .ref 71, .int (0 : Int32), .retAddr 0]) (S' := []) (σ' := (97, (az_ur I 59 (az_fill 8 (-1 : Int32) (I 59))), J, R)) rfl ?_
  exact az_E.forget (L := [.ref 3, .ref 71, .int (0 : Int32), .retAddr 0]) ⟨rfl, rfl, rfl, trivial, trivial⟩ (re_X_firstWrongTwo_10_71_5 (I := (az_ur I 59 (az_fill 8 (-1 : Int32) (I 59)))) (J := J) (R := R) hR_26_3 h hQ)
set_option maxRecDepth 100000 in
set_option maxHeartbeats 4000000 in
theorem re_X_judge_41_16_21_61 {ex : az_X} {I : Nat → Nat → Int32} {J : Nat → Nat → Int64} {R : Nat → Nat → Option Nat} (hR_3_2 : R 3 2 = some 16) (hR_3_3 : R 3 3 = some 21) {x : Int32 × (Nat → Nat → Int32)} (h : rs_X_judge_41 21 16 61 I J = some x) {Q : Option Value → az_S → Prop} (hQ : ∀ R' : Nat → Nat → Option Nat, R' 3 2 = some 16 → R' 3 3 = some 21 → Q (some (.int x.1)) (97, x.2, J, R')) : az_E az_F ex 6 106 41 [.retAddr 0, .retAddr 0, .retAddr 0, .retAddr 0] [.ref 61, .ref 3] (97, I, J, (az_u (az_u R 26 2 (some 16)) 26 3 (some 5))) Q := by
  unfold rs_X_judge_41 at h
  cases hx_13 : rs_X_firstWrongTwo 61 I J with
  | none => rw [hx_13] at h; cases h
  | some o =>
    rw [hx_13] at h
    obtain ⟨x_11, I_12⟩ := o
    dsimp only at h
    refine az_E.call (d := 5) (k' := 151) (vs := [.ref 3, .ref 61]) (pc' := 44) (S' := []) (Q1 := fun v s => v = some (.int x_11) ∧ s = (97, I_12, J, (az_u (az_u R 26 2 (some 16)) 26 3 (some 5)))) rfl (az_E.deep (by omega) (re_X_firstWrongTwo_61_5 (J := J) (R := (az_u (az_u R 26 2 (some 16)) 26 3 (some 5))) rfl hx_13 ⟨rfl, rfl⟩)) (fun v s hq => ?_)
    obtain ⟨rfl, rfl⟩ := hq
    show az_E az_F ex 6 106 44 [.retAddr 0, .retAddr 0, .retAddr 0, .retAddr 0] [.int x_11] (97, I_12, J, (az_u (az_u R 26 2 (some 16)) 26 3 (some 5))) _
    have h := Option.some.inj h
    subst h
    exact az_E.ret (v := some (.int x_11)) (σ' := (97, I_12, J, (az_u (az_u R 26 2 (some 16)) 26 3 (some 5)))) rfl (hQ _ hR_3_2 hR_3_3)
set_option maxRecDepth 100000 in
set_option maxHeartbeats 4000000 in
theorem re_X_judge_41_16_21_63 {ex : az_X} {I : Nat → Nat → Int32} {J : Nat → Nat → Int64} {R : Nat → Nat → Option Nat} (hR_3_2 : R 3 2 = some 16) (hR_3_3 : R 3 3 = some 21) {x : Int32 × (Nat → Nat → Int32)} (h : rs_X_judge_41 21 16 63 I J = some x) {Q : Option Value → az_S → Prop} (hQ : ∀ R' : Nat → Nat → Option Nat, R' 3 2 = some 16 → R' 3 3 = some 21 → Q (some (.int x.1)) (97, x.2, J, R')) : az_E az_F ex 6 106 41 [.retAddr 0, .retAddr 0, .retAddr 0, .retAddr 0] [.ref 63, .ref 3] (97, I, J, (az_u (az_u R 26 2 (some 16)) 26 3 (some 5))) Q := by
  unfold rs_X_judge_41 at h
  cases hx_16 : rs_X_firstWrongTwo 63 I J with
  | none => rw [hx_16] at h; cases h
  | some o =>
    rw [hx_16] at h
    obtain ⟨x_14, I_15⟩ := o
    dsimp only at h
    refine az_E.call (d := 5) (k' := 151) (vs := [.ref 3, .ref 63]) (pc' := 44) (S' := []) (Q1 := fun v s => v = some (.int x_14) ∧ s = (97, I_15, J, (az_u (az_u R 26 2 (some 16)) 26 3 (some 5)))) rfl (az_E.deep (by omega) (re_X_firstWrongTwo_63_5 (J := J) (R := (az_u (az_u R 26 2 (some 16)) 26 3 (some 5))) rfl hx_16 ⟨rfl, rfl⟩)) (fun v s hq => ?_)
    obtain ⟨rfl, rfl⟩ := hq
    show az_E az_F ex 6 106 44 [.retAddr 0, .retAddr 0, .retAddr 0, .retAddr 0] [.int x_14] (97, I_15, J, (az_u (az_u R 26 2 (some 16)) 26 3 (some 5))) _
    have h := Option.some.inj h
    subst h
    exact az_E.ret (v := some (.int x_14)) (σ' := (97, I_15, J, (az_u (az_u R 26 2 (some 16)) 26 3 (some 5)))) rfl (hQ _ hR_3_2 hR_3_3)
set_option maxRecDepth 100000 in
set_option maxHeartbeats 4000000 in
theorem re_X_judge_41_16_21_65 {ex : az_X} {I : Nat → Nat → Int32} {J : Nat → Nat → Int64} {R : Nat → Nat → Option Nat} (hR_3_2 : R 3 2 = some 16) (hR_3_3 : R 3 3 = some 21) {x : Int32 × (Nat → Nat → Int32)} (h : rs_X_judge_41 21 16 65 I J = some x) {Q : Option Value → az_S → Prop} (hQ : ∀ R' : Nat → Nat → Option Nat, R' 3 2 = some 16 → R' 3 3 = some 21 → Q (some (.int x.1)) (97, x.2, J, R')) : az_E az_F ex 6 106 41 [.retAddr 0, .retAddr 0, .retAddr 0, .retAddr 0] [.ref 65, .ref 3] (97, I, J, (az_u (az_u R 26 2 (some 16)) 26 3 (some 5))) Q := by
  unfold rs_X_judge_41 at h
  cases hx_19 : rs_X_firstWrongTwo 65 I J with
  | none => rw [hx_19] at h; cases h
  | some o =>
    rw [hx_19] at h
    obtain ⟨x_17, I_18⟩ := o
    dsimp only at h
    refine az_E.call (d := 5) (k' := 151) (vs := [.ref 3, .ref 65]) (pc' := 44) (S' := []) (Q1 := fun v s => v = some (.int x_17) ∧ s = (97, I_18, J, (az_u (az_u R 26 2 (some 16)) 26 3 (some 5)))) rfl (az_E.deep (by omega) (re_X_firstWrongTwo_65_5 (J := J) (R := (az_u (az_u R 26 2 (some 16)) 26 3 (some 5))) rfl hx_19 ⟨rfl, rfl⟩)) (fun v s hq => ?_)
    obtain ⟨rfl, rfl⟩ := hq
    show az_E az_F ex 6 106 44 [.retAddr 0, .retAddr 0, .retAddr 0, .retAddr 0] [.int x_17] (97, I_18, J, (az_u (az_u R 26 2 (some 16)) 26 3 (some 5))) _
    have h := Option.some.inj h
    subst h
    exact az_E.ret (v := some (.int x_17)) (σ' := (97, I_18, J, (az_u (az_u R 26 2 (some 16)) 26 3 (some 5)))) rfl (hQ _ hR_3_2 hR_3_3)
set_option maxRecDepth 100000 in
set_option maxHeartbeats 4000000 in
theorem re_X_judge_41_16_21_67 {ex : az_X} {I : Nat → Nat → Int32} {J : Nat → Nat → Int64} {R : Nat → Nat → Option Nat} (hR_3_2 : R 3 2 = some 16) (hR_3_3 : R 3 3 = some 21) {x : Int32 × (Nat → Nat → Int32)} (h : rs_X_judge_41 21 16 67 I J = some x) {Q : Option Value → az_S → Prop} (hQ : ∀ R' : Nat → Nat → Option Nat, R' 3 2 = some 16 → R' 3 3 = some 21 → Q (some (.int x.1)) (97, x.2, J, R')) : az_E az_F ex 6 106 41 [.retAddr 0, .retAddr 0, .retAddr 0, .retAddr 0] [.ref 67, .ref 3] (97, I, J, (az_u (az_u R 26 2 (some 16)) 26 3 (some 5))) Q := by
  unfold rs_X_judge_41 at h
  cases hx_22 : rs_X_firstWrongTwo 67 I J with
  | none => rw [hx_22] at h; cases h
  | some o =>
    rw [hx_22] at h
    obtain ⟨x_20, I_21⟩ := o
    dsimp only at h
    refine az_E.call (d := 5) (k' := 151) (vs := [.ref 3, .ref 67]) (pc' := 44) (S' := []) (Q1 := fun v s => v = some (.int x_20) ∧ s = (97, I_21, J, (az_u (az_u R 26 2 (some 16)) 26 3 (some 5)))) rfl (az_E.deep (by omega) (re_X_firstWrongTwo_67_5 (J := J) (R := (az_u (az_u R 26 2 (some 16)) 26 3 (some 5))) rfl hx_22 ⟨rfl, rfl⟩)) (fun v s hq => ?_)
    obtain ⟨rfl, rfl⟩ := hq
    show az_E az_F ex 6 106 44 [.retAddr 0, .retAddr 0, .retAddr 0, .retAddr 0] [.int x_20] (97, I_21, J, (az_u (az_u R 26 2 (some 16)) 26 3 (some 5))) _
    have h := Option.some.inj h
    subst h
    exact az_E.ret (v := some (.int x_20)) (σ' := (97, I_21, J, (az_u (az_u R 26 2 (some 16)) 26 3 (some 5)))) rfl (hQ _ hR_3_2 hR_3_3)
set_option maxRecDepth 100000 in
set_option maxHeartbeats 4000000 in
theorem re_X_judge_41_16_21_69 {ex : az_X} {I : Nat → Nat → Int32} {J : Nat → Nat → Int64} {R : Nat → Nat → Option Nat} (hR_3_2 : R 3 2 = some 16) (hR_3_3 : R 3 3 = some 21) {x : Int32 × (Nat → Nat → Int32)} (h : rs_X_judge_41 21 16 69 I J = some x) {Q : Option Value → az_S → Prop} (hQ : ∀ R' : Nat → Nat → Option Nat, R' 3 2 = some 16 → R' 3 3 = some 21 → Q (some (.int x.1)) (97, x.2, J, R')) : az_E az_F ex 6 106 41 [.retAddr 0, .retAddr 0, .retAddr 0, .retAddr 0] [.ref 69, .ref 3] (97, I, J, (az_u (az_u R 26 2 (some 16)) 26 3 (some 5))) Q := by
  unfold rs_X_judge_41 at h
  cases hx_25 : rs_X_firstWrongTwo 69 I J with
  | none => rw [hx_25] at h; cases h
  | some o =>
    rw [hx_25] at h
    obtain ⟨x_23, I_24⟩ := o
    dsimp only at h
    refine az_E.call (d := 5) (k' := 151) (vs := [.ref 3, .ref 69]) (pc' := 44) (S' := []) (Q1 := fun v s => v = some (.int x_23) ∧ s = (97, I_24, J, (az_u (az_u R 26 2 (some 16)) 26 3 (some 5)))) rfl (az_E.deep (by omega) (re_X_firstWrongTwo_69_5 (J := J) (R := (az_u (az_u R 26 2 (some 16)) 26 3 (some 5))) rfl hx_25 ⟨rfl, rfl⟩)) (fun v s hq => ?_)
    obtain ⟨rfl, rfl⟩ := hq
    show az_E az_F ex 6 106 44 [.retAddr 0, .retAddr 0, .retAddr 0, .retAddr 0] [.int x_23] (97, I_24, J, (az_u (az_u R 26 2 (some 16)) 26 3 (some 5))) _
    have h := Option.some.inj h
    subst h
    exact az_E.ret (v := some (.int x_23)) (σ' := (97, I_24, J, (az_u (az_u R 26 2 (some 16)) 26 3 (some 5)))) rfl (hQ _ hR_3_2 hR_3_3)
set_option maxRecDepth 100000 in
set_option maxHeartbeats 4000000 in
theorem re_X_judge_41_16_21_71 {ex : az_X} {I : Nat → Nat → Int32} {J : Nat → Nat → Int64} {R : Nat → Nat → Option Nat} (hR_3_2 : R 3 2 = some 16) (hR_3_3 : R 3 3 = some 21) {x : Int32 × (Nat → Nat → Int32)} (h : rs_X_judge_41 21 16 71 I J = some x) {Q : Option Value → az_S → Prop} (hQ : ∀ R' : Nat → Nat → Option Nat, R' 3 2 = some 16 → R' 3 3 = some 21 → Q (some (.int x.1)) (97, x.2, J, R')) : az_E az_F ex 6 106 41 [.retAddr 0, .retAddr 0, .retAddr 0, .retAddr 0] [.ref 71, .ref 3] (97, I, J, (az_u (az_u R 26 2 (some 16)) 26 3 (some 5))) Q := by
  unfold rs_X_judge_41 at h
  cases hx_28 : rs_X_firstWrongTwo 71 I J with
  | none => rw [hx_28] at h; cases h
  | some o =>
    rw [hx_28] at h
    obtain ⟨x_26, I_27⟩ := o
    dsimp only at h
    refine az_E.call (d := 5) (k' := 151) (vs := [.ref 3, .ref 71]) (pc' := 44) (S' := []) (Q1 := fun v s => v = some (.int x_26) ∧ s = (97, I_27, J, (az_u (az_u R 26 2 (some 16)) 26 3 (some 5)))) rfl (az_E.deep (by omega) (re_X_firstWrongTwo_71_5 (J := J) (R := (az_u (az_u R 26 2 (some 16)) 26 3 (some 5))) rfl hx_28 ⟨rfl, rfl⟩)) (fun v s hq => ?_)
    obtain ⟨rfl, rfl⟩ := hq
    show az_E az_F ex 6 106 44 [.retAddr 0, .retAddr 0, .retAddr 0, .retAddr 0] [.int x_26] (97, I_27, J, (az_u (az_u R 26 2 (some 16)) 26 3 (some 5))) _
    have h := Option.some.inj h
    subst h
    exact az_E.ret (v := some (.int x_26)) (σ' := (97, I_27, J, (az_u (az_u R 26 2 (some 16)) 26 3 (some 5)))) rfl (hQ _ hR_3_2 hR_3_3)
set_option maxRecDepth 100000 in
set_option maxHeartbeats 4000000 in
theorem re_X_judge_16_21 {ex : az_X} {I : Nat → Nat → Int32} {J : Nat → Nat → Int64} {R : Nat → Nat → Option Nat} {a1 : Int32} {a2 : Int32} (hR_3_2 : R 3 2 = some 16) (hR_3_3 : R 3 3 = some 21) {o : Int32 × (Nat → Nat → Int32)} (h : rs_X_judge 21 16 I J a1 a2 = some o) {Q : Option Value → az_S → Prop} (hQ : ∀ R' : Nat → Nat → Option Nat, R' 3 2 = some 16 → R' 3 3 = some 21 → Q (some (.int o.1)) (97, o.2, J, R')) : az_E az_F ex 6 106 0 [.ref 3, .int a1, .int a2, .retAddr 0] [] (97, I, J, R) Q := by
  unfold rs_X_judge at h
  refine az_E.sn 1 (pc' := 1) (L' := [.ref 3, .int a1, .int a2, .retAddr 0]) (S' := [.int a1]) (σ' := (97, I, J, R)) rfl ?_
  refine az_E.call (d := 5) (k' := 137) (vs := [.int a1]) (pc' := 4) (S' := []) rfl ?_ (fun _ _ hq => hq)
  show az_E az_F ex 5 137 0 [.int a1] [] (97, I, J, R) _
  refine az_E.sn 3 (pc' := 3) (L' := [.int a1]) (S' := [.int (5 : Int32), .int (0 : Int32), .int a1]) (σ' := (97, I, J, R)) rfl ?_
  refine az_E.call (d := 4) (k' := 131) (vs := [.int a1, .int (0 : Int32), .int (5 : Int32)]) (pc' := 6) (S' := []) rfl ?_ (fun _ _ hq => hq)
  show az_E az_F ex 4 131 0 [.int a1, .int (0 : Int32), .int (5 : Int32)] [] (97, I, J, R) _
  refine az_E.sn 2 (pc' := 2) (L' := [.int a1, .int (0 : Int32), .int (5 : Int32)]) (S' := [.int (0 : Int32), .int a1]) (σ' := (97, I, J, R)) rfl ?_
  refine az_E.br (c := a1 < (0 : Int32)) (tt := 14) (ff := 5) (L' := [.int a1, .int (0 : Int32), .int (5 : Int32)]) (S' := []) (σ' := (97, I, J, R)) rfl (fun hc_1 => ?_) (fun hc_1 => ?_)
  · rw [if_pos hc_1] at h
    refine az_E.sn 1 (pc' := 15) (L' := [.int a1, .int (0 : Int32), .int (5 : Int32)]) (S' := [.int (0 : Int32)]) (σ' := (97, I, J, R)) rfl ?_
    refine az_E.ret (v := some (.int (0 : Int32))) (σ' := (97, I, J, R)) rfl ?_
    show az_E az_F ex 5 137 6 [.int a1] [.int (0 : Int32)] (97, I, J, R) _
    refine az_E.ret (v := some (.int (0 : Int32))) (σ' := (97, I, J, R)) rfl ?_
    show az_E az_F ex 6 106 4 [.ref 3, .int a1, .int a2, .retAddr 0] [.int (0 : Int32)] (97, I, J, R) _
    refine az_E.br (c := (0 : Int32) = 0) (tt := 15) (ff := 7) (L' := [.ref 3, .int a1, .int a2, .retAddr 0]) (S' := []) (σ' := (97, I, J, R)) rfl (fun _ => ?_) (fun hn => absurd (by decide) hn)
    refine az_E.sn 1 (pc' := 16) (L' := [.ref 3, .int a1, .int a2, .retAddr 0]) (S' := [.int (-1 : Int32)]) (σ' := (97, I, J, R)) rfl ?_
    have h := Option.some.inj h
    subst h
    exact az_E.ret (v := some (.int (-1 : Int32))) (σ' := (97, I, J, R)) rfl (hQ _ hR_3_2 hR_3_3)
  · rw [if_neg hc_1] at h
    refine az_E.sn 2 (pc' := 7) (L' := [.int a1, .int (0 : Int32), .int (5 : Int32)]) (S' := [.int (5 : Int32), .int a1]) (σ' := (97, I, J, R)) rfl ?_
    refine az_E.br (c := (5 : Int32) < a1) (tt := 14) (ff := 10) (L' := [.int a1, .int (0 : Int32), .int (5 : Int32)]) (S' := []) (σ' := (97, I, J, R)) rfl (fun hc_2 => ?_) (fun hc_2 => ?_)
    · rw [if_pos hc_2] at h
      refine az_E.sn 1 (pc' := 15) (L' := [.int a1, .int (0 : Int32), .int (5 : Int32)]) (S' := [.int (0 : Int32)]) (σ' := (97, I, J, R)) rfl ?_
      refine az_E.ret (v := some (.int (0 : Int32))) (σ' := (97, I, J, R)) rfl ?_
      show az_E az_F ex 5 137 6 [.int a1] [.int (0 : Int32)] (97, I, J, R) _
      refine az_E.ret (v := some (.int (0 : Int32))) (σ' := (97, I, J, R)) rfl ?_
      show az_E az_F ex 6 106 4 [.ref 3, .int a1, .int a2, .retAddr 0] [.int (0 : Int32)] (97, I, J, R) _
      refine az_E.br (c := (0 : Int32) = 0) (tt := 15) (ff := 7) (L' := [.ref 3, .int a1, .int a2, .retAddr 0]) (S' := []) (σ' := (97, I, J, R)) rfl (fun _ => ?_) (fun hn => absurd (by decide) hn)
      refine az_E.sn 1 (pc' := 16) (L' := [.ref 3, .int a1, .int a2, .retAddr 0]) (S' := [.int (-1 : Int32)]) (σ' := (97, I, J, R)) rfl ?_
      have h := Option.some.inj h
      subst h
      exact az_E.ret (v := some (.int (-1 : Int32))) (σ' := (97, I, J, R)) rfl (hQ _ hR_3_2 hR_3_3)
    · rw [if_neg hc_2] at h
      refine az_E.sn 2 (pc' := 15) (L' := [.int a1, .int (0 : Int32), .int (5 : Int32)]) (S' := [.int (1 : Int32)]) (σ' := (97, I, J, R)) rfl ?_
      refine az_E.ret (v := some (.int (1 : Int32))) (σ' := (97, I, J, R)) rfl ?_
      show az_E az_F ex 5 137 6 [.int a1] [.int (1 : Int32)] (97, I, J, R) _
      refine az_E.ret (v := some (.int (1 : Int32))) (σ' := (97, I, J, R)) rfl ?_
      show az_E az_F ex 6 106 4 [.ref 3, .int a1, .int a2, .retAddr 0] [.int (1 : Int32)] (97, I, J, R) _
      refine az_E.br (c := (1 : Int32) = 0) (tt := 15) (ff := 7) (L' := [.ref 3, .int a1, .int a2, .retAddr 0]) (S' := []) (σ' := (97, I, J, R)) rfl (fun hn => absurd hn (by decide)) (fun _ => ?_)
      refine az_E.sn 2 (pc' := 9) (L' := [.ref 3, .int a1, .int a2, .retAddr 0]) (S' := [.int a2, .ref 3]) (σ' := (97, I, J, R)) rfl ?_
      refine az_E.call (d := 5) (k' := 138) (vs := [.ref 3, .int a2]) (pc' := 12) (S' := []) rfl ?_ (fun _ _ hq => hq)
      show az_E az_F ex 5 138 0 [.ref 3, .int a2] [] (97, I, J, R) _
      refine az_E.sn 7 (pc' := 11) (L' := [.ref 3, .int a2]) (S' := [.int ((I 4 9) - (1 : Int32)), .int (0 : Int32), .int a2]) (σ' := (97, I, J, R)) rfl ?_
      refine az_E.call (d := 4) (k' := 131) (vs := [.int a2, .int (0 : Int32), .int ((I 4 9) - (1 : Int32))]) (pc' := 14) (S' := []) rfl ?_ (fun _ _ hq => hq)
      show az_E az_F ex 4 131 0 [.int a2, .int (0 : Int32), .int ((I 4 9) - (1 : Int32))] [] (97, I, J, R) _
      refine az_E.sn 2 (pc' := 2) (L' := [.int a2, .int (0 : Int32), .int ((I 4 9) - (1 : Int32))]) (S' := [.int (0 : Int32), .int a2]) (σ' := (97, I, J, R)) rfl ?_
      refine az_E.br (c := a2 < (0 : Int32)) (tt := 14) (ff := 5) (L' := [.int a2, .int (0 : Int32), .int ((I 4 9) - (1 : Int32))]) (S' := []) (σ' := (97, I, J, R)) rfl (fun hc_3 => ?_) (fun hc_3 => ?_)
      · rw [if_pos hc_3] at h
        refine az_E.sn 1 (pc' := 15) (L' := [.int a2, .int (0 : Int32), .int ((I 4 9) - (1 : Int32))]) (S' := [.int (0 : Int32)]) (σ' := (97, I, J, R)) rfl ?_
        refine az_E.ret (v := some (.int (0 : Int32))) (σ' := (97, I, J, R)) rfl ?_
        show az_E az_F ex 5 138 14 [.ref 3, .int a2] [.int (0 : Int32)] (97, I, J, R) _
        refine az_E.ret (v := some (.int (0 : Int32))) (σ' := (97, I, J, R)) rfl ?_
        show az_E az_F ex 6 106 12 [.ref 3, .int a1, .int a2, .retAddr 0] [.int (0 : Int32)] (97, I, J, R) _
        refine az_E.br (c := (0 : Int32) = 0) (tt := 15) (ff := 17) (L' := [.ref 3, .int a1, .int a2, .retAddr 0]) (S' := []) (σ' := (97, I, J, R)) rfl (fun _ => ?_) (fun hn => absurd (by decide) hn)
        refine az_E.sn 1 (pc' := 16) (L' := [.ref 3, .int a1, .int a2, .retAddr 0]) (S' := [.int (-1 : Int32)]) (σ' := (97, I, J, R)) rfl ?_
        have h := Option.some.inj h
        subst h
        exact az_E.ret (v := some (.int (-1 : Int32))) (σ' := (97, I, J, R)) rfl (hQ _ hR_3_2 hR_3_3)
      · rw [if_neg hc_3] at h
        refine az_E.sn 2 (pc' := 7) (L' := [.int a2, .int (0 : Int32), .int ((I 4 9) - (1 : Int32))]) (S' := [.int ((I 4 9) - (1 : Int32)), .int a2]) (σ' := (97, I, J, R)) rfl ?_
        refine az_E.br (c := ((I 4 9) - (1 : Int32)) < a2) (tt := 14) (ff := 10) (L' := [.int a2, .int (0 : Int32), .int ((I 4 9) - (1 : Int32))]) (S' := []) (σ' := (97, I, J, R)) rfl (fun hc_4 => ?_) (fun hc_4 => ?_)
        · rw [if_pos hc_4] at h
          refine az_E.sn 1 (pc' := 15) (L' := [.int a2, .int (0 : Int32), .int ((I 4 9) - (1 : Int32))]) (S' := [.int (0 : Int32)]) (σ' := (97, I, J, R)) rfl ?_
          refine az_E.ret (v := some (.int (0 : Int32))) (σ' := (97, I, J, R)) rfl ?_
          show az_E az_F ex 5 138 14 [.ref 3, .int a2] [.int (0 : Int32)] (97, I, J, R) _
          refine az_E.ret (v := some (.int (0 : Int32))) (σ' := (97, I, J, R)) rfl ?_
          show az_E az_F ex 6 106 12 [.ref 3, .int a1, .int a2, .retAddr 0] [.int (0 : Int32)] (97, I, J, R) _
          refine az_E.br (c := (0 : Int32) = 0) (tt := 15) (ff := 17) (L' := [.ref 3, .int a1, .int a2, .retAddr 0]) (S' := []) (σ' := (97, I, J, R)) rfl (fun _ => ?_) (fun hn => absurd (by decide) hn)
          refine az_E.sn 1 (pc' := 16) (L' := [.ref 3, .int a1, .int a2, .retAddr 0]) (S' := [.int (-1 : Int32)]) (σ' := (97, I, J, R)) rfl ?_
          have h := Option.some.inj h
          subst h
          exact az_E.ret (v := some (.int (-1 : Int32))) (σ' := (97, I, J, R)) rfl (hQ _ hR_3_2 hR_3_3)
        · rw [if_neg hc_4] at h
          refine az_E.sn 2 (pc' := 15) (L' := [.int a2, .int (0 : Int32), .int ((I 4 9) - (1 : Int32))]) (S' := [.int (1 : Int32)]) (σ' := (97, I, J, R)) rfl ?_
          refine az_E.ret (v := some (.int (1 : Int32))) (σ' := (97, I, J, R)) rfl ?_
          show az_E az_F ex 5 138 14 [.ref 3, .int a2] [.int (1 : Int32)] (97, I, J, R) _
          refine az_E.ret (v := some (.int (1 : Int32))) (σ' := (97, I, J, R)) rfl ?_
          show az_E az_F ex 6 106 12 [.ref 3, .int a1, .int a2, .retAddr 0] [.int (1 : Int32)] (97, I, J, R) _
          refine az_E.br (c := (1 : Int32) = 0) (tt := 15) (ff := 17) (L' := [.ref 3, .int a1, .int a2, .retAddr 0]) (S' := []) (σ' := (97, I, J, R)) rfl (fun hn => absurd hn (by decide)) (fun _ => ?_)
          refine az_E.sn 2 (pc' := 19) (L' := [.ref 3, .int a1, .int a2, .retAddr 0]) (S' := [.int a1, .ref 3]) (σ' := (97, I, J, R)) rfl ?_
          cases hx_6 : rs_X_refusalOfBook I a1 with
          | none => rw [hx_6] at h; cases h
          | some x_5 =>
            rw [hx_6] at h
            dsimp only at h
            refine az_E.call (d := 5) (k' := 150) (vs := [.ref 3, .int a1]) (pc' := 22) (S' := []) (Q1 := fun v s => v = some (.int x_5) ∧ s = (97, I, J, R)) rfl (az_E.deep (by omega) (re_X_refusalOfBook (J := J) (R := R)  hx_6 ⟨rfl, rfl⟩)) (fun v s hq => ?_)
            obtain ⟨rfl, rfl⟩ := hq
            show az_E az_F ex 6 106 22 [.ref 3, .int a1, .int a2, .retAddr 0] [.int x_5] (97, I, J, R) _
            refine az_E.sn 2 (pc' := 24) (L' := [.ref 3, .int a1, .int a2, .int x_5]) (S' := [.int x_5]) (σ' := (97, I, J, R)) rfl ?_
            refine az_E.br (c := x_5 = 0) (tt := 29) (ff := 27) (L' := [.ref 3, .int a1, .int a2, .int x_5]) (S' := []) (σ' := (97, I, J, R)) rfl (fun hc_7 => ?_) (fun hc_7 => ?_)
            · rw [if_pos hc_7] at h
              refine az_E.sn 2 (pc' := 31) (L' := [.ref 3, .int a1, .int a2, .int x_5]) (S' := [.int a2, .ref 3]) (σ' := (97, I, J, R)) rfl ?_
              cases hx_9 : rs_X_setPace 16 I a2 with
              | none => rw [hx_9] at h; cases h
              | some I_8 =>
                rw [hx_9] at h
                dsimp only at h
                refine az_E.call (d := 5) (k' := 144) (vs := [.ref 3, .int a2]) (pc' := 34) (S' := []) (Q1 := fun v s => v = none ∧ s = (97, I_8, J, (az_u (az_u R 26 2 (some 16)) 26 3 (some 5)))) rfl (az_E.deep (by omega) (re_X_setPace_16 (J := J) (R := R) hR_3_2 hx_9 ⟨rfl, rfl⟩)) (fun v s hq => ?_)
                obtain ⟨rfl, rfl⟩ := hq
                show az_E az_F ex 6 106 34 [.ref 3, .int a1, .int a2, .int x_5] [] (97, I_8, J, (az_u (az_u R 26 2 (some 16)) 26 3 (some 5))) _
                refine az_E.sn 4 (pc' := 40) (L' := [.ref 3, .int a1, .int a2, .int x_5]) (S' := [.int a1, .ref 58, .ref 3]) (σ' := (97, I_8, J, (az_u (az_u R 26 2 (some 16)) 26 3 (some 5)))) rfl ?_
                by_cases hc_10 : a1 < 0 ∨ 6 ≤ a1.toNatClampNeg
                · rw [if_pos hc_10] at h; cases h
                · rw [if_neg hc_10] at h
                  rcases az_six hc_10 with ehc_10 | ehc_10 | ehc_10 | ehc_10 | ehc_10 | ehc_10
                  · subst ehc_10
                    refine az_E.ov (pc' := 41) (L' := [.ref 3, .int (0 : Int32), .int a2, .int x_5]) (S' := [.ref 3]) (σ' := (97, I_8, J, (az_u (az_u R 26 2 (some 16)) 26 3 (some 5)))) (x := .ref 61) (o := az_aa az_F (97, I_8, J, (az_u (az_u R 26 2 (some 16)) 26 3 (some 5))) 58 (0 : Int32)) rfl rfl ?_
                    exact az_E.forget (L := [.retAddr 0, .retAddr 0, .retAddr 0, .retAddr 0]) ⟨trivial, trivial, trivial, trivial, trivial⟩ (re_X_judge_41_16_21_61 (I := I_8) (J := J) (R := R) hR_3_2 hR_3_3 h hQ)
                  · subst ehc_10
                    refine az_E.ov (pc' := 41) (L' := [.ref 3, .int (1 : Int32), .int a2, .int x_5]) (S' := [.ref 3]) (σ' := (97, I_8, J, (az_u (az_u R 26 2 (some 16)) 26 3 (some 5)))) (x := .ref 63) (o := az_aa az_F (97, I_8, J, (az_u (az_u R 26 2 (some 16)) 26 3 (some 5))) 58 (1 : Int32)) rfl rfl ?_
                    exact az_E.forget (L := [.retAddr 0, .retAddr 0, .retAddr 0, .retAddr 0]) ⟨trivial, trivial, trivial, trivial, trivial⟩ (re_X_judge_41_16_21_63 (I := I_8) (J := J) (R := R) hR_3_2 hR_3_3 h hQ)
                  · subst ehc_10
                    refine az_E.ov (pc' := 41) (L' := [.ref 3, .int (2 : Int32), .int a2, .int x_5]) (S' := [.ref 3]) (σ' := (97, I_8, J, (az_u (az_u R 26 2 (some 16)) 26 3 (some 5)))) (x := .ref 65) (o := az_aa az_F (97, I_8, J, (az_u (az_u R 26 2 (some 16)) 26 3 (some 5))) 58 (2 : Int32)) rfl rfl ?_
                    exact az_E.forget (L := [.retAddr 0, .retAddr 0, .retAddr 0, .retAddr 0]) ⟨trivial, trivial, trivial, trivial, trivial⟩ (re_X_judge_41_16_21_65 (I := I_8) (J := J) (R := R) hR_3_2 hR_3_3 h hQ)
                  · subst ehc_10
                    refine az_E.ov (pc' := 41) (L' := [.ref 3, .int (3 : Int32), .int a2, .int x_5]) (S' := [.ref 3]) (σ' := (97, I_8, J, (az_u (az_u R 26 2 (some 16)) 26 3 (some 5)))) (x := .ref 67) (o := az_aa az_F (97, I_8, J, (az_u (az_u R 26 2 (some 16)) 26 3 (some 5))) 58 (3 : Int32)) rfl rfl ?_
                    exact az_E.forget (L := [.retAddr 0, .retAddr 0, .retAddr 0, .retAddr 0]) ⟨trivial, trivial, trivial, trivial, trivial⟩ (re_X_judge_41_16_21_67 (I := I_8) (J := J) (R := R) hR_3_2 hR_3_3 h hQ)
                  · subst ehc_10
                    refine az_E.ov (pc' := 41) (L' := [.ref 3, .int (4 : Int32), .int a2, .int x_5]) (S' := [.ref 3]) (σ' := (97, I_8, J, (az_u (az_u R 26 2 (some 16)) 26 3 (some 5)))) (x := .ref 69) (o := az_aa az_F (97, I_8, J, (az_u (az_u R 26 2 (some 16)) 26 3 (some 5))) 58 (4 : Int32)) rfl rfl ?_
                    exact az_E.forget (L := [.retAddr 0, .retAddr 0, .retAddr 0, .retAddr 0]) ⟨trivial, trivial, trivial, trivial, trivial⟩ (re_X_judge_41_16_21_69 (I := I_8) (J := J) (R := R) hR_3_2 hR_3_3 h hQ)
                  · subst ehc_10
                    refine az_E.ov (pc' := 41) (L' := [.ref 3, .int (5 : Int32), .int a2, .int x_5]) (S' := [.ref 3]) (σ' := (97, I_8, J, (az_u (az_u R 26 2 (some 16)) 26 3 (some 5)))) (x := .ref 71) (o := az_aa az_F (97, I_8, J, (az_u (az_u R 26 2 (some 16)) 26 3 (some 5))) 58 (5 : Int32)) rfl rfl ?_
                    exact az_E.forget (L := [.retAddr 0, .retAddr 0, .retAddr 0, .retAddr 0]) ⟨trivial, trivial, trivial, trivial, trivial⟩ (re_X_judge_41_16_21_71 (I := I_8) (J := J) (R := R) hR_3_2 hR_3_3 h hQ)
            · rw [if_neg hc_7] at h
              refine az_E.sn 1 (pc' := 28) (L' := [.ref 3, .int a1, .int a2, .int x_5]) (S' := [.int x_5]) (σ' := (97, I, J, R)) rfl ?_
              have h := Option.some.inj h
              subst h
              exact az_E.ret (v := some (.int x_5)) (σ' := (97, I, J, R)) rfl (hQ _ hR_3_2 hR_3_3)
set_option maxRecDepth 100000 in
set_option maxHeartbeats 4000000 in
theorem re_M_shortsIs {ex : az_X} {I : Nat → Nat → Int32} {J : Nat → Nat → Int64} {R : Nat → Nat → Option Nat} {a1 : Int32} {o : Int32} (h : rs_M_shortsIs I a1 = some o) {Q : Option Value → az_S → Prop} (hQ : Q (some (.int o)) (97, I, J, R)) : az_E az_F ex 2 219 0 [.ref 73, .int a1] [] (97, I, J, R) Q := by
  unfold rs_M_shortsIs at h
  refine az_E.sn 1 (pc' := 1) (L' := [.ref 73, .int a1]) (S' := [.int a1]) (σ' := (97, I, J, R)) rfl ?_
  refine az_E.call (d := 1) (k' := 245) (vs := [.int a1]) (pc' := 4) (S' := []) rfl ?_ (fun _ _ hq => hq)
  show az_E az_F ex 1 245 0 [.int a1] [] (97, I, J, R) _
  refine az_E.sn 4 (pc' := 6) (L' := [.int a1]) (S' := [.long (5 : Int64), .long (0 : Int64), .long a1.toInt64]) (σ' := (97, I, J, R)) rfl ?_
  refine az_E.call (d := 0) (k' := 154) (vs := [.long a1.toInt64, .long (0 : Int64), .long (5 : Int64)]) (pc' := 9) (S' := []) rfl ?_ (fun _ _ hq => hq)
  show az_E az_F ex 0 154 0 [.long a1.toInt64, .retAddr 0, .long (0 : Int64), .retAddr 0, .long (5 : Int64), .retAddr 0] [] (97, I, J, R) _
  refine az_E.sn 3 (pc' := 3) (L' := [.long a1.toInt64, .retAddr 0, .long (0 : Int64), .retAddr 0, .long (5 : Int64), .retAddr 0]) (S' := [.int (lg_cmp a1.toInt64 (0 : Int64))]) (σ' := (97, I, J, R)) rfl ?_
  refine az_E.br (c := (lg_cmp a1.toInt64 (0 : Int64)) < 0) (tt := 17) (ff := 6) (L' := [.long a1.toInt64, .retAddr 0, .long (0 : Int64), .retAddr 0, .long (5 : Int64), .retAddr 0]) (S' := []) (σ' := (97, I, J, R)) rfl (fun hc_1 => ?_) (fun hc_1 => ?_)
  · rw [if_pos hc_1] at h
    refine az_E.sn 1 (pc' := 18) (L' := [.long a1.toInt64, .retAddr 0, .long (0 : Int64), .retAddr 0, .long (5 : Int64), .retAddr 0]) (S' := [.int (0 : Int32)]) (σ' := (97, I, J, R)) rfl ?_
    refine az_E.ret (v := some (.int (0 : Int32))) (σ' := (97, I, J, R)) rfl ?_
    show az_E az_F ex 1 245 9 [.int a1] [.int (0 : Int32)] (97, I, J, R) _
    refine az_E.ret (v := some (.int (0 : Int32))) (σ' := (97, I, J, R)) rfl ?_
    show az_E az_F ex 2 219 4 [.ref 73, .int a1] [.int (0 : Int32)] (97, I, J, R) _
    refine az_E.br (c := (0 : Int32) = 0) (tt := 7) (ff := 11) (L' := [.ref 73, .int a1]) (S' := []) (σ' := (97, I, J, R)) rfl (fun _ => ?_) (fun hn => absurd (by decide) hn)
    refine az_E.sn 2 (pc' := 42) (L' := [.ref 73, .int a1]) (S' := [.int (-1 : Int32)]) (σ' := (97, I, J, R)) rfl ?_
    have h := Option.some.inj h
    subst h
    exact az_E.ret (v := some (.int (-1 : Int32))) (σ' := (97, I, J, R)) rfl hQ
  · rw [if_neg hc_1] at h
    refine az_E.sn 3 (pc' := 10) (L' := [.long a1.toInt64, .retAddr 0, .long (0 : Int64), .retAddr 0, .long (5 : Int64), .retAddr 0]) (S' := [.int (lg_cmp a1.toInt64 (5 : Int64))]) (σ' := (97, I, J, R)) rfl ?_
    refine az_E.br (c := 0 < (lg_cmp a1.toInt64 (5 : Int64))) (tt := 17) (ff := 13) (L' := [.long a1.toInt64, .retAddr 0, .long (0 : Int64), .retAddr 0, .long (5 : Int64), .retAddr 0]) (S' := []) (σ' := (97, I, J, R)) rfl (fun hc_2 => ?_) (fun hc_2 => ?_)
    · rw [if_pos hc_2] at h
      refine az_E.sn 1 (pc' := 18) (L' := [.long a1.toInt64, .retAddr 0, .long (0 : Int64), .retAddr 0, .long (5 : Int64), .retAddr 0]) (S' := [.int (0 : Int32)]) (σ' := (97, I, J, R)) rfl ?_
      refine az_E.ret (v := some (.int (0 : Int32))) (σ' := (97, I, J, R)) rfl ?_
      show az_E az_F ex 1 245 9 [.int a1] [.int (0 : Int32)] (97, I, J, R) _
      refine az_E.ret (v := some (.int (0 : Int32))) (σ' := (97, I, J, R)) rfl ?_
      show az_E az_F ex 2 219 4 [.ref 73, .int a1] [.int (0 : Int32)] (97, I, J, R) _
      refine az_E.br (c := (0 : Int32) = 0) (tt := 7) (ff := 11) (L' := [.ref 73, .int a1]) (S' := []) (σ' := (97, I, J, R)) rfl (fun _ => ?_) (fun hn => absurd (by decide) hn)
      refine az_E.sn 2 (pc' := 42) (L' := [.ref 73, .int a1]) (S' := [.int (-1 : Int32)]) (σ' := (97, I, J, R)) rfl ?_
      have h := Option.some.inj h
      subst h
      exact az_E.ret (v := some (.int (-1 : Int32))) (σ' := (97, I, J, R)) rfl hQ
    · rw [if_neg hc_2] at h
      refine az_E.sn 2 (pc' := 18) (L' := [.long a1.toInt64, .retAddr 0, .long (0 : Int64), .retAddr 0, .long (5 : Int64), .retAddr 0]) (S' := [.int (1 : Int32)]) (σ' := (97, I, J, R)) rfl ?_
      refine az_E.ret (v := some (.int (1 : Int32))) (σ' := (97, I, J, R)) rfl ?_
      show az_E az_F ex 1 245 9 [.int a1] [.int (1 : Int32)] (97, I, J, R) _
      refine az_E.ret (v := some (.int (1 : Int32))) (σ' := (97, I, J, R)) rfl ?_
      show az_E az_F ex 2 219 4 [.ref 73, .int a1] [.int (1 : Int32)] (97, I, J, R) _
      refine az_E.br (c := (1 : Int32) = 0) (tt := 7) (ff := 11) (L' := [.ref 73, .int a1]) (S' := []) (σ' := (97, I, J, R)) rfl (fun hn => absurd hn (by decide)) (fun _ => ?_)
      refine az_E.sn 3 (pc' := 16) (L' := [.ref 73, .int a1]) (S' := [.int a1, .ref 96]) (σ' := (97, I, J, R)) rfl ?_
      by_cases hc_3 : a1 < 0 ∨ 6 ≤ a1.toNatClampNeg
      · rw [if_pos hc_3] at h; cases h
      · rw [if_neg hc_3] at h
        refine az_E.oi (o := az_ai az_F ex (97, I, J, R) 96 a1) (pc' := 17) (L' := [.ref 73, .int a1]) (S' := []) (σ' := (97, I, J, R)) (x := (I 96 a1.toNatClampNeg)) rfl (if_neg hc_3) ?_
        refine az_E.br (c := 0 ≤ (I 96 a1.toNatClampNeg)) (tt := 25) (ff := 20) (L' := [.ref 73, .int a1]) (S' := []) (σ' := (97, I, J, R)) rfl (fun hc_4 => ?_) (fun hc_4 => ?_)
        · rw [if_pos hc_4] at h
          refine az_E.sn 3 (pc' := 30) (L' := [.ref 73, .int a1]) (S' := [.int a1, .ref 96]) (σ' := (97, I, J, R)) rfl ?_
          by_cases hc_5 : a1 < 0 ∨ 6 ≤ a1.toNatClampNeg
          · rw [if_pos hc_5] at h; cases h
          · rw [if_neg hc_5] at h
            refine az_E.oi (o := az_ai az_F ex (97, I, J, R) 96 a1) (pc' := 31) (L' := [.ref 73, .int a1]) (S' := []) (σ' := (97, I, J, R)) (x := (I 96 a1.toNatClampNeg)) rfl (if_neg hc_5) ?_
            refine az_E.sn 1 (pc' := 33) (L' := [.ref 73, .int a1]) (S' := [.int (51 : Int32), .int (I 96 a1.toNatClampNeg)]) (σ' := (97, I, J, R)) rfl ?_
            refine az_E.br (c := (I 96 a1.toNatClampNeg) = (51 : Int32)) (tt := 36) (ff := 40) (L' := [.ref 73, .int a1]) (S' := []) (σ' := (97, I, J, R)) rfl (fun hc_6 => ?_) (fun hc_6 => ?_)
            · rw [if_pos hc_6] at h
              refine az_E.sn 2 (pc' := 42) (L' := [.ref 73, .int a1]) (S' := [.int (1 : Int32)]) (σ' := (97, I, J, R)) rfl ?_
              have h := Option.some.inj h
              subst h
              exact az_E.ret (v := some (.int (1 : Int32))) (σ' := (97, I, J, R)) rfl hQ
            · rw [if_neg hc_6] at h
              refine az_E.sn 1 (pc' := 42) (L' := [.ref 73, .int a1]) (S' := [.int (-12 : Int32)]) (σ' := (97, I, J, R)) rfl ?_
              have h := Option.some.inj h
              subst h
              exact az_E.ret (v := some (.int (-12 : Int32))) (σ' := (97, I, J, R)) rfl hQ
        · rw [if_neg hc_4] at h
          refine az_E.sn 2 (pc' := 42) (L' := [.ref 73, .int a1]) (S' := [.int (-11 : Int32)]) (σ' := (97, I, J, R)) rfl ?_
          have h := Option.some.inj h
          subst h
          exact az_E.ret (v := some (.int (-11 : Int32))) (σ' := (97, I, J, R)) rfl hQ
set_option maxRecDepth 100000 in
set_option maxHeartbeats 4000000 in
theorem re_M_firstFalse_2_b {ex : az_X} {I : Nat → Nat → Int32} {J : Nat → Nat → Int64} {R : Nat → Nat → Option Nat} {v1 : Int32} {v2 : Int32} {x : ((Int32 × (Nat → Nat → Int32)) ⊕ (Int32 × (Nat → Nat → Int32)))} (h : rs_M_firstFalse_2_b J v1 v2 I = some x) {Q : Option Value → az_S → Prop} (hQ : Sum.elim (fun s => az_E az_F ex 5 220 2 [.ref 73, .int v1, .int s.1, .retAddr 0] [] (97, s.2, J, R) Q) (fun x => Q (some (.int x.1)) (97, x.2, J, R)) x) : az_E az_F ex 5 220 2 [.ref 73, .int v1, .int v2, .retAddr 0] [] (97, I, J, R) Q := by
  unfold rs_M_firstFalse_2_b at h
  refine az_E.sn 6 (pc' := 10) (L' := [.ref 73, .int v1, .int v2, .retAddr 0]) (S' := [.int v1, .ref 97, .int ((2 : Int32) * v2)]) (σ' := (97, I, J, R)) rfl ?_
  by_cases hc_1 : v1 < 0 ∨ 6 ≤ v1.toNatClampNeg
  · rw [if_pos hc_1] at h; cases h
  · rw [if_neg hc_1] at h
    refine az_E.oi (o := az_ai az_F ex (97, I, J, R) 97 v1) (pc' := 11) (L' := [.ref 73, .int v1, .int v2, .retAddr 0]) (S' := [.int ((2 : Int32) * v2)]) (σ' := (97, I, J, R)) (x := (I 97 v1.toNatClampNeg)) rfl (if_neg hc_1) ?_
    refine az_E.br (c := (I 97 v1.toNatClampNeg) ≤ ((2 : Int32) * v2)) (tt := 82) (ff := 14) (L' := [.ref 73, .int v1, .int v2, .retAddr 0]) (S' := []) (σ' := (97, I, J, R)) rfl (fun hc_2 => ?_) (fun hc_2 => ?_)
    · rw [if_pos hc_2] at h
      refine az_E.sn 1 (pc' := 84) (L' := [.ref 73, .int v1, .int v2, .retAddr 0]) (S' := [.int (-2 : Int32)]) (σ' := (97, I, J, R)) rfl ?_
      have h := Option.some.inj h
      subst h
      exact az_E.ret (v := some (.int (-2 : Int32))) (σ' := (97, I, J, R)) rfl hQ
    · rw [if_neg hc_2] at h
      refine az_E.sn 16 (pc' := 33) (L' := [.ref 73, .int v1, .int v2, .int (((60 : Int32) * v1) + ((2 : Int32) * v2))]) (S' := [.int v1, .ref 97, .int (((2 : Int32) * v2) + (1 : Int32))]) (σ' := (97, I, J, R)) rfl ?_
      by_cases hc_3 : v1 < 0 ∨ 6 ≤ v1.toNatClampNeg
      · rw [if_pos hc_3] at h; cases h
      · rw [if_neg hc_3] at h
        refine az_E.oi (o := az_ai az_F ex (97, I, J, R) 97 v1) (pc' := 34) (L' := [.ref 73, .int v1, .int v2, .int (((60 : Int32) * v1) + ((2 : Int32) * v2))]) (S' := [.int (((2 : Int32) * v2) + (1 : Int32))]) (σ' := (97, I, J, R)) (x := (I 97 v1.toNatClampNeg)) rfl (if_neg hc_3) ?_
        refine az_E.br (c := (I 97 v1.toNatClampNeg) ≤ (((2 : Int32) * v2) + (1 : Int32))) (tt := 74) (ff := 37) (L' := [.ref 73, .int v1, .int v2, .int (((60 : Int32) * v1) + ((2 : Int32) * v2))]) (S' := []) (σ' := (97, I, J, R)) rfl (fun hc_4 => ?_) (fun hc_4 => ?_)
        · rw [if_pos hc_4] at h
          refine az_E.sn 1 (pc' := 75) (L' := [.ref 73, .int v1, .int v2, .int (((60 : Int32) * v1) + ((2 : Int32) * v2))]) (S' := [.int v2]) (σ' := (97, I, J, R)) rfl ?_
          have h := Option.some.inj h
          subst h
          exact az_E.ret (v := some (.int v2)) (σ' := (97, I, J, R)) rfl hQ
        · rw [if_neg hc_4] at h
          refine az_E.sn 4 (pc' := 43) (L' := [.ref 73, .int v1, .int v2, .int (((60 : Int32) * v1) + ((2 : Int32) * v2))]) (S' := [.int (((60 : Int32) * v1) + ((2 : Int32) * v2)), .ref 98, .ref 73]) (σ' := (97, I, J, R)) rfl ?_
          by_cases hc_5 : (((60 : Int32) * v1) + ((2 : Int32) * v2)) < 0 ∨ 360 ≤ (((60 : Int32) * v1) + ((2 : Int32) * v2)).toNatClampNeg
          · rw [if_pos hc_5] at h; cases h
          · rw [if_neg hc_5] at h
            refine az_E.ol (o := az_al az_F (97, I, J, R) 98 (((60 : Int32) * v1) + ((2 : Int32) * v2))) (pc' := 44) (L' := [.ref 73, .int v1, .int v2, .int (((60 : Int32) * v1) + ((2 : Int32) * v2))]) (S' := [.ref 73]) (σ' := (97, I, J, R)) (x := (J 98 (((60 : Int32) * v1) + ((2 : Int32) * v2)).toNatClampNeg)) rfl (if_neg hc_5) ?_
            refine az_E.call (d := 4) (k' := 161) (vs := [.ref 73, .long (J 98 (((60 : Int32) * v1) + ((2 : Int32) * v2)).toNatClampNeg)]) (pc' := 47) (S' := []) rfl ?_ (fun _ _ hq => hq)
            show az_E az_F ex 4 161 0 [.ref 73, .long (J 98 (((60 : Int32) * v1) + ((2 : Int32) * v2)).toNatClampNeg), .retAddr 0] [] (97, I, J, R) _
            refine az_E.sn 7 (pc' := 9) (L' := [.ref 73, .long (J 98 (((60 : Int32) * v1) + ((2 : Int32) * v2)).toNatClampNeg), .retAddr 0]) (S' := [.long ((I 73 6) - (1 : Int32)).toInt64, .long (0 : Int64), .long (J 98 (((60 : Int32) * v1) + ((2 : Int32) * v2)).toNatClampNeg)]) (σ' := (97, I, J, R)) rfl ?_
            refine az_E.call (d := 3) (k' := 154) (vs := [.long (J 98 (((60 : Int32) * v1) + ((2 : Int32) * v2)).toNatClampNeg), .long (0 : Int64), .long ((I 73 6) - (1 : Int32)).toInt64]) (pc' := 12) (S' := []) rfl ?_ (fun _ _ hq => hq)
            show az_E az_F ex 3 154 0 [.long (J 98 (((60 : Int32) * v1) + ((2 : Int32) * v2)).toNatClampNeg), .retAddr 0, .long (0 : Int64), .retAddr 0, .long ((I 73 6) - (1 : Int32)).toInt64, .retAddr 0] [] (97, I, J, R) _
            refine az_E.sn 3 (pc' := 3) (L' := [.long (J 98 (((60 : Int32) * v1) + ((2 : Int32) * v2)).toNatClampNeg), .retAddr 0, .long (0 : Int64), .retAddr 0, .long ((I 73 6) - (1 : Int32)).toInt64, .retAddr 0]) (S' := [.int (lg_cmp (J 98 (((60 : Int32) * v1) + ((2 : Int32) * v2)).toNatClampNeg) (0 : Int64))]) (σ' := (97, I, J, R)) rfl ?_
            refine az_E.br (c := (lg_cmp (J 98 (((60 : Int32) * v1) + ((2 : Int32) * v2)).toNatClampNeg) (0 : Int64)) < 0) (tt := 17) (ff := 6) (L' := [.long (J 98 (((60 : Int32) * v1) + ((2 : Int32) * v2)).toNatClampNeg), .retAddr 0, .long (0 : Int64), .retAddr 0, .long ((I 73 6) - (1 : Int32)).toInt64, .retAddr 0]) (S' := []) (σ' := (97, I, J, R)) rfl (fun hc_6 => ?_) (fun hc_6 => ?_)
            · rw [if_pos hc_6] at h
              refine az_E.sn 1 (pc' := 18) (L' := [.long (J 98 (((60 : Int32) * v1) + ((2 : Int32) * v2)).toNatClampNeg), .retAddr 0, .long (0 : Int64), .retAddr 0, .long ((I 73 6) - (1 : Int32)).toInt64, .retAddr 0]) (S' := [.int (0 : Int32)]) (σ' := (97, I, J, R)) rfl ?_
              refine az_E.ret (v := some (.int (0 : Int32))) (σ' := (97, I, J, R)) rfl ?_
              show az_E az_F ex 4 161 12 [.ref 73, .long (J 98 (((60 : Int32) * v1) + ((2 : Int32) * v2)).toNatClampNeg), .retAddr 0] [.int (0 : Int32)] (97, I, J, R) _
              refine az_E.ret (v := some (.int (0 : Int32))) (σ' := (97, I, J, R)) rfl ?_
              show az_E az_F ex 5 220 47 [.ref 73, .int v1, .int v2, .int (((60 : Int32) * v1) + ((2 : Int32) * v2))] [.int (0 : Int32)] (97, I, J, R) _
              refine az_E.br (c := (0 : Int32) = 0) (tt := 74) (ff := 50) (L' := [.ref 73, .int v1, .int v2, .int (((60 : Int32) * v1) + ((2 : Int32) * v2))]) (S' := []) (σ' := (97, I, J, R)) rfl (fun _ => ?_) (fun hn => absurd (by decide) hn)
              refine az_E.sn 1 (pc' := 75) (L' := [.ref 73, .int v1, .int v2, .int (((60 : Int32) * v1) + ((2 : Int32) * v2))]) (S' := [.int v2]) (σ' := (97, I, J, R)) rfl ?_
              have h := Option.some.inj h
              subst h
              exact az_E.ret (v := some (.int v2)) (σ' := (97, I, J, R)) rfl hQ
            · rw [if_neg hc_6] at h
              refine az_E.sn 3 (pc' := 10) (L' := [.long (J 98 (((60 : Int32) * v1) + ((2 : Int32) * v2)).toNatClampNeg), .retAddr 0, .long (0 : Int64), .retAddr 0, .long ((I 73 6) - (1 : Int32)).toInt64, .retAddr 0]) (S' := [.int (lg_cmp (J 98 (((60 : Int32) * v1) + ((2 : Int32) * v2)).toNatClampNeg) ((I 73 6) - (1 : Int32)).toInt64)]) (σ' := (97, I, J, R)) rfl ?_
              refine az_E.br (c := 0 < (lg_cmp (J 98 (((60 : Int32) * v1) + ((2 : Int32) * v2)).toNatClampNeg) ((I 73 6) - (1 : Int32)).toInt64)) (tt := 17) (ff := 13) (L' := [.long (J 98 (((60 : Int32) * v1) + ((2 : Int32) * v2)).toNatClampNeg), .retAddr 0, .long (0 : Int64), .retAddr 0, .long ((I 73 6) - (1 : Int32)).toInt64, .retAddr 0]) (S' := []) (σ' := (97, I, J, R)) rfl (fun hc_7 => ?_) (fun hc_7 => ?_)
              · rw [if_pos hc_7] at h
                refine az_E.sn 1 (pc' := 18) (L' := [.long (J 98 (((60 : Int32) * v1) + ((2 : Int32) * v2)).toNatClampNeg), .retAddr 0, .long (0 : Int64), .retAddr 0, .long ((I 73 6) - (1 : Int32)).toInt64, .retAddr 0]) (S' := [.int (0 : Int32)]) (σ' := (97, I, J, R)) rfl ?_
                refine az_E.ret (v := some (.int (0 : Int32))) (σ' := (97, I, J, R)) rfl ?_
                show az_E az_F ex 4 161 12 [.ref 73, .long (J 98 (((60 : Int32) * v1) + ((2 : Int32) * v2)).toNatClampNeg), .retAddr 0] [.int (0 : Int32)] (97, I, J, R) _
                refine az_E.ret (v := some (.int (0 : Int32))) (σ' := (97, I, J, R)) rfl ?_
                show az_E az_F ex 5 220 47 [.ref 73, .int v1, .int v2, .int (((60 : Int32) * v1) + ((2 : Int32) * v2))] [.int (0 : Int32)] (97, I, J, R) _
                refine az_E.br (c := (0 : Int32) = 0) (tt := 74) (ff := 50) (L' := [.ref 73, .int v1, .int v2, .int (((60 : Int32) * v1) + ((2 : Int32) * v2))]) (S' := []) (σ' := (97, I, J, R)) rfl (fun _ => ?_) (fun hn => absurd (by decide) hn)
                refine az_E.sn 1 (pc' := 75) (L' := [.ref 73, .int v1, .int v2, .int (((60 : Int32) * v1) + ((2 : Int32) * v2))]) (S' := [.int v2]) (σ' := (97, I, J, R)) rfl ?_
                have h := Option.some.inj h
                subst h
                exact az_E.ret (v := some (.int v2)) (σ' := (97, I, J, R)) rfl hQ
              · rw [if_neg hc_7] at h
                refine az_E.sn 2 (pc' := 18) (L' := [.long (J 98 (((60 : Int32) * v1) + ((2 : Int32) * v2)).toNatClampNeg), .retAddr 0, .long (0 : Int64), .retAddr 0, .long ((I 73 6) - (1 : Int32)).toInt64, .retAddr 0]) (S' := [.int (1 : Int32)]) (σ' := (97, I, J, R)) rfl ?_
                refine az_E.ret (v := some (.int (1 : Int32))) (σ' := (97, I, J, R)) rfl ?_
                show az_E az_F ex 4 161 12 [.ref 73, .long (J 98 (((60 : Int32) * v1) + ((2 : Int32) * v2)).toNatClampNeg), .retAddr 0] [.int (1 : Int32)] (97, I, J, R) _
                refine az_E.ret (v := some (.int (1 : Int32))) (σ' := (97, I, J, R)) rfl ?_
                show az_E az_F ex 5 220 47 [.ref 73, .int v1, .int v2, .int (((60 : Int32) * v1) + ((2 : Int32) * v2))] [.int (1 : Int32)] (97, I, J, R) _
                refine az_E.br (c := (1 : Int32) = 0) (tt := 74) (ff := 50) (L' := [.ref 73, .int v1, .int v2, .int (((60 : Int32) * v1) + ((2 : Int32) * v2))]) (S' := []) (σ' := (97, I, J, R)) rfl (fun hn => absurd hn (by decide)) (fun _ => ?_)
                refine az_E.sn 4 (pc' := 56) (L' := [.ref 73, .int v1, .int v2, .int (((60 : Int32) * v1) + ((2 : Int32) * v2))]) (S' := [.int (((60 : Int32) * v1) + ((2 : Int32) * v2)), .ref 98, .ref 73]) (σ' := (97, I, J, R)) rfl ?_
                by_cases hc_8 : (((60 : Int32) * v1) + ((2 : Int32) * v2)) < 0 ∨ 360 ≤ (((60 : Int32) * v1) + ((2 : Int32) * v2)).toNatClampNeg
                · rw [if_pos hc_8] at h; cases h
                · rw [if_neg hc_8] at h
                  refine az_E.ol (o := az_al az_F (97, I, J, R) 98 (((60 : Int32) * v1) + ((2 : Int32) * v2))) (pc' := 57) (L' := [.ref 73, .int v1, .int v2, .int (((60 : Int32) * v1) + ((2 : Int32) * v2))]) (S' := [.ref 73]) (σ' := (97, I, J, R)) (x := (J 98 (((60 : Int32) * v1) + ((2 : Int32) * v2)).toNatClampNeg)) rfl (if_neg hc_8) ?_
                  refine az_E.sn 1 (pc' := 58) (L' := [.ref 73, .int v1, .int v2, .int (((60 : Int32) * v1) + ((2 : Int32) * v2))]) (S' := [.int (J 98 (((60 : Int32) * v1) + ((2 : Int32) * v2)).toNatClampNeg).toInt32, .ref 73]) (σ' := (97, I, J, R)) rfl ?_
                  cases hx_11 : rs_M_armFor I (J 98 (((60 : Int32) * v1) + ((2 : Int32) * v2)).toNatClampNeg).toInt32 with
                  | none => rw [hx_11] at h; cases h
                  | some o =>
                    rw [hx_11] at h
                    obtain ⟨x_9, I_10⟩ := o
                    dsimp only at h
                    refine az_E.call (d := 4) (k' := 197) (vs := [.ref 73, .int (J 98 (((60 : Int32) * v1) + ((2 : Int32) * v2)).toNatClampNeg).toInt32]) (pc' := 61) (S' := []) (Q1 := fun v s => v = some (.int x_9) ∧ s = (97, I_10, J, R)) rfl (az_E.deep (by omega) (re_M_armFor (J := J) (R := R)  hx_11 ⟨rfl, rfl⟩)) (fun v s hq => ?_)
                    obtain ⟨rfl, rfl⟩ := hq
                    show az_E az_F ex 5 220 61 [.ref 73, .int v1, .int v2, .int (((60 : Int32) * v1) + ((2 : Int32) * v2))] [.int x_9] (97, I_10, J, R) _
                    refine az_E.sn 6 (pc' := 69) (L' := [.ref 73, .int v1, .int v2, .int (((60 : Int32) * v1) + ((2 : Int32) * v2))]) (S' := [.int ((((60 : Int32) * v1) + ((2 : Int32) * v2)) + (1 : Int32)), .ref 98, .long x_9.toInt64]) (σ' := (97, I_10, J, R)) rfl ?_
                    by_cases hc_12 : ((((60 : Int32) * v1) + ((2 : Int32) * v2)) + (1 : Int32)) < 0 ∨ 360 ≤ ((((60 : Int32) * v1) + ((2 : Int32) * v2)) + (1 : Int32)).toNatClampNeg
                    · rw [if_pos hc_12] at h; cases h
                    · rw [if_neg hc_12] at h
                      refine az_E.ol (o := az_al az_F (97, I_10, J, R) 98 ((((60 : Int32) * v1) + ((2 : Int32) * v2)) + (1 : Int32))) (pc' := 70) (L' := [.ref 73, .int v1, .int v2, .int (((60 : Int32) * v1) + ((2 : Int32) * v2))]) (S' := [.long x_9.toInt64]) (σ' := (97, I_10, J, R)) (x := (J 98 ((((60 : Int32) * v1) + ((2 : Int32) * v2)) + (1 : Int32)).toNatClampNeg)) rfl (if_neg hc_12) ?_
                      refine az_E.sn 1 (pc' := 71) (L' := [.ref 73, .int v1, .int v2, .int (((60 : Int32) * v1) + ((2 : Int32) * v2))]) (S' := [.int (lg_cmp x_9.toInt64 (J 98 ((((60 : Int32) * v1) + ((2 : Int32) * v2)) + (1 : Int32)).toNatClampNeg))]) (σ' := (97, I_10, J, R)) rfl ?_
                      refine az_E.br (c := (lg_cmp x_9.toInt64 (J 98 ((((60 : Int32) * v1) + ((2 : Int32) * v2)) + (1 : Int32)).toNatClampNeg)) = 0) (tt := 76) (ff := 74) (L' := [.ref 73, .int v1, .int v2, .int (((60 : Int32) * v1) + ((2 : Int32) * v2))]) (S' := []) (σ' := (97, I_10, J, R)) rfl (fun hc_13 => ?_) (fun hc_13 => ?_)
                      · rw [if_pos hc_13] at h
                        refine az_E.sn 2 (pc' := 2) (L' := [.ref 73, .int v1, .int (v2 + (1 : Int32)), .int (((60 : Int32) * v1) + ((2 : Int32) * v2))]) (S' := []) (σ' := (97, I_10, J, R)) rfl ?_
                        have h := Option.some.inj h
                        subst h
                        exact az_E.forget (L := [.ref 73, .int v1, .int (v2 + (1 : Int32)), .retAddr 0]) ⟨rfl, rfl, rfl, trivial, trivial⟩ hQ
                      · rw [if_neg hc_13] at h
                        refine az_E.sn 1 (pc' := 75) (L' := [.ref 73, .int v1, .int v2, .int (((60 : Int32) * v1) + ((2 : Int32) * v2))]) (S' := [.int v2]) (σ' := (97, I_10, J, R)) rfl ?_
                        have h := Option.some.inj h
                        subst h
                        exact az_E.ret (v := some (.int v2)) (σ' := (97, I_10, J, R)) rfl hQ
set_option maxRecDepth 100000 in
set_option maxHeartbeats 4000000 in
theorem re_M_firstFalse_2 {ex : az_X} {I : Nat → Nat → Int32} {J : Nat → Nat → Int64} {R : Nat → Nat → Option Nat} {v1 : Int32} {v2 : Int32} {x : Int32 × (Nat → Nat → Int32)} (h : rs_M_firstFalse_2 I J v1 v2 = some x) {Q : Option Value → az_S → Prop} (hQ : Q (some (.int x.1)) (97, x.2, J, R)) : az_E az_F ex 5 220 2 [.ref 73, .int v1, .int v2, .retAddr 0] [] (97, I, J, R) Q := by
  unfold rs_M_firstFalse_2 at h
  refine az_lp_E (G := fun s => az_E az_F ex 5 220 2 [.ref 73, .int v1, .int s.1, .retAddr 0] [] (97, s.2, J, R) Q) (H := fun x => Q (some (.int x.1)) (97, x.2, J, R)) (fun s o hb ho => ?_) _ _ _ h hQ
  exact re_M_firstFalse_2_b  hb ho
set_option maxRecDepth 100000 in
set_option maxHeartbeats 4000000 in
theorem re_M_firstFalse {ex : az_X} {I : Nat → Nat → Int32} {J : Nat → Nat → Int64} {R : Nat → Nat → Option Nat} {a1 : Int32} {o : Int32 × (Nat → Nat → Int32)} (h : rs_M_firstFalse I J a1 = some o) {Q : Option Value → az_S → Prop} (hQ : Q (some (.int o.1)) (97, o.2, J, R)) : az_E az_F ex 5 220 0 [.ref 73, .int a1, .retAddr 0, .retAddr 0] [] (97, I, J, R) Q := by
  unfold rs_M_firstFalse at h
  refine az_E.sn 2 (pc' := 2) (L' := [.ref 73, .int a1, .int (0 : Int32), .retAddr 0]) (S' := []) (σ' := (97, I, J, R)) rfl ?_
  exact az_E.forget (L := [.ref 73, .int a1, .int (0 : Int32), .retAddr 0]) ⟨rfl, rfl, rfl, trivial, trivial⟩ (re_M_firstFalse_2 (I := I) (J := J) (R := R)  h hQ)
set_option maxRecDepth 100000 in
set_option maxHeartbeats 4000000 in
theorem re_M_judge {ex : az_X} {I : Nat → Nat → Int32} {J : Nat → Nat → Int64} {R : Nat → Nat → Option Nat} {a1 : Int32} {a2 : Int32} {o : Int32 × (Nat → Nat → Int32)} (h : rs_M_judge I J a1 a2 = some o) {Q : Option Value → az_S → Prop} (hQ : Q (some (.int o.1)) (97, o.2, J, R)) : az_E az_F ex 125 221 0 [.ref 73, .int a1, .int a2] [] (97, I, J, R) Q := by
  unfold rs_M_judge at h
  refine az_E.sn 2 (pc' := 2) (L' := [.ref 73, .int a1, .int a2]) (S' := [.int a1, .ref 73]) (σ' := (97, I, J, R)) rfl ?_
  cases hx_2 : rs_M_shortsIs I a1 with
  | none => rw [hx_2] at h; cases h
  | some x_1 =>
    rw [hx_2] at h
    dsimp only at h
    refine az_E.call (d := 124) (k' := 219) (vs := [.ref 73, .int a1]) (pc' := 5) (S' := []) (Q1 := fun v s => v = some (.int x_1) ∧ s = (97, I, J, R)) rfl (az_E.deep (by omega) (re_M_shortsIs (J := J) (R := R)  hx_2 ⟨rfl, rfl⟩)) (fun v s hq => ?_)
    obtain ⟨rfl, rfl⟩ := hq
    show az_E az_F ex 125 221 5 [.ref 73, .int a1, .int a2] [.int x_1] (97, I, J, R) _
    refine az_E.sn 1 (pc' := 6) (L' := [.ref 73, .int a1, .int a2]) (S' := [.int (-1 : Int32), .int x_1]) (σ' := (97, I, J, R)) rfl ?_
    refine az_E.br (c := x_1 = (-1 : Int32)) (tt := 18) (ff := 9) (L' := [.ref 73, .int a1, .int a2]) (S' := []) (σ' := (97, I, J, R)) rfl (fun hc_3 => ?_) (fun hc_3 => ?_)
    · rw [if_pos hc_3] at h
      refine az_E.sn 1 (pc' := 19) (L' := [.ref 73, .int a1, .int a2]) (S' := [.int (-1 : Int32)]) (σ' := (97, I, J, R)) rfl ?_
      have h := Option.some.inj h
      subst h
      exact az_E.ret (v := some (.int (-1 : Int32))) (σ' := (97, I, J, R)) rfl hQ
    · rw [if_neg hc_3] at h
      refine az_E.sn 3 (pc' := 12) (L' := [.ref 73, .int a1, .int a2]) (S' := [.long a2.toInt64, .ref 73]) (σ' := (97, I, J, R)) rfl ?_
      refine az_E.call (d := 124) (k' := 162) (vs := [.ref 73, .long a2.toInt64]) (pc' := 15) (S' := []) rfl ?_ (fun _ _ hq => hq)
      show az_E az_F ex 124 162 0 [.ref 73, .long a2.toInt64, .retAddr 0] [] (97, I, J, R) _
      refine az_E.sn 7 (pc' := 9) (L' := [.ref 73, .long a2.toInt64, .retAddr 0]) (S' := [.long ((I 73 7) - (1 : Int32)).toInt64, .long (0 : Int64), .long a2.toInt64]) (σ' := (97, I, J, R)) rfl ?_
      refine az_E.call (d := 123) (k' := 154) (vs := [.long a2.toInt64, .long (0 : Int64), .long ((I 73 7) - (1 : Int32)).toInt64]) (pc' := 12) (S' := []) rfl ?_ (fun _ _ hq => hq)
      show az_E az_F ex 123 154 0 [.long a2.toInt64, .retAddr 0, .long (0 : Int64), .retAddr 0, .long ((I 73 7) - (1 : Int32)).toInt64, .retAddr 0] [] (97, I, J, R) _
      refine az_E.sn 3 (pc' := 3) (L' := [.long a2.toInt64, .retAddr 0, .long (0 : Int64), .retAddr 0, .long ((I 73 7) - (1 : Int32)).toInt64, .retAddr 0]) (S' := [.int (lg_cmp a2.toInt64 (0 : Int64))]) (σ' := (97, I, J, R)) rfl ?_
      refine az_E.br (c := (lg_cmp a2.toInt64 (0 : Int64)) < 0) (tt := 17) (ff := 6) (L' := [.long a2.toInt64, .retAddr 0, .long (0 : Int64), .retAddr 0, .long ((I 73 7) - (1 : Int32)).toInt64, .retAddr 0]) (S' := []) (σ' := (97, I, J, R)) rfl (fun hc_4 => ?_) (fun hc_4 => ?_)
      · rw [if_pos hc_4] at h
        refine az_E.sn 1 (pc' := 18) (L' := [.long a2.toInt64, .retAddr 0, .long (0 : Int64), .retAddr 0, .long ((I 73 7) - (1 : Int32)).toInt64, .retAddr 0]) (S' := [.int (0 : Int32)]) (σ' := (97, I, J, R)) rfl ?_
        refine az_E.ret (v := some (.int (0 : Int32))) (σ' := (97, I, J, R)) rfl ?_
        show az_E az_F ex 124 162 12 [.ref 73, .long a2.toInt64, .retAddr 0] [.int (0 : Int32)] (97, I, J, R) _
        refine az_E.ret (v := some (.int (0 : Int32))) (σ' := (97, I, J, R)) rfl ?_
        show az_E az_F ex 125 221 15 [.ref 73, .int a1, .int a2] [.int (0 : Int32)] (97, I, J, R) _
        refine az_E.br (c := (0 : Int32) = 0) (tt := 18) (ff := 20) (L' := [.ref 73, .int a1, .int a2]) (S' := []) (σ' := (97, I, J, R)) rfl (fun _ => ?_) (fun hn => absurd (by decide) hn)
        refine az_E.sn 1 (pc' := 19) (L' := [.ref 73, .int a1, .int a2]) (S' := [.int (-1 : Int32)]) (σ' := (97, I, J, R)) rfl ?_
        have h := Option.some.inj h
        subst h
        exact az_E.ret (v := some (.int (-1 : Int32))) (σ' := (97, I, J, R)) rfl hQ
      · rw [if_neg hc_4] at h
        refine az_E.sn 3 (pc' := 10) (L' := [.long a2.toInt64, .retAddr 0, .long (0 : Int64), .retAddr 0, .long ((I 73 7) - (1 : Int32)).toInt64, .retAddr 0]) (S' := [.int (lg_cmp a2.toInt64 ((I 73 7) - (1 : Int32)).toInt64)]) (σ' := (97, I, J, R)) rfl ?_
        refine az_E.br (c := 0 < (lg_cmp a2.toInt64 ((I 73 7) - (1 : Int32)).toInt64)) (tt := 17) (ff := 13) (L' := [.long a2.toInt64, .retAddr 0, .long (0 : Int64), .retAddr 0, .long ((I 73 7) - (1 : Int32)).toInt64, .retAddr 0]) (S' := []) (σ' := (97, I, J, R)) rfl (fun hc_5 => ?_) (fun hc_5 => ?_)
        · rw [if_pos hc_5] at h
          refine az_E.sn 1 (pc' := 18) (L' := [.long a2.toInt64, .retAddr 0, .long (0 : Int64), .retAddr 0, .long ((I 73 7) - (1 : Int32)).toInt64, .retAddr 0]) (S' := [.int (0 : Int32)]) (σ' := (97, I, J, R)) rfl ?_
          refine az_E.ret (v := some (.int (0 : Int32))) (σ' := (97, I, J, R)) rfl ?_
          show az_E az_F ex 124 162 12 [.ref 73, .long a2.toInt64, .retAddr 0] [.int (0 : Int32)] (97, I, J, R) _
          refine az_E.ret (v := some (.int (0 : Int32))) (σ' := (97, I, J, R)) rfl ?_
          show az_E az_F ex 125 221 15 [.ref 73, .int a1, .int a2] [.int (0 : Int32)] (97, I, J, R) _
          refine az_E.br (c := (0 : Int32) = 0) (tt := 18) (ff := 20) (L' := [.ref 73, .int a1, .int a2]) (S' := []) (σ' := (97, I, J, R)) rfl (fun _ => ?_) (fun hn => absurd (by decide) hn)
          refine az_E.sn 1 (pc' := 19) (L' := [.ref 73, .int a1, .int a2]) (S' := [.int (-1 : Int32)]) (σ' := (97, I, J, R)) rfl ?_
          have h := Option.some.inj h
          subst h
          exact az_E.ret (v := some (.int (-1 : Int32))) (σ' := (97, I, J, R)) rfl hQ
        · rw [if_neg hc_5] at h
          refine az_E.sn 2 (pc' := 18) (L' := [.long a2.toInt64, .retAddr 0, .long (0 : Int64), .retAddr 0, .long ((I 73 7) - (1 : Int32)).toInt64, .retAddr 0]) (S' := [.int (1 : Int32)]) (σ' := (97, I, J, R)) rfl ?_
          refine az_E.ret (v := some (.int (1 : Int32))) (σ' := (97, I, J, R)) rfl ?_
          show az_E az_F ex 124 162 12 [.ref 73, .long a2.toInt64, .retAddr 0] [.int (1 : Int32)] (97, I, J, R) _
          refine az_E.ret (v := some (.int (1 : Int32))) (σ' := (97, I, J, R)) rfl ?_
          show az_E az_F ex 125 221 15 [.ref 73, .int a1, .int a2] [.int (1 : Int32)] (97, I, J, R) _
          refine az_E.br (c := (1 : Int32) = 0) (tt := 18) (ff := 20) (L' := [.ref 73, .int a1, .int a2]) (S' := []) (σ' := (97, I, J, R)) rfl (fun hn => absurd hn (by decide)) (fun _ => ?_)
          refine az_E.sn 2 (pc' := 22) (L' := [.ref 73, .int a1, .int a2]) (S' := [.int a1, .ref 73]) (σ' := (97, I, J, R)) rfl ?_
          refine az_E.call (d := 124) (k' := 219) (vs := [.ref 73, .int a1]) (pc' := 25) (S' := []) (Q1 := fun v s => v = some (.int x_1) ∧ s = (97, I, J, R)) rfl (az_E.deep (by omega) (re_M_shortsIs (J := J) (R := R)  hx_2 ⟨rfl, rfl⟩)) (fun v s hq => ?_)
          obtain ⟨rfl, rfl⟩ := hq
          show az_E az_F ex 125 221 25 [.ref 73, .int a1, .int a2] [.int x_1] (97, I, J, R) _
          refine az_E.br (c := 0 ≤ x_1) (tt := 34) (ff := 28) (L' := [.ref 73, .int a1, .int a2]) (S' := []) (σ' := (97, I, J, R)) rfl (fun hc_6 => ?_) (fun hc_6 => ?_)
          · rw [if_pos hc_6] at h
            refine az_E.sn 2 (pc' := 36) (L' := [.ref 73, .int a1, .int a2]) (S' := [.int a2, .ref 73]) (σ' := (97, I, J, R)) rfl ?_
            cases hx_8 : rs_M_asksFor I a2 with
            | none => rw [hx_8] at h; cases h
            | some I_7 =>
              rw [hx_8] at h
              dsimp only at h
              refine az_E.call (d := 124) (k' := 190) (vs := [.ref 73, .int a2]) (pc' := 39) (S' := []) (Q1 := fun v s => v = none ∧ s = (97, I_7, J, R)) rfl (az_E.deep (by omega) (re_M_asksFor (J := J) (R := R)  hx_8 ⟨rfl, rfl⟩)) (fun v s hq => ?_)
              obtain ⟨rfl, rfl⟩ := hq
              show az_E az_F ex 125 221 39 [.ref 73, .int a1, .int a2] [] (97, I_7, J, R) _
              refine az_E.sn 2 (pc' := 41) (L' := [.ref 73, .int a1, .int a2]) (S' := [.int a1, .ref 73]) (σ' := (97, I_7, J, R)) rfl ?_
              cases hx_11 : rs_M_firstFalse I_7 J a1 with
              | none => rw [hx_11] at h; cases h
              | some o =>
                rw [hx_11] at h
                obtain ⟨x_9, I_10⟩ := o
                dsimp only at h
                refine az_E.call (d := 124) (k' := 220) (vs := [.ref 73, .int a1]) (pc' := 44) (S' := []) (Q1 := fun v s => v = some (.int x_9) ∧ s = (97, I_10, J, R)) rfl (az_E.deep (by omega) (re_M_firstFalse (J := J) (R := R)  hx_11 ⟨rfl, rfl⟩)) (fun v s hq => ?_)
                obtain ⟨rfl, rfl⟩ := hq
                show az_E az_F ex 125 221 44 [.ref 73, .int a1, .int a2] [.int x_9] (97, I_10, J, R) _
                have h := Option.some.inj h
                subst h
                exact az_E.ret (v := some (.int x_9)) (σ' := (97, I_10, J, R)) rfl hQ
          · rw [if_neg hc_6] at h
            refine az_E.sn 2 (pc' := 30) (L' := [.ref 73, .int a1, .int a2]) (S' := [.int a1, .ref 73]) (σ' := (97, I, J, R)) rfl ?_
            refine az_E.call (d := 124) (k' := 219) (vs := [.ref 73, .int a1]) (pc' := 33) (S' := []) (Q1 := fun v s => v = some (.int x_1) ∧ s = (97, I, J, R)) rfl (az_E.deep (by omega) (re_M_shortsIs (J := J) (R := R)  hx_2 ⟨rfl, rfl⟩)) (fun v s hq => ?_)
            obtain ⟨rfl, rfl⟩ := hq
            show az_E az_F ex 125 221 33 [.ref 73, .int a1, .int a2] [.int x_1] (97, I, J, R) _
            have h := Option.some.inj h
            subst h
            exact az_E.ret (v := some (.int x_1)) (σ' := (97, I, J, R)) rfl hQ
set_option maxRecDepth 100000 in
set_option maxHeartbeats 4000000 in
theorem re_X_byHeart_103_16_21 {ex : az_X} {I : Nat → Nat → Int32} {J : Nat → Nat → Int64} {R : Nat → Nat → Option Nat} {v3 : Int32} {v4 : Int32} {v5 : Int32} (hR_3_2 : R 3 2 = some 16) (hR_3_3 : R 3 3 = some 21) {x : Int32 × (Nat → Nat → Int32)} (h : rs_X_byHeart_103 21 16 I J v3 v4 v5 = some x) {Q : Option Value → az_S → Prop} (hQ : ∀ R' : Nat → Nat → Option Nat, R' 3 2 = some 16 → R' 3 3 = some 21 → Q (some (.int x.1)) (97, x.2, J, R')) : az_E az_F ex 6 107 103 [.retAddr 0, .retAddr 0, .retAddr 0, .int v3, .int v4, .int v5, .retAddr 0] [] (97, I, J, (az_u (az_u R 26 2 (some 16)) 26 3 (some 5))) Q := by
  unfold rs_X_byHeart_103 at h
  refine az_E.sn 1 (pc' := 104) (L' := [.retAddr 0, .retAddr 0, .retAddr 0, .int v3, .int v4, .int v5, .retAddr 0]) (S' := [.int v3]) (σ' := (97, I, J, (az_u (az_u R 26 2 (some 16)) 26 3 (some 5)))) rfl ?_
  refine az_E.br (c := v3 = 0) (tt := 107) (ff := 112) (L' := [.retAddr 0, .retAddr 0, .retAddr 0, .int v3, .int v4, .int v5, .retAddr 0]) (S' := []) (σ' := (97, I, J, (az_u (az_u R 26 2 (some 16)) 26 3 (some 5)))) rfl (fun hc_12 => ?_) (fun hc_12 => ?_)
  · rw [if_pos hc_12] at h
    refine az_E.sn 2 (pc' := 114) (L' := [.retAddr 0, .retAddr 0, .retAddr 0, .int v3, .int v4, .int v5, .retAddr 0]) (S' := [.int v4]) (σ' := (97, I, J, (az_u (az_u R 26 2 (some 16)) 26 3 (some 5)))) rfl ?_
    have h := Option.some.inj h
    subst h
    exact az_E.ret (v := some (.int v4)) (σ' := (97, I, J, (az_u (az_u R 26 2 (some 16)) 26 3 (some 5)))) rfl (hQ _ hR_3_2 hR_3_3)
  · rw [if_neg hc_12] at h
    refine az_E.sn 1 (pc' := 114) (L' := [.retAddr 0, .retAddr 0, .retAddr 0, .int v3, .int v4, .int v5, .retAddr 0]) (S' := [.int v5]) (σ' := (97, I, J, (az_u (az_u R 26 2 (some 16)) 26 3 (some 5)))) rfl ?_
    have h := Option.some.inj h
    subst h
    exact az_E.ret (v := some (.int v5)) (σ' := (97, I, J, (az_u (az_u R 26 2 (some 16)) 26 3 (some 5)))) rfl (hQ _ hR_3_2 hR_3_3)
set_option maxRecDepth 100000 in
set_option maxHeartbeats 4000000 in
theorem re_X_byHeart_72_16_21_61 {ex : az_X} {I : Nat → Nat → Int32} {J : Nat → Nat → Int64} {R : Nat → Nat → Option Nat} {v1 : Int32} {v3 : Int32} {v4 : Int32} {v5 : Int32} {v6 : Int32} (hR_3_2 : R 3 2 = some 16) (hR_3_3 : R 3 3 = some 21) {x : ((Int32 × Int32 × Int32 × (Nat → Nat → Int32)) ⊕ (Int32 × (Nat → Nat → Int32)))} (h : rs_X_byHeart_72 21 16 61 I J v1 v3 v4 v5 v6 = some x) {Q : Option Value → az_S → Prop} (hQ : Sum.elim (fun s => az_E az_F ex 6 107 49 [.ref 3, .int v1, .retAddr 0, .int v3, .int s.1, .int s.2.1, .int s.2.2.1] [] (97, s.2.2.2, J, (az_u (az_u R 26 2 (some 16)) 26 3 (some 5))) Q) (fun x => ∀ R' : Nat → Nat → Option Nat, R' 3 2 = some 16 → R' 3 3 = some 21 → Q (some (.int x.1)) (97, x.2, J, R')) x) : az_E az_F ex 6 107 72 [.ref 3, .int v1, .retAddr 0, .int v3, .int v4, .int v5, .int v6] [.ref 61, .ref 3] (97, I, J, (az_u (az_u R 26 2 (some 16)) 26 3 (some 5))) Q := by
  unfold rs_X_byHeart_72 at h
  cases hx_18 : rs_X_firstWrongTwo 61 I J with
  | none => rw [hx_18] at h; cases h
  | some o =>
    rw [hx_18] at h
    obtain ⟨x_16, I_17⟩ := o
    dsimp only at h
    refine az_E.call (d := 5) (k' := 151) (vs := [.ref 3, .ref 61]) (pc' := 75) (S' := []) (Q1 := fun v s => v = some (.int x_16) ∧ s = (97, I_17, J, (az_u (az_u R 26 2 (some 16)) 26 3 (some 5)))) rfl (az_E.deep (by omega) (re_X_firstWrongTwo_61_5 (J := J) (R := (az_u (az_u R 26 2 (some 16)) 26 3 (some 5))) rfl hx_18 ⟨rfl, rfl⟩)) (fun v s hq => ?_)
    obtain ⟨rfl, rfl⟩ := hq
    show az_E az_F ex 6 107 75 [.ref 3, .int v1, .retAddr 0, .int v3, .int v4, .int v5, .int v6] [.int x_16] (97, I_17, J, (az_u (az_u R 26 2 (some 16)) 26 3 (some 5))) _
    refine az_E.sn 1 (pc' := 77) (L' := [.ref 3, .int v1, .retAddr 0, .int v3, .int v4, .int v5, .int v6]) (S' := [.int (-2 : Int32), .int x_16]) (σ' := (97, I_17, J, (az_u (az_u R 26 2 (some 16)) 26 3 (some 5)))) rfl ?_
    refine az_E.br (c := x_16 = (-2 : Int32)) (tt := 80) (ff := 97) (L' := [.ref 3, .int v1, .retAddr 0, .int v3, .int v4, .int v5, .int v6]) (S' := []) (σ' := (97, I_17, J, (az_u (az_u R 26 2 (some 16)) 26 3 (some 5)))) rfl (fun hc_19 => ?_) (fun hc_19 => ?_)
    · rw [if_pos hc_19] at h
      refine az_E.sn 1 (pc' := 82) (L' := [.ref 3, .int v1, .retAddr 0, .int v3, .int v4, .int v5, .int v6]) (S' := [.int v4]) (σ' := (97, I_17, J, (az_u (az_u R 26 2 (some 16)) 26 3 (some 5)))) rfl ?_
      refine az_E.br (c := v4 = 0) (tt := 85) (ff := 90) (L' := [.ref 3, .int v1, .retAddr 0, .int v3, .int v4, .int v5, .int v6]) (S' := []) (σ' := (97, I_17, J, (az_u (az_u R 26 2 (some 16)) 26 3 (some 5)))) rfl (fun hc_20 => ?_) (fun hc_20 => ?_)
      · rw [if_pos hc_20] at h
        refine az_E.sn 6 (pc' := 49) (L' := [.ref 3, .int v1, .retAddr 0, .int v3, .int (v4 + (1 : Int32)), .int v6, .int (v6 + (1 : Int32))]) (S' := []) (σ' := (97, I_17, J, (az_u (az_u R 26 2 (some 16)) 26 3 (some 5)))) rfl ?_
        have h := Option.some.inj h
        subst h
        exact az_E.forget (L := [.ref 3, .int v1, .retAddr 0, .int v3, .int (v4 + (1 : Int32)), .int v6, .int (v6 + (1 : Int32))]) ⟨rfl, rfl, trivial, rfl, rfl, rfl, rfl, trivial⟩ hQ
      · rw [if_neg hc_20] at h
        refine az_E.sn 5 (pc' := 49) (L' := [.ref 3, .int v1, .retAddr 0, .int v3, .int (v4 + (1 : Int32)), .int v5, .int (v6 + (1 : Int32))]) (S' := []) (σ' := (97, I_17, J, (az_u (az_u R 26 2 (some 16)) 26 3 (some 5)))) rfl ?_
        have h := Option.some.inj h
        subst h
        exact az_E.forget (L := [.ref 3, .int v1, .retAddr 0, .int v3, .int (v4 + (1 : Int32)), .int v5, .int (v6 + (1 : Int32))]) ⟨rfl, rfl, trivial, rfl, rfl, rfl, rfl, trivial⟩ hQ
    · rw [if_neg hc_19] at h
      refine az_E.sn 2 (pc' := 49) (L' := [.ref 3, .int v1, .retAddr 0, .int v3, .int v4, .int v5, .int (v6 + (1 : Int32))]) (S' := []) (σ' := (97, I_17, J, (az_u (az_u R 26 2 (some 16)) 26 3 (some 5)))) rfl ?_
      have h := Option.some.inj h
      subst h
      exact az_E.forget (L := [.ref 3, .int v1, .retAddr 0, .int v3, .int v4, .int v5, .int (v6 + (1 : Int32))]) ⟨rfl, rfl, trivial, rfl, rfl, rfl, rfl, trivial⟩ hQ
set_option maxRecDepth 100000 in
set_option maxHeartbeats 4000000 in
theorem re_X_byHeart_72_16_21_63 {ex : az_X} {I : Nat → Nat → Int32} {J : Nat → Nat → Int64} {R : Nat → Nat → Option Nat} {v1 : Int32} {v3 : Int32} {v4 : Int32} {v5 : Int32} {v6 : Int32} (hR_3_2 : R 3 2 = some 16) (hR_3_3 : R 3 3 = some 21) {x : ((Int32 × Int32 × Int32 × (Nat → Nat → Int32)) ⊕ (Int32 × (Nat → Nat → Int32)))} (h : rs_X_byHeart_72 21 16 63 I J v1 v3 v4 v5 v6 = some x) {Q : Option Value → az_S → Prop} (hQ : Sum.elim (fun s => az_E az_F ex 6 107 49 [.ref 3, .int v1, .retAddr 0, .int v3, .int s.1, .int s.2.1, .int s.2.2.1] [] (97, s.2.2.2, J, (az_u (az_u R 26 2 (some 16)) 26 3 (some 5))) Q) (fun x => ∀ R' : Nat → Nat → Option Nat, R' 3 2 = some 16 → R' 3 3 = some 21 → Q (some (.int x.1)) (97, x.2, J, R')) x) : az_E az_F ex 6 107 72 [.ref 3, .int v1, .retAddr 0, .int v3, .int v4, .int v5, .int v6] [.ref 63, .ref 3] (97, I, J, (az_u (az_u R 26 2 (some 16)) 26 3 (some 5))) Q := by
  unfold rs_X_byHeart_72 at h
  cases hx_23 : rs_X_firstWrongTwo 63 I J with
  | none => rw [hx_23] at h; cases h
  | some o =>
    rw [hx_23] at h
    obtain ⟨x_21, I_22⟩ := o
    dsimp only at h
    refine az_E.call (d := 5) (k' := 151) (vs := [.ref 3, .ref 63]) (pc' := 75) (S' := []) (Q1 := fun v s => v = some (.int x_21) ∧ s = (97, I_22, J, (az_u (az_u R 26 2 (some 16)) 26 3 (some 5)))) rfl (az_E.deep (by omega) (re_X_firstWrongTwo_63_5 (J := J) (R := (az_u (az_u R 26 2 (some 16)) 26 3 (some 5))) rfl hx_23 ⟨rfl, rfl⟩)) (fun v s hq => ?_)
    obtain ⟨rfl, rfl⟩ := hq
    show az_E az_F ex 6 107 75 [.ref 3, .int v1, .retAddr 0, .int v3, .int v4, .int v5, .int v6] [.int x_21] (97, I_22, J, (az_u (az_u R 26 2 (some 16)) 26 3 (some 5))) _
    refine az_E.sn 1 (pc' := 77) (L' := [.ref 3, .int v1, .retAddr 0, .int v3, .int v4, .int v5, .int v6]) (S' := [.int (-2 : Int32), .int x_21]) (σ' := (97, I_22, J, (az_u (az_u R 26 2 (some 16)) 26 3 (some 5)))) rfl ?_
    refine az_E.br (c := x_21 = (-2 : Int32)) (tt := 80) (ff := 97) (L' := [.ref 3, .int v1, .retAddr 0, .int v3, .int v4, .int v5, .int v6]) (S' := []) (σ' := (97, I_22, J, (az_u (az_u R 26 2 (some 16)) 26 3 (some 5)))) rfl (fun hc_24 => ?_) (fun hc_24 => ?_)
    · rw [if_pos hc_24] at h
      refine az_E.sn 1 (pc' := 82) (L' := [.ref 3, .int v1, .retAddr 0, .int v3, .int v4, .int v5, .int v6]) (S' := [.int v4]) (σ' := (97, I_22, J, (az_u (az_u R 26 2 (some 16)) 26 3 (some 5)))) rfl ?_
      refine az_E.br (c := v4 = 0) (tt := 85) (ff := 90) (L' := [.ref 3, .int v1, .retAddr 0, .int v3, .int v4, .int v5, .int v6]) (S' := []) (σ' := (97, I_22, J, (az_u (az_u R 26 2 (some 16)) 26 3 (some 5)))) rfl (fun hc_25 => ?_) (fun hc_25 => ?_)
      · rw [if_pos hc_25] at h
        refine az_E.sn 6 (pc' := 49) (L' := [.ref 3, .int v1, .retAddr 0, .int v3, .int (v4 + (1 : Int32)), .int v6, .int (v6 + (1 : Int32))]) (S' := []) (σ' := (97, I_22, J, (az_u (az_u R 26 2 (some 16)) 26 3 (some 5)))) rfl ?_
        have h := Option.some.inj h
        subst h
        exact az_E.forget (L := [.ref 3, .int v1, .retAddr 0, .int v3, .int (v4 + (1 : Int32)), .int v6, .int (v6 + (1 : Int32))]) ⟨rfl, rfl, trivial, rfl, rfl, rfl, rfl, trivial⟩ hQ
      · rw [if_neg hc_25] at h
        refine az_E.sn 5 (pc' := 49) (L' := [.ref 3, .int v1, .retAddr 0, .int v3, .int (v4 + (1 : Int32)), .int v5, .int (v6 + (1 : Int32))]) (S' := []) (σ' := (97, I_22, J, (az_u (az_u R 26 2 (some 16)) 26 3 (some 5)))) rfl ?_
        have h := Option.some.inj h
        subst h
        exact az_E.forget (L := [.ref 3, .int v1, .retAddr 0, .int v3, .int (v4 + (1 : Int32)), .int v5, .int (v6 + (1 : Int32))]) ⟨rfl, rfl, trivial, rfl, rfl, rfl, rfl, trivial⟩ hQ
    · rw [if_neg hc_24] at h
      refine az_E.sn 2 (pc' := 49) (L' := [.ref 3, .int v1, .retAddr 0, .int v3, .int v4, .int v5, .int (v6 + (1 : Int32))]) (S' := []) (σ' := (97, I_22, J, (az_u (az_u R 26 2 (some 16)) 26 3 (some 5)))) rfl ?_
      have h := Option.some.inj h
      subst h
      exact az_E.forget (L := [.ref 3, .int v1, .retAddr 0, .int v3, .int v4, .int v5, .int (v6 + (1 : Int32))]) ⟨rfl, rfl, trivial, rfl, rfl, rfl, rfl, trivial⟩ hQ
set_option maxRecDepth 100000 in
set_option maxHeartbeats 4000000 in
theorem re_X_byHeart_72_16_21_65 {ex : az_X} {I : Nat → Nat → Int32} {J : Nat → Nat → Int64} {R : Nat → Nat → Option Nat} {v1 : Int32} {v3 : Int32} {v4 : Int32} {v5 : Int32} {v6 : Int32} (hR_3_2 : R 3 2 = some 16) (hR_3_3 : R 3 3 = some 21) {x : ((Int32 × Int32 × Int32 × (Nat → Nat → Int32)) ⊕ (Int32 × (Nat → Nat → Int32)))} (h : rs_X_byHeart_72 21 16 65 I J v1 v3 v4 v5 v6 = some x) {Q : Option Value → az_S → Prop} (hQ : Sum.elim (fun s => az_E az_F ex 6 107 49 [.ref 3, .int v1, .retAddr 0, .int v3, .int s.1, .int s.2.1, .int s.2.2.1] [] (97, s.2.2.2, J, (az_u (az_u R 26 2 (some 16)) 26 3 (some 5))) Q) (fun x => ∀ R' : Nat → Nat → Option Nat, R' 3 2 = some 16 → R' 3 3 = some 21 → Q (some (.int x.1)) (97, x.2, J, R')) x) : az_E az_F ex 6 107 72 [.ref 3, .int v1, .retAddr 0, .int v3, .int v4, .int v5, .int v6] [.ref 65, .ref 3] (97, I, J, (az_u (az_u R 26 2 (some 16)) 26 3 (some 5))) Q := by
  unfold rs_X_byHeart_72 at h
  cases hx_28 : rs_X_firstWrongTwo 65 I J with
  | none => rw [hx_28] at h; cases h
  | some o =>
    rw [hx_28] at h
    obtain ⟨x_26, I_27⟩ := o
    dsimp only at h
    refine az_E.call (d := 5) (k' := 151) (vs := [.ref 3, .ref 65]) (pc' := 75) (S' := []) (Q1 := fun v s => v = some (.int x_26) ∧ s = (97, I_27, J, (az_u (az_u R 26 2 (some 16)) 26 3 (some 5)))) rfl (az_E.deep (by omega) (re_X_firstWrongTwo_65_5 (J := J) (R := (az_u (az_u R 26 2 (some 16)) 26 3 (some 5))) rfl hx_28 ⟨rfl, rfl⟩)) (fun v s hq => ?_)
    obtain ⟨rfl, rfl⟩ := hq
    show az_E az_F ex 6 107 75 [.ref 3, .int v1, .retAddr 0, .int v3, .int v4, .int v5, .int v6] [.int x_26] (97, I_27, J, (az_u (az_u R 26 2 (some 16)) 26 3 (some 5))) _
    refine az_E.sn 1 (pc' := 77) (L' := [.ref 3, .int v1, .retAddr 0, .int v3, .int v4, .int v5, .int v6]) (S' := [.int (-2 : Int32), .int x_26]) (σ' := (97, I_27, J, (az_u (az_u R 26 2 (some 16)) 26 3 (some 5)))) rfl ?_
    refine az_E.br (c := x_26 = (-2 : Int32)) (tt := 80) (ff := 97) (L' := [.ref 3, .int v1, .retAddr 0, .int v3, .int v4, .int v5, .int v6]) (S' := []) (σ' := (97, I_27, J, (az_u (az_u R 26 2 (some 16)) 26 3 (some 5)))) rfl (fun hc_29 => ?_) (fun hc_29 => ?_)
    · rw [if_pos hc_29] at h
      refine az_E.sn 1 (pc' := 82) (L' := [.ref 3, .int v1, .retAddr 0, .int v3, .int v4, .int v5, .int v6]) (S' := [.int v4]) (σ' := (97, I_27, J, (az_u (az_u R 26 2 (some 16)) 26 3 (some 5)))) rfl ?_
      refine az_E.br (c := v4 = 0) (tt := 85) (ff := 90) (L' := [.ref 3, .int v1, .retAddr 0, .int v3, .int v4, .int v5, .int v6]) (S' := []) (σ' := (97, I_27, J, (az_u (az_u R 26 2 (some 16)) 26 3 (some 5)))) rfl (fun hc_30 => ?_) (fun hc_30 => ?_)
      · rw [if_pos hc_30] at h
        refine az_E.sn 6 (pc' := 49) (L' := [.ref 3, .int v1, .retAddr 0, .int v3, .int (v4 + (1 : Int32)), .int v6, .int (v6 + (1 : Int32))]) (S' := []) (σ' := (97, I_27, J, (az_u (az_u R 26 2 (some 16)) 26 3 (some 5)))) rfl ?_
        have h := Option.some.inj h
        subst h
        exact az_E.forget (L := [.ref 3, .int v1, .retAddr 0, .int v3, .int (v4 + (1 : Int32)), .int v6, .int (v6 + (1 : Int32))]) ⟨rfl, rfl, trivial, rfl, rfl, rfl, rfl, trivial⟩ hQ
      · rw [if_neg hc_30] at h
        refine az_E.sn 5 (pc' := 49) (L' := [.ref 3, .int v1, .retAddr 0, .int v3, .int (v4 + (1 : Int32)), .int v5, .int (v6 + (1 : Int32))]) (S' := []) (σ' := (97, I_27, J, (az_u (az_u R 26 2 (some 16)) 26 3 (some 5)))) rfl ?_
        have h := Option.some.inj h
        subst h
        exact az_E.forget (L := [.ref 3, .int v1, .retAddr 0, .int v3, .int (v4 + (1 : Int32)), .int v5, .int (v6 + (1 : Int32))]) ⟨rfl, rfl, trivial, rfl, rfl, rfl, rfl, trivial⟩ hQ
    · rw [if_neg hc_29] at h
      refine az_E.sn 2 (pc' := 49) (L' := [.ref 3, .int v1, .retAddr 0, .int v3, .int v4, .int v5, .int (v6 + (1 : Int32))]) (S' := []) (σ' := (97, I_27, J, (az_u (az_u R 26 2 (some 16)) 26 3 (some 5)))) rfl ?_
      have h := Option.some.inj h
      subst h
      exact az_E.forget (L := [.ref 3, .int v1, .retAddr 0, .int v3, .int v4, .int v5, .int (v6 + (1 : Int32))]) ⟨rfl, rfl, trivial, rfl, rfl, rfl, rfl, trivial⟩ hQ
set_option maxRecDepth 100000 in
set_option maxHeartbeats 4000000 in
theorem re_X_byHeart_72_16_21_67 {ex : az_X} {I : Nat → Nat → Int32} {J : Nat → Nat → Int64} {R : Nat → Nat → Option Nat} {v1 : Int32} {v3 : Int32} {v4 : Int32} {v5 : Int32} {v6 : Int32} (hR_3_2 : R 3 2 = some 16) (hR_3_3 : R 3 3 = some 21) {x : ((Int32 × Int32 × Int32 × (Nat → Nat → Int32)) ⊕ (Int32 × (Nat → Nat → Int32)))} (h : rs_X_byHeart_72 21 16 67 I J v1 v3 v4 v5 v6 = some x) {Q : Option Value → az_S → Prop} (hQ : Sum.elim (fun s => az_E az_F ex 6 107 49 [.ref 3, .int v1, .retAddr 0, .int v3, .int s.1, .int s.2.1, .int s.2.2.1] [] (97, s.2.2.2, J, (az_u (az_u R 26 2 (some 16)) 26 3 (some 5))) Q) (fun x => ∀ R' : Nat → Nat → Option Nat, R' 3 2 = some 16 → R' 3 3 = some 21 → Q (some (.int x.1)) (97, x.2, J, R')) x) : az_E az_F ex 6 107 72 [.ref 3, .int v1, .retAddr 0, .int v3, .int v4, .int v5, .int v6] [.ref 67, .ref 3] (97, I, J, (az_u (az_u R 26 2 (some 16)) 26 3 (some 5))) Q := by
  unfold rs_X_byHeart_72 at h
  cases hx_33 : rs_X_firstWrongTwo 67 I J with
  | none => rw [hx_33] at h; cases h
  | some o =>
    rw [hx_33] at h
    obtain ⟨x_31, I_32⟩ := o
    dsimp only at h
    refine az_E.call (d := 5) (k' := 151) (vs := [.ref 3, .ref 67]) (pc' := 75) (S' := []) (Q1 := fun v s => v = some (.int x_31) ∧ s = (97, I_32, J, (az_u (az_u R 26 2 (some 16)) 26 3 (some 5)))) rfl (az_E.deep (by omega) (re_X_firstWrongTwo_67_5 (J := J) (R := (az_u (az_u R 26 2 (some 16)) 26 3 (some 5))) rfl hx_33 ⟨rfl, rfl⟩)) (fun v s hq => ?_)
    obtain ⟨rfl, rfl⟩ := hq
    show az_E az_F ex 6 107 75 [.ref 3, .int v1, .retAddr 0, .int v3, .int v4, .int v5, .int v6] [.int x_31] (97, I_32, J, (az_u (az_u R 26 2 (some 16)) 26 3 (some 5))) _
    refine az_E.sn 1 (pc' := 77) (L' := [.ref 3, .int v1, .retAddr 0, .int v3, .int v4, .int v5, .int v6]) (S' := [.int (-2 : Int32), .int x_31]) (σ' := (97, I_32, J, (az_u (az_u R 26 2 (some 16)) 26 3 (some 5)))) rfl ?_
    refine az_E.br (c := x_31 = (-2 : Int32)) (tt := 80) (ff := 97) (L' := [.ref 3, .int v1, .retAddr 0, .int v3, .int v4, .int v5, .int v6]) (S' := []) (σ' := (97, I_32, J, (az_u (az_u R 26 2 (some 16)) 26 3 (some 5)))) rfl (fun hc_34 => ?_) (fun hc_34 => ?_)
    · rw [if_pos hc_34] at h
      refine az_E.sn 1 (pc' := 82) (L' := [.ref 3, .int v1, .retAddr 0, .int v3, .int v4, .int v5, .int v6]) (S' := [.int v4]) (σ' := (97, I_32, J, (az_u (az_u R 26 2 (some 16)) 26 3 (some 5)))) rfl ?_
      refine az_E.br (c := v4 = 0) (tt := 85) (ff := 90) (L' := [.ref 3, .int v1, .retAddr 0, .int v3, .int v4, .int v5, .int v6]) (S' := []) (σ' := (97, I_32, J, (az_u (az_u R 26 2 (some 16)) 26 3 (some 5)))) rfl (fun hc_35 => ?_) (fun hc_35 => ?_)
      · rw [if_pos hc_35] at h
        refine az_E.sn 6 (pc' := 49) (L' := [.ref 3, .int v1, .retAddr 0, .int v3, .int (v4 + (1 : Int32)), .int v6, .int (v6 + (1 : Int32))]) (S' := []) (σ' := (97, I_32, J, (az_u (az_u R 26 2 (some 16)) 26 3 (some 5)))) rfl ?_
        have h := Option.some.inj h
        subst h
        exact az_E.forget (L := [.ref 3, .int v1, .retAddr 0, .int v3, .int (v4 + (1 : Int32)), .int v6, .int (v6 + (1 : Int32))]) ⟨rfl, rfl, trivial, rfl, rfl, rfl, rfl, trivial⟩ hQ
      · rw [if_neg hc_35] at h
        refine az_E.sn 5 (pc' := 49) (L' := [.ref 3, .int v1, .retAddr 0, .int v3, .int (v4 + (1 : Int32)), .int v5, .int (v6 + (1 : Int32))]) (S' := []) (σ' := (97, I_32, J, (az_u (az_u R 26 2 (some 16)) 26 3 (some 5)))) rfl ?_
        have h := Option.some.inj h
        subst h
        exact az_E.forget (L := [.ref 3, .int v1, .retAddr 0, .int v3, .int (v4 + (1 : Int32)), .int v5, .int (v6 + (1 : Int32))]) ⟨rfl, rfl, trivial, rfl, rfl, rfl, rfl, trivial⟩ hQ
    · rw [if_neg hc_34] at h
      refine az_E.sn 2 (pc' := 49) (L' := [.ref 3, .int v1, .retAddr 0, .int v3, .int v4, .int v5, .int (v6 + (1 : Int32))]) (S' := []) (σ' := (97, I_32, J, (az_u (az_u R 26 2 (some 16)) 26 3 (some 5)))) rfl ?_
      have h := Option.some.inj h
      subst h
      exact az_E.forget (L := [.ref 3, .int v1, .retAddr 0, .int v3, .int v4, .int v5, .int (v6 + (1 : Int32))]) ⟨rfl, rfl, trivial, rfl, rfl, rfl, rfl, trivial⟩ hQ
set_option maxRecDepth 100000 in
set_option maxHeartbeats 4000000 in
theorem re_X_byHeart_72_16_21_69 {ex : az_X} {I : Nat → Nat → Int32} {J : Nat → Nat → Int64} {R : Nat → Nat → Option Nat} {v1 : Int32} {v3 : Int32} {v4 : Int32} {v5 : Int32} {v6 : Int32} (hR_3_2 : R 3 2 = some 16) (hR_3_3 : R 3 3 = some 21) {x : ((Int32 × Int32 × Int32 × (Nat → Nat → Int32)) ⊕ (Int32 × (Nat → Nat → Int32)))} (h : rs_X_byHeart_72 21 16 69 I J v1 v3 v4 v5 v6 = some x) {Q : Option Value → az_S → Prop} (hQ : Sum.elim (fun s => az_E az_F ex 6 107 49 [.ref 3, .int v1, .retAddr 0, .int v3, .int s.1, .int s.2.1, .int s.2.2.1] [] (97, s.2.2.2, J, (az_u (az_u R 26 2 (some 16)) 26 3 (some 5))) Q) (fun x => ∀ R' : Nat → Nat → Option Nat, R' 3 2 = some 16 → R' 3 3 = some 21 → Q (some (.int x.1)) (97, x.2, J, R')) x) : az_E az_F ex 6 107 72 [.ref 3, .int v1, .retAddr 0, .int v3, .int v4, .int v5, .int v6] [.ref 69, .ref 3] (97, I, J, (az_u (az_u R 26 2 (some 16)) 26 3 (some 5))) Q := by
  unfold rs_X_byHeart_72 at h
  cases hx_38 : rs_X_firstWrongTwo 69 I J with
  | none => rw [hx_38] at h; cases h
  | some o =>
    rw [hx_38] at h
    obtain ⟨x_36, I_37⟩ := o
    dsimp only at h
    refine az_E.call (d := 5) (k' := 151) (vs := [.ref 3, .ref 69]) (pc' := 75) (S' := []) (Q1 := fun v s => v = some (.int x_36) ∧ s = (97, I_37, J, (az_u (az_u R 26 2 (some 16)) 26 3 (some 5)))) rfl (az_E.deep (by omega) (re_X_firstWrongTwo_69_5 (J := J) (R := (az_u (az_u R 26 2 (some 16)) 26 3 (some 5))) rfl hx_38 ⟨rfl, rfl⟩)) (fun v s hq => ?_)
    obtain ⟨rfl, rfl⟩ := hq
    show az_E az_F ex 6 107 75 [.ref 3, .int v1, .retAddr 0, .int v3, .int v4, .int v5, .int v6] [.int x_36] (97, I_37, J, (az_u (az_u R 26 2 (some 16)) 26 3 (some 5))) _
    refine az_E.sn 1 (pc' := 77) (L' := [.ref 3, .int v1, .retAddr 0, .int v3, .int v4, .int v5, .int v6]) (S' := [.int (-2 : Int32), .int x_36]) (σ' := (97, I_37, J, (az_u (az_u R 26 2 (some 16)) 26 3 (some 5)))) rfl ?_
    refine az_E.br (c := x_36 = (-2 : Int32)) (tt := 80) (ff := 97) (L' := [.ref 3, .int v1, .retAddr 0, .int v3, .int v4, .int v5, .int v6]) (S' := []) (σ' := (97, I_37, J, (az_u (az_u R 26 2 (some 16)) 26 3 (some 5)))) rfl (fun hc_39 => ?_) (fun hc_39 => ?_)
    · rw [if_pos hc_39] at h
      refine az_E.sn 1 (pc' := 82) (L' := [.ref 3, .int v1, .retAddr 0, .int v3, .int v4, .int v5, .int v6]) (S' := [.int v4]) (σ' := (97, I_37, J, (az_u (az_u R 26 2 (some 16)) 26 3 (some 5)))) rfl ?_
      refine az_E.br (c := v4 = 0) (tt := 85) (ff := 90) (L' := [.ref 3, .int v1, .retAddr 0, .int v3, .int v4, .int v5, .int v6]) (S' := []) (σ' := (97, I_37, J, (az_u (az_u R 26 2 (some 16)) 26 3 (some 5)))) rfl (fun hc_40 => ?_) (fun hc_40 => ?_)
      · rw [if_pos hc_40] at h
        refine az_E.sn 6 (pc' := 49) (L' := [.ref 3, .int v1, .retAddr 0, .int v3, .int (v4 + (1 : Int32)), .int v6, .int (v6 + (1 : Int32))]) (S' := []) (σ' := (97, I_37, J, (az_u (az_u R 26 2 (some 16)) 26 3 (some 5)))) rfl ?_
        have h := Option.some.inj h
        subst h
        exact az_E.forget (L := [.ref 3, .int v1, .retAddr 0, .int v3, .int (v4 + (1 : Int32)), .int v6, .int (v6 + (1 : Int32))]) ⟨rfl, rfl, trivial, rfl, rfl, rfl, rfl, trivial⟩ hQ
      · rw [if_neg hc_40] at h
        refine az_E.sn 5 (pc' := 49) (L' := [.ref 3, .int v1, .retAddr 0, .int v3, .int (v4 + (1 : Int32)), .int v5, .int (v6 + (1 : Int32))]) (S' := []) (σ' := (97, I_37, J, (az_u (az_u R 26 2 (some 16)) 26 3 (some 5)))) rfl ?_
        have h := Option.some.inj h
        subst h
        exact az_E.forget (L := [.ref 3, .int v1, .retAddr 0, .int v3, .int (v4 + (1 : Int32)), .int v5, .int (v6 + (1 : Int32))]) ⟨rfl, rfl, trivial, rfl, rfl, rfl, rfl, trivial⟩ hQ
    · rw [if_neg hc_39] at h
      refine az_E.sn 2 (pc' := 49) (L' := [.ref 3, .int v1, .retAddr 0, .int v3, .int v4, .int v5, .int (v6 + (1 : Int32))]) (S' := []) (σ' := (97, I_37, J, (az_u (az_u R 26 2 (some 16)) 26 3 (some 5)))) rfl ?_
      have h := Option.some.inj h
      subst h
      exact az_E.forget (L := [.ref 3, .int v1, .retAddr 0, .int v3, .int v4, .int v5, .int (v6 + (1 : Int32))]) ⟨rfl, rfl, trivial, rfl, rfl, rfl, rfl, trivial⟩ hQ
set_option maxRecDepth 100000 in
set_option maxHeartbeats 4000000 in
theorem re_X_byHeart_72_16_21_71 {ex : az_X} {I : Nat → Nat → Int32} {J : Nat → Nat → Int64} {R : Nat → Nat → Option Nat} {v1 : Int32} {v3 : Int32} {v4 : Int32} {v5 : Int32} {v6 : Int32} (hR_3_2 : R 3 2 = some 16) (hR_3_3 : R 3 3 = some 21) {x : ((Int32 × Int32 × Int32 × (Nat → Nat → Int32)) ⊕ (Int32 × (Nat → Nat → Int32)))} (h : rs_X_byHeart_72 21 16 71 I J v1 v3 v4 v5 v6 = some x) {Q : Option Value → az_S → Prop} (hQ : Sum.elim (fun s => az_E az_F ex 6 107 49 [.ref 3, .int v1, .retAddr 0, .int v3, .int s.1, .int s.2.1, .int s.2.2.1] [] (97, s.2.2.2, J, (az_u (az_u R 26 2 (some 16)) 26 3 (some 5))) Q) (fun x => ∀ R' : Nat → Nat → Option Nat, R' 3 2 = some 16 → R' 3 3 = some 21 → Q (some (.int x.1)) (97, x.2, J, R')) x) : az_E az_F ex 6 107 72 [.ref 3, .int v1, .retAddr 0, .int v3, .int v4, .int v5, .int v6] [.ref 71, .ref 3] (97, I, J, (az_u (az_u R 26 2 (some 16)) 26 3 (some 5))) Q := by
  unfold rs_X_byHeart_72 at h
  cases hx_43 : rs_X_firstWrongTwo 71 I J with
  | none => rw [hx_43] at h; cases h
  | some o =>
    rw [hx_43] at h
    obtain ⟨x_41, I_42⟩ := o
    dsimp only at h
    refine az_E.call (d := 5) (k' := 151) (vs := [.ref 3, .ref 71]) (pc' := 75) (S' := []) (Q1 := fun v s => v = some (.int x_41) ∧ s = (97, I_42, J, (az_u (az_u R 26 2 (some 16)) 26 3 (some 5)))) rfl (az_E.deep (by omega) (re_X_firstWrongTwo_71_5 (J := J) (R := (az_u (az_u R 26 2 (some 16)) 26 3 (some 5))) rfl hx_43 ⟨rfl, rfl⟩)) (fun v s hq => ?_)
    obtain ⟨rfl, rfl⟩ := hq
    show az_E az_F ex 6 107 75 [.ref 3, .int v1, .retAddr 0, .int v3, .int v4, .int v5, .int v6] [.int x_41] (97, I_42, J, (az_u (az_u R 26 2 (some 16)) 26 3 (some 5))) _
    refine az_E.sn 1 (pc' := 77) (L' := [.ref 3, .int v1, .retAddr 0, .int v3, .int v4, .int v5, .int v6]) (S' := [.int (-2 : Int32), .int x_41]) (σ' := (97, I_42, J, (az_u (az_u R 26 2 (some 16)) 26 3 (some 5)))) rfl ?_
    refine az_E.br (c := x_41 = (-2 : Int32)) (tt := 80) (ff := 97) (L' := [.ref 3, .int v1, .retAddr 0, .int v3, .int v4, .int v5, .int v6]) (S' := []) (σ' := (97, I_42, J, (az_u (az_u R 26 2 (some 16)) 26 3 (some 5)))) rfl (fun hc_44 => ?_) (fun hc_44 => ?_)
    · rw [if_pos hc_44] at h
      refine az_E.sn 1 (pc' := 82) (L' := [.ref 3, .int v1, .retAddr 0, .int v3, .int v4, .int v5, .int v6]) (S' := [.int v4]) (σ' := (97, I_42, J, (az_u (az_u R 26 2 (some 16)) 26 3 (some 5)))) rfl ?_
      refine az_E.br (c := v4 = 0) (tt := 85) (ff := 90) (L' := [.ref 3, .int v1, .retAddr 0, .int v3, .int v4, .int v5, .int v6]) (S' := []) (σ' := (97, I_42, J, (az_u (az_u R 26 2 (some 16)) 26 3 (some 5)))) rfl (fun hc_45 => ?_) (fun hc_45 => ?_)
      · rw [if_pos hc_45] at h
        refine az_E.sn 6 (pc' := 49) (L' := [.ref 3, .int v1, .retAddr 0, .int v3, .int (v4 + (1 : Int32)), .int v6, .int (v6 + (1 : Int32))]) (S' := []) (σ' := (97, I_42, J, (az_u (az_u R 26 2 (some 16)) 26 3 (some 5)))) rfl ?_
        have h := Option.some.inj h
        subst h
        exact az_E.forget (L := [.ref 3, .int v1, .retAddr 0, .int v3, .int (v4 + (1 : Int32)), .int v6, .int (v6 + (1 : Int32))]) ⟨rfl, rfl, trivial, rfl, rfl, rfl, rfl, trivial⟩ hQ
      · rw [if_neg hc_45] at h
        refine az_E.sn 5 (pc' := 49) (L' := [.ref 3, .int v1, .retAddr 0, .int v3, .int (v4 + (1 : Int32)), .int v5, .int (v6 + (1 : Int32))]) (S' := []) (σ' := (97, I_42, J, (az_u (az_u R 26 2 (some 16)) 26 3 (some 5)))) rfl ?_
        have h := Option.some.inj h
        subst h
        exact az_E.forget (L := [.ref 3, .int v1, .retAddr 0, .int v3, .int (v4 + (1 : Int32)), .int v5, .int (v6 + (1 : Int32))]) ⟨rfl, rfl, trivial, rfl, rfl, rfl, rfl, trivial⟩ hQ
    · rw [if_neg hc_44] at h
      refine az_E.sn 2 (pc' := 49) (L' := [.ref 3, .int v1, .retAddr 0, .int v3, .int v4, .int v5, .int (v6 + (1 : Int32))]) (S' := []) (σ' := (97, I_42, J, (az_u (az_u R 26 2 (some 16)) 26 3 (some 5)))) rfl ?_
      have h := Option.some.inj h
      subst h
      exact az_E.forget (L := [.ref 3, .int v1, .retAddr 0, .int v3, .int v4, .int v5, .int (v6 + (1 : Int32))]) ⟨rfl, rfl, trivial, rfl, rfl, rfl, rfl, trivial⟩ hQ
set_option maxRecDepth 100000 in
set_option maxHeartbeats 4000000 in
theorem re_X_byHeart_49_b_16_21 {ex : az_X} {I : Nat → Nat → Int32} {J : Nat → Nat → Int64} {R : Nat → Nat → Option Nat} {v1 : Int32} {v3 : Int32} {v4 : Int32} {v5 : Int32} {v6 : Int32} (hR_3_2 : R 3 2 = some 16) (hR_3_3 : R 3 3 = some 21) {x : ((Int32 × Int32 × Int32 × (Nat → Nat → Int32)) ⊕ (Int32 × (Nat → Nat → Int32)))} (h : rs_X_byHeart_49_b 21 16 J v1 v3 v4 v5 v6 I = some x) {Q : Option Value → az_S → Prop} (hQ : Sum.elim (fun s => az_E az_F ex 6 107 49 [.ref 3, .int v1, .retAddr 0, .int v3, .int s.1, .int s.2.1, .int s.2.2.1] [] (97, s.2.2.2, J, (az_u (az_u R 26 2 (some 16)) 26 3 (some 5))) Q) (fun x => ∀ R' : Nat → Nat → Option Nat, R' 3 2 = some 16 → R' 3 3 = some 21 → Q (some (.int x.1)) (97, x.2, J, R')) x) : az_E az_F ex 6 107 49 [.ref 3, .int v1, .retAddr 0, .int v3, .int v4, .int v5, .int v6] [] (97, I, J, (az_u (az_u R 26 2 (some 16)) 26 3 (some 5))) Q := by
  unfold rs_X_byHeart_49_b at h
  refine az_E.sn 2 (pc' := 53) (L' := [.ref 3, .int v1, .retAddr 0, .int v3, .int v4, .int v5, .int v6]) (S' := [.int (9 : Int32), .int v6]) (σ' := (97, I, J, (az_u (az_u R 26 2 (some 16)) 26 3 (some 5)))) rfl ?_
  refine az_E.br (c := (9 : Int32) < v6) (tt := 103) (ff := 56) (L' := [.ref 3, .int v1, .retAddr 0, .int v3, .int v4, .int v5, .int v6]) (S' := []) (σ' := (97, I, J, (az_u (az_u R 26 2 (some 16)) 26 3 (some 5)))) rfl (fun hc_11 => ?_) (fun hc_11 => ?_)
  · rw [if_pos hc_11] at h
    obtain ⟨x, hx, rfl⟩ := Option.map_eq_some_iff.mp h
    exact az_E.forget (L := [.retAddr 0, .retAddr 0, .retAddr 0, .int v3, .int v4, .int v5, .retAddr 0]) ⟨trivial, trivial, trivial, rfl, rfl, rfl, trivial, trivial⟩ (re_X_byHeart_103_16_21 (I := I) (J := J) (R := R) hR_3_2 hR_3_3 hx hQ)
  · rw [if_neg hc_11] at h
    refine az_E.sn 3 (pc' := 62) (L' := [.ref 3, .int v1, .retAddr 0, .int v3, .int v4, .int v5, .int v6]) (S' := [.int v6, .ref 26]) (σ' := (97, I, J, (az_u (az_u R 26 2 (some 16)) 26 3 (some 5)))) rfl ?_
    cases hx_14 : rs_Pa_withHeart 26 16 I v6 with
    | none => rw [hx_14] at h; cases h
    | some I_13 =>
      rw [hx_14] at h
      dsimp only at h
      refine az_E.call (d := 5) (k' := 44) (vs := [.ref 26, .int v6]) (pc' := 65) (S' := []) (Q1 := fun v s => v = none ∧ s = (97, I_13, J, (az_u (az_u R 26 2 (some 16)) 26 3 (some 5)))) rfl (az_E.deep (by omega) (re_Pa_withHeart_26_16 (J := J) (R := (az_u (az_u R 26 2 (some 16)) 26 3 (some 5))) rfl hx_14 ⟨rfl, rfl⟩)) (fun v s hq => ?_)
      obtain ⟨rfl, rfl⟩ := hq
      show az_E az_F ex 6 107 65 [.ref 3, .int v1, .retAddr 0, .int v3, .int v4, .int v5, .int v6] [] (97, I_13, J, (az_u (az_u R 26 2 (some 16)) 26 3 (some 5))) _
      refine az_E.sn 4 (pc' := 71) (L' := [.ref 3, .int v1, .retAddr 0, .int v3, .int v4, .int v5, .int v6]) (S' := [.int v1, .ref 58, .ref 3]) (σ' := (97, I_13, J, (az_u (az_u R 26 2 (some 16)) 26 3 (some 5)))) rfl ?_
      by_cases hc_15 : v1 < 0 ∨ 6 ≤ v1.toNatClampNeg
      · rw [if_pos hc_15] at h; cases h
      · rw [if_neg hc_15] at h
        rcases az_six hc_15 with ehc_15 | ehc_15 | ehc_15 | ehc_15 | ehc_15 | ehc_15
        · rw [ehc_15] at h ⊢; (try rw [ehc_15] at hQ)
          refine az_E.ov (pc' := 72) (L' := [.ref 3, .int (0 : Int32), .retAddr 0, .int v3, .int v4, .int v5, .int v6]) (S' := [.ref 3]) (σ' := (97, I_13, J, (az_u (az_u R 26 2 (some 16)) 26 3 (some 5)))) (x := .ref 61) (o := az_aa az_F (97, I_13, J, (az_u (az_u R 26 2 (some 16)) 26 3 (some 5))) 58 (0 : Int32)) rfl rfl ?_
          exact az_E.forget (L := [.ref 3, .int (0 : Int32), .retAddr 0, .int v3, .int v4, .int v5, .int v6]) ⟨rfl, rfl, trivial, rfl, rfl, rfl, rfl, trivial⟩ (re_X_byHeart_72_16_21_61 (I := I_13) (J := J) (R := R) hR_3_2 hR_3_3 h hQ)
        · rw [ehc_15] at h ⊢; (try rw [ehc_15] at hQ)
          refine az_E.ov (pc' := 72) (L' := [.ref 3, .int (1 : Int32), .retAddr 0, .int v3, .int v4, .int v5, .int v6]) (S' := [.ref 3]) (σ' := (97, I_13, J, (az_u (az_u R 26 2 (some 16)) 26 3 (some 5)))) (x := .ref 63) (o := az_aa az_F (97, I_13, J, (az_u (az_u R 26 2 (some 16)) 26 3 (some 5))) 58 (1 : Int32)) rfl rfl ?_
          exact az_E.forget (L := [.ref 3, .int (1 : Int32), .retAddr 0, .int v3, .int v4, .int v5, .int v6]) ⟨rfl, rfl, trivial, rfl, rfl, rfl, rfl, trivial⟩ (re_X_byHeart_72_16_21_63 (I := I_13) (J := J) (R := R) hR_3_2 hR_3_3 h hQ)
        · rw [ehc_15] at h ⊢; (try rw [ehc_15] at hQ)
          refine az_E.ov (pc' := 72) (L' := [.ref 3, .int (2 : Int32), .retAddr 0, .int v3, .int v4, .int v5, .int v6]) (S' := [.ref 3]) (σ' := (97, I_13, J, (az_u (az_u R 26 2 (some 16)) 26 3 (some 5)))) (x := .ref 65) (o := az_aa az_F (97, I_13, J, (az_u (az_u R 26 2 (some 16)) 26 3 (some 5))) 58 (2 : Int32)) rfl rfl ?_
          exact az_E.forget (L := [.ref 3, .int (2 : Int32), .retAddr 0, .int v3, .int v4, .int v5, .int v6]) ⟨rfl, rfl, trivial, rfl, rfl, rfl, rfl, trivial⟩ (re_X_byHeart_72_16_21_65 (I := I_13) (J := J) (R := R) hR_3_2 hR_3_3 h hQ)
        · rw [ehc_15] at h ⊢; (try rw [ehc_15] at hQ)
          refine az_E.ov (pc' := 72) (L' := [.ref 3, .int (3 : Int32), .retAddr 0, .int v3, .int v4, .int v5, .int v6]) (S' := [.ref 3]) (σ' := (97, I_13, J, (az_u (az_u R 26 2 (some 16)) 26 3 (some 5)))) (x := .ref 67) (o := az_aa az_F (97, I_13, J, (az_u (az_u R 26 2 (some 16)) 26 3 (some 5))) 58 (3 : Int32)) rfl rfl ?_
          exact az_E.forget (L := [.ref 3, .int (3 : Int32), .retAddr 0, .int v3, .int v4, .int v5, .int v6]) ⟨rfl, rfl, trivial, rfl, rfl, rfl, rfl, trivial⟩ (re_X_byHeart_72_16_21_67 (I := I_13) (J := J) (R := R) hR_3_2 hR_3_3 h hQ)
        · rw [ehc_15] at h ⊢; (try rw [ehc_15] at hQ)
          refine az_E.ov (pc' := 72) (L' := [.ref 3, .int (4 : Int32), .retAddr 0, .int v3, .int v4, .int v5, .int v6]) (S' := [.ref 3]) (σ' := (97, I_13, J, (az_u (az_u R 26 2 (some 16)) 26 3 (some 5)))) (x := .ref 69) (o := az_aa az_F (97, I_13, J, (az_u (az_u R 26 2 (some 16)) 26 3 (some 5))) 58 (4 : Int32)) rfl rfl ?_
          exact az_E.forget (L := [.ref 3, .int (4 : Int32), .retAddr 0, .int v3, .int v4, .int v5, .int v6]) ⟨rfl, rfl, trivial, rfl, rfl, rfl, rfl, trivial⟩ (re_X_byHeart_72_16_21_69 (I := I_13) (J := J) (R := R) hR_3_2 hR_3_3 h hQ)
        · rw [ehc_15] at h ⊢; (try rw [ehc_15] at hQ)
          refine az_E.ov (pc' := 72) (L' := [.ref 3, .int (5 : Int32), .retAddr 0, .int v3, .int v4, .int v5, .int v6]) (S' := [.ref 3]) (σ' := (97, I_13, J, (az_u (az_u R 26 2 (some 16)) 26 3 (some 5)))) (x := .ref 71) (o := az_aa az_F (97, I_13, J, (az_u (az_u R 26 2 (some 16)) 26 3 (some 5))) 58 (5 : Int32)) rfl rfl ?_
          exact az_E.forget (L := [.ref 3, .int (5 : Int32), .retAddr 0, .int v3, .int v4, .int v5, .int v6]) ⟨rfl, rfl, trivial, rfl, rfl, rfl, rfl, trivial⟩ (re_X_byHeart_72_16_21_71 (I := I_13) (J := J) (R := R) hR_3_2 hR_3_3 h hQ)
set_option maxRecDepth 100000 in
set_option maxHeartbeats 4000000 in
theorem re_X_byHeart_49_16_21 {ex : az_X} {I : Nat → Nat → Int32} {J : Nat → Nat → Int64} {R : Nat → Nat → Option Nat} {v1 : Int32} {v3 : Int32} {v4 : Int32} {v5 : Int32} {v6 : Int32} (hR_3_2 : R 3 2 = some 16) (hR_3_3 : R 3 3 = some 21) {x : Int32 × (Nat → Nat → Int32)} (h : rs_X_byHeart_49 21 16 I J v1 v3 v4 v5 v6 = some x) {Q : Option Value → az_S → Prop} (hQ : ∀ R' : Nat → Nat → Option Nat, R' 3 2 = some 16 → R' 3 3 = some 21 → Q (some (.int x.1)) (97, x.2, J, R')) : az_E az_F ex 6 107 49 [.ref 3, .int v1, .retAddr 0, .int v3, .int v4, .int v5, .int v6] [] (97, I, J, (az_u (az_u R 26 2 (some 16)) 26 3 (some 5))) Q := by
  unfold rs_X_byHeart_49 at h
  refine az_lp_E (G := fun s => az_E az_F ex 6 107 49 [.ref 3, .int v1, .retAddr 0, .int v3, .int s.1, .int s.2.1, .int s.2.2.1] [] (97, s.2.2.2, J, (az_u (az_u R 26 2 (some 16)) 26 3 (some 5))) Q) (H := fun x => ∀ R' : Nat → Nat → Option Nat, R' 3 2 = some 16 → R' 3 3 = some 21 → Q (some (.int x.1)) (97, x.2, J, R')) (fun s o hb ho => ?_) _ _ _ h hQ
  exact re_X_byHeart_49_b_16_21 hR_3_2 hR_3_3 hb ho
set_option maxRecDepth 100000 in
set_option maxHeartbeats 4000000 in
theorem re_X_byHeart_16_21 {ex : az_X} {I : Nat → Nat → Int32} {J : Nat → Nat → Int64} {R : Nat → Nat → Option Nat} {a1 : Int32} {a2 : Int32} {a3 : Int32} (hR_3_2 : R 3 2 = some 16) (hR_3_3 : R 3 3 = some 21) {o : Int32 × (Nat → Nat → Int32)} (h : rs_X_byHeart 21 16 I J a1 a2 a3 = some o) {Q : Option Value → az_S → Prop} (hQ : ∀ R' : Nat → Nat → Option Nat, R' 3 2 = some 16 → R' 3 3 = some 21 → Q (some (.int o.1)) (97, o.2, J, R')) : az_E az_F ex 6 107 0 [.ref 3, .int a1, .int a2, .int a3, .retAddr 0, .retAddr 0, .retAddr 0] [] (97, I, J, R) Q := by
  unfold rs_X_byHeart at h
  refine az_E.sn 1 (pc' := 1) (L' := [.ref 3, .int a1, .int a2, .int a3, .retAddr 0, .retAddr 0, .retAddr 0]) (S' := [.int a1]) (σ' := (97, I, J, R)) rfl ?_
  refine az_E.call (d := 5) (k' := 137) (vs := [.int a1]) (pc' := 4) (S' := []) rfl ?_ (fun _ _ hq => hq)
  show az_E az_F ex 5 137 0 [.int a1] [] (97, I, J, R) _
  refine az_E.sn 3 (pc' := 3) (L' := [.int a1]) (S' := [.int (5 : Int32), .int (0 : Int32), .int a1]) (σ' := (97, I, J, R)) rfl ?_
  refine az_E.call (d := 4) (k' := 131) (vs := [.int a1, .int (0 : Int32), .int (5 : Int32)]) (pc' := 6) (S' := []) rfl ?_ (fun _ _ hq => hq)
  show az_E az_F ex 4 131 0 [.int a1, .int (0 : Int32), .int (5 : Int32)] [] (97, I, J, R) _
  refine az_E.sn 2 (pc' := 2) (L' := [.int a1, .int (0 : Int32), .int (5 : Int32)]) (S' := [.int (0 : Int32), .int a1]) (σ' := (97, I, J, R)) rfl ?_
  refine az_E.br (c := a1 < (0 : Int32)) (tt := 14) (ff := 5) (L' := [.int a1, .int (0 : Int32), .int (5 : Int32)]) (S' := []) (σ' := (97, I, J, R)) rfl (fun hc_1 => ?_) (fun hc_1 => ?_)
  · rw [if_pos hc_1] at h
    refine az_E.sn 1 (pc' := 15) (L' := [.int a1, .int (0 : Int32), .int (5 : Int32)]) (S' := [.int (0 : Int32)]) (σ' := (97, I, J, R)) rfl ?_
    refine az_E.ret (v := some (.int (0 : Int32))) (σ' := (97, I, J, R)) rfl ?_
    show az_E az_F ex 5 137 6 [.int a1] [.int (0 : Int32)] (97, I, J, R) _
    refine az_E.ret (v := some (.int (0 : Int32))) (σ' := (97, I, J, R)) rfl ?_
    show az_E az_F ex 6 107 4 [.ref 3, .int a1, .int a2, .int a3, .retAddr 0, .retAddr 0, .retAddr 0] [.int (0 : Int32)] (97, I, J, R) _
    refine az_E.br (c := (0 : Int32) = 0) (tt := 30) (ff := 7) (L' := [.ref 3, .int a1, .int a2, .int a3, .retAddr 0, .retAddr 0, .retAddr 0]) (S' := []) (σ' := (97, I, J, R)) rfl (fun _ => ?_) (fun hn => absurd (by decide) hn)
    refine az_E.sn 1 (pc' := 32) (L' := [.ref 3, .int a1, .int a2, .int a3, .retAddr 0, .retAddr 0, .retAddr 0]) (S' := [.int (-2000000000 : Int32)]) (σ' := (97, I, J, R)) rfl ?_
    have h := Option.some.inj h
    subst h
    exact az_E.ret (v := some (.int (-2000000000 : Int32))) (σ' := (97, I, J, R)) rfl (hQ _ hR_3_2 hR_3_3)
  · rw [if_neg hc_1] at h
    refine az_E.sn 2 (pc' := 7) (L' := [.int a1, .int (0 : Int32), .int (5 : Int32)]) (S' := [.int (5 : Int32), .int a1]) (σ' := (97, I, J, R)) rfl ?_
    refine az_E.br (c := (5 : Int32) < a1) (tt := 14) (ff := 10) (L' := [.int a1, .int (0 : Int32), .int (5 : Int32)]) (S' := []) (σ' := (97, I, J, R)) rfl (fun hc_2 => ?_) (fun hc_2 => ?_)
    · rw [if_pos hc_2] at h
      refine az_E.sn 1 (pc' := 15) (L' := [.int a1, .int (0 : Int32), .int (5 : Int32)]) (S' := [.int (0 : Int32)]) (σ' := (97, I, J, R)) rfl ?_
      refine az_E.ret (v := some (.int (0 : Int32))) (σ' := (97, I, J, R)) rfl ?_
      show az_E az_F ex 5 137 6 [.int a1] [.int (0 : Int32)] (97, I, J, R) _
      refine az_E.ret (v := some (.int (0 : Int32))) (σ' := (97, I, J, R)) rfl ?_
      show az_E az_F ex 6 107 4 [.ref 3, .int a1, .int a2, .int a3, .retAddr 0, .retAddr 0, .retAddr 0] [.int (0 : Int32)] (97, I, J, R) _
      refine az_E.br (c := (0 : Int32) = 0) (tt := 30) (ff := 7) (L' := [.ref 3, .int a1, .int a2, .int a3, .retAddr 0, .retAddr 0, .retAddr 0]) (S' := []) (σ' := (97, I, J, R)) rfl (fun _ => ?_) (fun hn => absurd (by decide) hn)
      refine az_E.sn 1 (pc' := 32) (L' := [.ref 3, .int a1, .int a2, .int a3, .retAddr 0, .retAddr 0, .retAddr 0]) (S' := [.int (-2000000000 : Int32)]) (σ' := (97, I, J, R)) rfl ?_
      have h := Option.some.inj h
      subst h
      exact az_E.ret (v := some (.int (-2000000000 : Int32))) (σ' := (97, I, J, R)) rfl (hQ _ hR_3_2 hR_3_3)
    · rw [if_neg hc_2] at h
      refine az_E.sn 2 (pc' := 15) (L' := [.int a1, .int (0 : Int32), .int (5 : Int32)]) (S' := [.int (1 : Int32)]) (σ' := (97, I, J, R)) rfl ?_
      refine az_E.ret (v := some (.int (1 : Int32))) (σ' := (97, I, J, R)) rfl ?_
      show az_E az_F ex 5 137 6 [.int a1] [.int (1 : Int32)] (97, I, J, R) _
      refine az_E.ret (v := some (.int (1 : Int32))) (σ' := (97, I, J, R)) rfl ?_
      show az_E az_F ex 6 107 4 [.ref 3, .int a1, .int a2, .int a3, .retAddr 0, .retAddr 0, .retAddr 0] [.int (1 : Int32)] (97, I, J, R) _
      refine az_E.br (c := (1 : Int32) = 0) (tt := 30) (ff := 7) (L' := [.ref 3, .int a1, .int a2, .int a3, .retAddr 0, .retAddr 0, .retAddr 0]) (S' := []) (σ' := (97, I, J, R)) rfl (fun hn => absurd hn (by decide)) (fun _ => ?_)
      refine az_E.sn 2 (pc' := 9) (L' := [.ref 3, .int a1, .int a2, .int a3, .retAddr 0, .retAddr 0, .retAddr 0]) (S' := [.int a2, .ref 3]) (σ' := (97, I, J, R)) rfl ?_
      refine az_E.call (d := 5) (k' := 138) (vs := [.ref 3, .int a2]) (pc' := 12) (S' := []) rfl ?_ (fun _ _ hq => hq)
      show az_E az_F ex 5 138 0 [.ref 3, .int a2] [] (97, I, J, R) _
      refine az_E.sn 7 (pc' := 11) (L' := [.ref 3, .int a2]) (S' := [.int ((I 4 9) - (1 : Int32)), .int (0 : Int32), .int a2]) (σ' := (97, I, J, R)) rfl ?_
      refine az_E.call (d := 4) (k' := 131) (vs := [.int a2, .int (0 : Int32), .int ((I 4 9) - (1 : Int32))]) (pc' := 14) (S' := []) rfl ?_ (fun _ _ hq => hq)
      show az_E az_F ex 4 131 0 [.int a2, .int (0 : Int32), .int ((I 4 9) - (1 : Int32))] [] (97, I, J, R) _
      refine az_E.sn 2 (pc' := 2) (L' := [.int a2, .int (0 : Int32), .int ((I 4 9) - (1 : Int32))]) (S' := [.int (0 : Int32), .int a2]) (σ' := (97, I, J, R)) rfl ?_
      refine az_E.br (c := a2 < (0 : Int32)) (tt := 14) (ff := 5) (L' := [.int a2, .int (0 : Int32), .int ((I 4 9) - (1 : Int32))]) (S' := []) (σ' := (97, I, J, R)) rfl (fun hc_3 => ?_) (fun hc_3 => ?_)
      · rw [if_pos hc_3] at h
        refine az_E.sn 1 (pc' := 15) (L' := [.int a2, .int (0 : Int32), .int ((I 4 9) - (1 : Int32))]) (S' := [.int (0 : Int32)]) (σ' := (97, I, J, R)) rfl ?_
        refine az_E.ret (v := some (.int (0 : Int32))) (σ' := (97, I, J, R)) rfl ?_
        show az_E az_F ex 5 138 14 [.ref 3, .int a2] [.int (0 : Int32)] (97, I, J, R) _
        refine az_E.ret (v := some (.int (0 : Int32))) (σ' := (97, I, J, R)) rfl ?_
        show az_E az_F ex 6 107 12 [.ref 3, .int a1, .int a2, .int a3, .retAddr 0, .retAddr 0, .retAddr 0] [.int (0 : Int32)] (97, I, J, R) _
        refine az_E.br (c := (0 : Int32) = 0) (tt := 30) (ff := 15) (L' := [.ref 3, .int a1, .int a2, .int a3, .retAddr 0, .retAddr 0, .retAddr 0]) (S' := []) (σ' := (97, I, J, R)) rfl (fun _ => ?_) (fun hn => absurd (by decide) hn)
        refine az_E.sn 1 (pc' := 32) (L' := [.ref 3, .int a1, .int a2, .int a3, .retAddr 0, .retAddr 0, .retAddr 0]) (S' := [.int (-2000000000 : Int32)]) (σ' := (97, I, J, R)) rfl ?_
        have h := Option.some.inj h
        subst h
        exact az_E.ret (v := some (.int (-2000000000 : Int32))) (σ' := (97, I, J, R)) rfl (hQ _ hR_3_2 hR_3_3)
      · rw [if_neg hc_3] at h
        refine az_E.sn 2 (pc' := 7) (L' := [.int a2, .int (0 : Int32), .int ((I 4 9) - (1 : Int32))]) (S' := [.int ((I 4 9) - (1 : Int32)), .int a2]) (σ' := (97, I, J, R)) rfl ?_
        refine az_E.br (c := ((I 4 9) - (1 : Int32)) < a2) (tt := 14) (ff := 10) (L' := [.int a2, .int (0 : Int32), .int ((I 4 9) - (1 : Int32))]) (S' := []) (σ' := (97, I, J, R)) rfl (fun hc_4 => ?_) (fun hc_4 => ?_)
        · rw [if_pos hc_4] at h
          refine az_E.sn 1 (pc' := 15) (L' := [.int a2, .int (0 : Int32), .int ((I 4 9) - (1 : Int32))]) (S' := [.int (0 : Int32)]) (σ' := (97, I, J, R)) rfl ?_
          refine az_E.ret (v := some (.int (0 : Int32))) (σ' := (97, I, J, R)) rfl ?_
          show az_E az_F ex 5 138 14 [.ref 3, .int a2] [.int (0 : Int32)] (97, I, J, R) _
          refine az_E.ret (v := some (.int (0 : Int32))) (σ' := (97, I, J, R)) rfl ?_
          show az_E az_F ex 6 107 12 [.ref 3, .int a1, .int a2, .int a3, .retAddr 0, .retAddr 0, .retAddr 0] [.int (0 : Int32)] (97, I, J, R) _
          refine az_E.br (c := (0 : Int32) = 0) (tt := 30) (ff := 15) (L' := [.ref 3, .int a1, .int a2, .int a3, .retAddr 0, .retAddr 0, .retAddr 0]) (S' := []) (σ' := (97, I, J, R)) rfl (fun _ => ?_) (fun hn => absurd (by decide) hn)
          refine az_E.sn 1 (pc' := 32) (L' := [.ref 3, .int a1, .int a2, .int a3, .retAddr 0, .retAddr 0, .retAddr 0]) (S' := [.int (-2000000000 : Int32)]) (σ' := (97, I, J, R)) rfl ?_
          have h := Option.some.inj h
          subst h
          exact az_E.ret (v := some (.int (-2000000000 : Int32))) (σ' := (97, I, J, R)) rfl (hQ _ hR_3_2 hR_3_3)
        · rw [if_neg hc_4] at h
          refine az_E.sn 2 (pc' := 15) (L' := [.int a2, .int (0 : Int32), .int ((I 4 9) - (1 : Int32))]) (S' := [.int (1 : Int32)]) (σ' := (97, I, J, R)) rfl ?_
          refine az_E.ret (v := some (.int (1 : Int32))) (σ' := (97, I, J, R)) rfl ?_
          show az_E az_F ex 5 138 14 [.ref 3, .int a2] [.int (1 : Int32)] (97, I, J, R) _
          refine az_E.ret (v := some (.int (1 : Int32))) (σ' := (97, I, J, R)) rfl ?_
          show az_E az_F ex 6 107 12 [.ref 3, .int a1, .int a2, .int a3, .retAddr 0, .retAddr 0, .retAddr 0] [.int (1 : Int32)] (97, I, J, R) _
          refine az_E.br (c := (1 : Int32) = 0) (tt := 30) (ff := 15) (L' := [.ref 3, .int a1, .int a2, .int a3, .retAddr 0, .retAddr 0, .retAddr 0]) (S' := []) (σ' := (97, I, J, R)) rfl (fun hn => absurd hn (by decide)) (fun _ => ?_)
          refine az_E.sn 1 (pc' := 16) (L' := [.ref 3, .int a1, .int a2, .int a3, .retAddr 0, .retAddr 0, .retAddr 0]) (S' := [.int a3]) (σ' := (97, I, J, R)) rfl ?_
          refine az_E.call (d := 5) (k' := 132) (vs := [.int a3]) (pc' := 19) (S' := []) rfl ?_ (fun _ _ hq => hq)
          show az_E az_F ex 5 132 0 [.int a3] [] (97, I, J, R) _
          refine az_E.sn 1 (pc' := 1) (L' := [.int a3]) (S' := [.int a3]) (σ' := (97, I, J, R)) rfl ?_
          refine az_E.br (c := a3 = 0) (tt := 9) (ff := 4) (L' := [.int a3]) (S' := []) (σ' := (97, I, J, R)) rfl (fun hc_5 => ?_) (fun hc_5 => ?_)
          · rw [if_pos hc_5] at h
            refine az_E.sn 2 (pc' := 14) (L' := [.int a3]) (S' := [.int (1 : Int32)]) (σ' := (97, I, J, R)) rfl ?_
            refine az_E.ret (v := some (.int (1 : Int32))) (σ' := (97, I, J, R)) rfl ?_
            show az_E az_F ex 6 107 19 [.ref 3, .int a1, .int a2, .int a3, .retAddr 0, .retAddr 0, .retAddr 0] [.int (1 : Int32)] (97, I, J, R) _
            refine az_E.br (c := (1 : Int32) = 0) (tt := 30) (ff := 22) (L' := [.ref 3, .int a1, .int a2, .int a3, .retAddr 0, .retAddr 0, .retAddr 0]) (S' := []) (σ' := (97, I, J, R)) rfl (fun hn => absurd hn (by decide)) (fun _ => ?_)
            refine az_E.sn 2 (pc' := 24) (L' := [.ref 3, .int a1, .int a2, .int a3, .retAddr 0, .retAddr 0, .retAddr 0]) (S' := [.int a1, .ref 3]) (σ' := (97, I, J, R)) rfl ?_
            cases hx_7 : rs_X_refusalOfBook I a1 with
            | none => rw [hx_7] at h; cases h
            | some x_6 =>
              rw [hx_7] at h
              dsimp only at h
              refine az_E.call (d := 5) (k' := 150) (vs := [.ref 3, .int a1]) (pc' := 27) (S' := []) (Q1 := fun v s => v = some (.int x_6) ∧ s = (97, I, J, R)) rfl (az_E.deep (by omega) (re_X_refusalOfBook (J := J) (R := R)  hx_7 ⟨rfl, rfl⟩)) (fun v s hq => ?_)
              obtain ⟨rfl, rfl⟩ := hq
              show az_E az_F ex 6 107 27 [.ref 3, .int a1, .int a2, .int a3, .retAddr 0, .retAddr 0, .retAddr 0] [.int x_6] (97, I, J, R) _
              refine az_E.br (c := x_6 = 0) (tt := 33) (ff := 30) (L' := [.ref 3, .int a1, .int a2, .int a3, .retAddr 0, .retAddr 0, .retAddr 0]) (S' := []) (σ' := (97, I, J, R)) rfl (fun hc_8 => ?_) (fun hc_8 => ?_)
              · rw [if_pos hc_8] at h
                refine az_E.sn 2 (pc' := 35) (L' := [.ref 3, .int a1, .int a2, .int a3, .retAddr 0, .retAddr 0, .retAddr 0]) (S' := [.int a2, .ref 3]) (σ' := (97, I, J, R)) rfl ?_
                cases hx_10 : rs_X_setPace 16 I a2 with
                | none => rw [hx_10] at h; cases h
                | some I_9 =>
                  rw [hx_10] at h
                  dsimp only at h
                  refine az_E.call (d := 5) (k' := 144) (vs := [.ref 3, .int a2]) (pc' := 38) (S' := []) (Q1 := fun v s => v = none ∧ s = (97, I_9, J, (az_u (az_u R 26 2 (some 16)) 26 3 (some 5)))) rfl (az_E.deep (by omega) (re_X_setPace_16 (J := J) (R := R) hR_3_2 hx_10 ⟨rfl, rfl⟩)) (fun v s hq => ?_)
                  obtain ⟨rfl, rfl⟩ := hq
                  show az_E az_F ex 6 107 38 [.ref 3, .int a1, .int a2, .int a3, .retAddr 0, .retAddr 0, .retAddr 0] [] (97, I_9, J, (az_u (az_u R 26 2 (some 16)) 26 3 (some 5))) _
                  refine az_E.sn 6 (pc' := 49) (L' := [.ref 3, .int a1, .int a2, .int a3, .int (0 : Int32), .int (-99 : Int32), .int (-9 : Int32)]) (S' := []) (σ' := (97, I_9, J, (az_u (az_u R 26 2 (some 16)) 26 3 (some 5)))) rfl ?_
                  exact az_E.forget (L := [.ref 3, .int a1, .retAddr 0, .int a3, .int (0 : Int32), .int (-99 : Int32), .int (-9 : Int32)]) ⟨rfl, rfl, trivial, rfl, rfl, rfl, rfl, trivial⟩ (re_X_byHeart_49_16_21 (I := I_9) (J := J) (R := R) hR_3_2 hR_3_3 h hQ)
              · rw [if_neg hc_8] at h
                refine az_E.sn 1 (pc' := 32) (L' := [.ref 3, .int a1, .int a2, .int a3, .retAddr 0, .retAddr 0, .retAddr 0]) (S' := [.int (-2000000000 : Int32)]) (σ' := (97, I, J, R)) rfl ?_
                have h := Option.some.inj h
                subst h
                exact az_E.ret (v := some (.int (-2000000000 : Int32))) (σ' := (97, I, J, R)) rfl (hQ _ hR_3_2 hR_3_3)
          · rw [if_neg hc_5] at h
            refine az_E.sn 2 (pc' := 6) (L' := [.int a3]) (S' := [.int (1 : Int32), .int a3]) (σ' := (97, I, J, R)) rfl ?_
            refine az_E.br (c := a3 = (1 : Int32)) (tt := 9) (ff := 13) (L' := [.int a3]) (S' := []) (σ' := (97, I, J, R)) rfl (fun hc_46 => ?_) (fun hc_46 => ?_)
            · rw [if_pos hc_46] at h
              refine az_E.sn 2 (pc' := 14) (L' := [.int a3]) (S' := [.int (1 : Int32)]) (σ' := (97, I, J, R)) rfl ?_
              refine az_E.ret (v := some (.int (1 : Int32))) (σ' := (97, I, J, R)) rfl ?_
              show az_E az_F ex 6 107 19 [.ref 3, .int a1, .int a2, .int a3, .retAddr 0, .retAddr 0, .retAddr 0] [.int (1 : Int32)] (97, I, J, R) _
              refine az_E.br (c := (1 : Int32) = 0) (tt := 30) (ff := 22) (L' := [.ref 3, .int a1, .int a2, .int a3, .retAddr 0, .retAddr 0, .retAddr 0]) (S' := []) (σ' := (97, I, J, R)) rfl (fun hn => absurd hn (by decide)) (fun _ => ?_)
              refine az_E.sn 2 (pc' := 24) (L' := [.ref 3, .int a1, .int a2, .int a3, .retAddr 0, .retAddr 0, .retAddr 0]) (S' := [.int a1, .ref 3]) (σ' := (97, I, J, R)) rfl ?_
              cases hx_48 : rs_X_refusalOfBook I a1 with
              | none => rw [hx_48] at h; cases h
              | some x_47 =>
                rw [hx_48] at h
                dsimp only at h
                refine az_E.call (d := 5) (k' := 150) (vs := [.ref 3, .int a1]) (pc' := 27) (S' := []) (Q1 := fun v s => v = some (.int x_47) ∧ s = (97, I, J, R)) rfl (az_E.deep (by omega) (re_X_refusalOfBook (J := J) (R := R)  hx_48 ⟨rfl, rfl⟩)) (fun v s hq => ?_)
                obtain ⟨rfl, rfl⟩ := hq
                show az_E az_F ex 6 107 27 [.ref 3, .int a1, .int a2, .int a3, .retAddr 0, .retAddr 0, .retAddr 0] [.int x_47] (97, I, J, R) _
                refine az_E.br (c := x_47 = 0) (tt := 33) (ff := 30) (L' := [.ref 3, .int a1, .int a2, .int a3, .retAddr 0, .retAddr 0, .retAddr 0]) (S' := []) (σ' := (97, I, J, R)) rfl (fun hc_49 => ?_) (fun hc_49 => ?_)
                · rw [if_pos hc_49] at h
                  refine az_E.sn 2 (pc' := 35) (L' := [.ref 3, .int a1, .int a2, .int a3, .retAddr 0, .retAddr 0, .retAddr 0]) (S' := [.int a2, .ref 3]) (σ' := (97, I, J, R)) rfl ?_
                  cases hx_51 : rs_X_setPace 16 I a2 with
                  | none => rw [hx_51] at h; cases h
                  | some I_50 =>
                    rw [hx_51] at h
                    dsimp only at h
                    refine az_E.call (d := 5) (k' := 144) (vs := [.ref 3, .int a2]) (pc' := 38) (S' := []) (Q1 := fun v s => v = none ∧ s = (97, I_50, J, (az_u (az_u R 26 2 (some 16)) 26 3 (some 5)))) rfl (az_E.deep (by omega) (re_X_setPace_16 (J := J) (R := R) hR_3_2 hx_51 ⟨rfl, rfl⟩)) (fun v s hq => ?_)
                    obtain ⟨rfl, rfl⟩ := hq
                    show az_E az_F ex 6 107 38 [.ref 3, .int a1, .int a2, .int a3, .retAddr 0, .retAddr 0, .retAddr 0] [] (97, I_50, J, (az_u (az_u R 26 2 (some 16)) 26 3 (some 5))) _
                    refine az_E.sn 6 (pc' := 49) (L' := [.ref 3, .int a1, .int a2, .int a3, .int (0 : Int32), .int (-99 : Int32), .int (-9 : Int32)]) (S' := []) (σ' := (97, I_50, J, (az_u (az_u R 26 2 (some 16)) 26 3 (some 5)))) rfl ?_
                    exact az_E.forget (L := [.ref 3, .int a1, .retAddr 0, .int a3, .int (0 : Int32), .int (-99 : Int32), .int (-9 : Int32)]) ⟨rfl, rfl, trivial, rfl, rfl, rfl, rfl, trivial⟩ (re_X_byHeart_49_16_21 (I := I_50) (J := J) (R := R) hR_3_2 hR_3_3 h hQ)
                · rw [if_neg hc_49] at h
                  refine az_E.sn 1 (pc' := 32) (L' := [.ref 3, .int a1, .int a2, .int a3, .retAddr 0, .retAddr 0, .retAddr 0]) (S' := [.int (-2000000000 : Int32)]) (σ' := (97, I, J, R)) rfl ?_
                  have h := Option.some.inj h
                  subst h
                  exact az_E.ret (v := some (.int (-2000000000 : Int32))) (σ' := (97, I, J, R)) rfl (hQ _ hR_3_2 hR_3_3)
            · rw [if_neg hc_46] at h
              refine az_E.sn 1 (pc' := 14) (L' := [.int a3]) (S' := [.int (0 : Int32)]) (σ' := (97, I, J, R)) rfl ?_
              refine az_E.ret (v := some (.int (0 : Int32))) (σ' := (97, I, J, R)) rfl ?_
              show az_E az_F ex 6 107 19 [.ref 3, .int a1, .int a2, .int a3, .retAddr 0, .retAddr 0, .retAddr 0] [.int (0 : Int32)] (97, I, J, R) _
              refine az_E.br (c := (0 : Int32) = 0) (tt := 30) (ff := 22) (L' := [.ref 3, .int a1, .int a2, .int a3, .retAddr 0, .retAddr 0, .retAddr 0]) (S' := []) (σ' := (97, I, J, R)) rfl (fun _ => ?_) (fun hn => absurd (by decide) hn)
              refine az_E.sn 1 (pc' := 32) (L' := [.ref 3, .int a1, .int a2, .int a3, .retAddr 0, .retAddr 0, .retAddr 0]) (S' := [.int (-2000000000 : Int32)]) (σ' := (97, I, J, R)) rfl ?_
              have h := Option.some.inj h
              subst h
              exact az_E.ret (v := some (.int (-2000000000 : Int32))) (σ' := (97, I, J, R)) rfl (hQ _ hR_3_2 hR_3_3)
set_option maxRecDepth 100000 in
set_option maxHeartbeats 4000000 in
theorem re_M_byHeart_115 {ex : az_X} {I : Nat → Nat → Int32} {J : Nat → Nat → Int64} {R : Nat → Nat → Option Nat} {v3 : Int32} {v4 : Int32} {v5 : Int32} {x : Int32 × (Nat → Nat → Int32)} (h : rs_M_byHeart_115 I J v3 v4 v5 = some x) {Q : Option Value → az_S → Prop} (hQ : Q (some (.int x.1)) (97, x.2, J, R)) : az_E az_F ex 124 222 115 [.retAddr 0, .retAddr 0, .retAddr 0, .int v3, .int v4, .int v5, .retAddr 0] [] (97, I, J, R) Q := by
  unfold rs_M_byHeart_115 at h
  refine az_E.sn 1 (pc' := 116) (L' := [.retAddr 0, .retAddr 0, .retAddr 0, .int v3, .int v4, .int v5, .retAddr 0]) (S' := [.int v3]) (σ' := (97, I, J, R)) rfl ?_
  refine az_E.br (c := v3 = 0) (tt := 119) (ff := 124) (L' := [.retAddr 0, .retAddr 0, .retAddr 0, .int v3, .int v4, .int v5, .retAddr 0]) (S' := []) (σ' := (97, I, J, R)) rfl (fun hc_9 => ?_) (fun hc_9 => ?_)
  · rw [if_pos hc_9] at h
    refine az_E.sn 2 (pc' := 126) (L' := [.retAddr 0, .retAddr 0, .retAddr 0, .int v3, .int v4, .int v5, .retAddr 0]) (S' := [.int v4]) (σ' := (97, I, J, R)) rfl ?_
    have h := Option.some.inj h
    subst h
    exact az_E.ret (v := some (.int v4)) (σ' := (97, I, J, R)) rfl hQ
  · rw [if_neg hc_9] at h
    refine az_E.sn 1 (pc' := 126) (L' := [.retAddr 0, .retAddr 0, .retAddr 0, .int v3, .int v4, .int v5, .retAddr 0]) (S' := [.int v5]) (σ' := (97, I, J, R)) rfl ?_
    have h := Option.some.inj h
    subst h
    exact az_E.ret (v := some (.int v5)) (σ' := (97, I, J, R)) rfl hQ
set_option maxRecDepth 100000 in
set_option maxHeartbeats 4000000 in
theorem re_M_byHeart_41_b {ex : az_X} {I : Nat → Nat → Int32} {J : Nat → Nat → Int64} {R : Nat → Nat → Option Nat} {v1 : Int32} {v2 : Int32} {v3 : Int32} {v4 : Int32} {v5 : Int32} {v6 : Int32} {x : ((Int32 × Int32 × Int32 × (Nat → Nat → Int32)) ⊕ (Int32 × (Nat → Nat → Int32)))} (h : rs_M_byHeart_41_b J v1 v2 v3 v4 v5 v6 I = some x) {Q : Option Value → az_S → Prop} (hQ : Sum.elim (fun s => az_E az_F ex 124 222 41 [.ref 73, .int v1, .int v2, .int v3, .int s.1, .int s.2.1, .int s.2.2.1] [] (97, s.2.2.2, J, R) Q) (fun x => Q (some (.int x.1)) (97, x.2, J, R)) x) : az_E az_F ex 124 222 41 [.ref 73, .int v1, .int v2, .int v3, .int v4, .int v5, .int v6] [] (97, I, J, R) Q := by
  unfold rs_M_byHeart_41_b at h
  refine az_E.sn 2 (pc' := 45) (L' := [.ref 73, .int v1, .int v2, .int v3, .int v4, .int v5, .int v6]) (S' := [.int (9 : Int32), .int v6]) (σ' := (97, I, J, R)) rfl ?_
  refine az_E.br (c := (9 : Int32) < v6) (tt := 115) (ff := 48) (L' := [.ref 73, .int v1, .int v2, .int v3, .int v4, .int v5, .int v6]) (S' := []) (σ' := (97, I, J, R)) rfl (fun hc_8 => ?_) (fun hc_8 => ?_)
  · rw [if_pos hc_8] at h
    obtain ⟨x, hx, rfl⟩ := Option.map_eq_some_iff.mp h
    exact az_E.forget (L := [.retAddr 0, .retAddr 0, .retAddr 0, .int v3, .int v4, .int v5, .retAddr 0]) ⟨trivial, trivial, trivial, rfl, rfl, rfl, trivial, trivial⟩ (re_M_byHeart_115 (I := I) (J := J) (R := R)  hx hQ)
  · rw [if_neg hc_8] at h
    refine az_E.sn 7 (pc' := 60) (L' := [.ref 73, .int v1, .int v2, .int v3, .int v4, .int v5, .int v6]) (S' := [.int ((166 : Int32) + v2), .ref 74, .int v6, .ref 73]) (σ' := (97, I, J, R)) rfl ?_
    by_cases hc_10 : ((166 : Int32) + v2) < 0 ∨ 179 ≤ ((166 : Int32) + v2).toNatClampNeg
    · rw [if_pos hc_10] at h; cases h
    · rw [if_neg hc_10] at h
      refine az_E.oi (o := az_ai az_F ex (97, I, J, R) 74 ((166 : Int32) + v2)) (pc' := 61) (L' := [.ref 73, .int v1, .int v2, .int v3, .int v4, .int v5, .int v6]) (S' := [.int v6, .ref 73]) (σ' := (97, I, J, R)) (x := (I 74 ((166 : Int32) + v2).toNatClampNeg)) rfl (if_neg hc_10) ?_
      refine az_E.sn 5 (pc' := 70) (L' := [.ref 73, .int v1, .int v2, .int v3, .int v4, .int v5, .int v6]) (S' := [.int ((172 : Int32) + v2), .ref 74, .int (I 74 ((166 : Int32) + v2).toNatClampNeg), .int v6, .ref 73]) (σ' := (97, I, J, R)) rfl ?_
      by_cases hc_11 : ((172 : Int32) + v2) < 0 ∨ 179 ≤ ((172 : Int32) + v2).toNatClampNeg
      · rw [if_pos hc_11] at h; cases h
      · rw [if_neg hc_11] at h
        refine az_E.oi (o := az_ai az_F ex (97, I, J, R) 74 ((172 : Int32) + v2)) (pc' := 71) (L' := [.ref 73, .int v1, .int v2, .int v3, .int v4, .int v5, .int v6]) (S' := [.int (I 74 ((166 : Int32) + v2).toNatClampNeg), .int v6, .ref 73]) (σ' := (97, I, J, R)) (x := (I 74 ((172 : Int32) + v2).toNatClampNeg)) rfl (if_neg hc_11) ?_
        refine az_E.sn 3 (pc' := 78) (L' := [.ref 73, .int v1, .int v2, .int v3, .int v4, .int v5, .int v6]) (S' := [.int (178 : Int32), .ref 74, .int (I 74 ((172 : Int32) + v2).toNatClampNeg), .int (I 74 ((166 : Int32) + v2).toNatClampNeg), .int v6, .ref 73]) (σ' := (97, I, J, R)) rfl ?_
        refine az_E.oi (o := az_ai az_F ex (97, I, J, R) 74 (178 : Int32)) (pc' := 79) (L' := [.ref 73, .int v1, .int v2, .int v3, .int v4, .int v5, .int v6]) (S' := [.int (I 74 ((172 : Int32) + v2).toNatClampNeg), .int (I 74 ((166 : Int32) + v2).toNatClampNeg), .int v6, .ref 73]) (σ' := (97, I, J, R)) (x := (I 74 178)) rfl rfl ?_
        cases hx_14 : rs_M_asksSteps I v6 (I 74 ((166 : Int32) + v2).toNatClampNeg) (I 74 ((172 : Int32) + v2).toNatClampNeg) (I 74 178) with
        | none => rw [hx_14] at h; cases h
        | some I_13 =>
          rw [hx_14] at h
          dsimp only at h
          refine az_E.call (d := 123) (k' := 189) (vs := [.ref 73, .int v6, .int (I 74 ((166 : Int32) + v2).toNatClampNeg), .int (I 74 ((172 : Int32) + v2).toNatClampNeg), .int (I 74 178)]) (pc' := 82) (S' := []) (Q1 := fun v s => v = none ∧ s = (97, I_13, J, R)) rfl (az_E.deep (by omega) (re_M_asksSteps (J := J) (R := R)  hx_14 ⟨rfl, rfl⟩)) (fun v s hq => ?_)
          obtain ⟨rfl, rfl⟩ := hq
          show az_E az_F ex 124 222 82 [.ref 73, .int v1, .int v2, .int v3, .int v4, .int v5, .int v6] [] (97, I_13, J, R) _
          refine az_E.sn 2 (pc' := 84) (L' := [.ref 73, .int v1, .int v2, .int v3, .int v4, .int v5, .int v6]) (S' := [.int v1, .ref 73]) (σ' := (97, I_13, J, R)) rfl ?_
          cases hx_17 : rs_M_firstFalse I_13 J v1 with
          | none => rw [hx_17] at h; cases h
          | some o =>
            rw [hx_17] at h
            obtain ⟨x_15, I_16⟩ := o
            dsimp only at h
            refine az_E.call (d := 123) (k' := 220) (vs := [.ref 73, .int v1]) (pc' := 87) (S' := []) (Q1 := fun v s => v = some (.int x_15) ∧ s = (97, I_16, J, R)) rfl (az_E.deep (by omega) (re_M_firstFalse (J := J) (R := R)  hx_17 ⟨rfl, rfl⟩)) (fun v s hq => ?_)
            obtain ⟨rfl, rfl⟩ := hq
            show az_E az_F ex 124 222 87 [.ref 73, .int v1, .int v2, .int v3, .int v4, .int v5, .int v6] [.int x_15] (97, I_16, J, R) _
            refine az_E.sn 1 (pc' := 89) (L' := [.ref 73, .int v1, .int v2, .int v3, .int v4, .int v5, .int v6]) (S' := [.int (-2 : Int32), .int x_15]) (σ' := (97, I_16, J, R)) rfl ?_
            refine az_E.br (c := x_15 = (-2 : Int32)) (tt := 92) (ff := 109) (L' := [.ref 73, .int v1, .int v2, .int v3, .int v4, .int v5, .int v6]) (S' := []) (σ' := (97, I_16, J, R)) rfl (fun hc_18 => ?_) (fun hc_18 => ?_)
            · rw [if_pos hc_18] at h
              refine az_E.sn 1 (pc' := 94) (L' := [.ref 73, .int v1, .int v2, .int v3, .int v4, .int v5, .int v6]) (S' := [.int v4]) (σ' := (97, I_16, J, R)) rfl ?_
              refine az_E.br (c := v4 = 0) (tt := 97) (ff := 102) (L' := [.ref 73, .int v1, .int v2, .int v3, .int v4, .int v5, .int v6]) (S' := []) (σ' := (97, I_16, J, R)) rfl (fun hc_19 => ?_) (fun hc_19 => ?_)
              · rw [if_pos hc_19] at h
                refine az_E.sn 6 (pc' := 41) (L' := [.ref 73, .int v1, .int v2, .int v3, .int (v4 + (1 : Int32)), .int v6, .int (v6 + (1 : Int32))]) (S' := []) (σ' := (97, I_16, J, R)) rfl ?_
                have h := Option.some.inj h
                subst h
                exact az_E.forget (L := [.ref 73, .int v1, .int v2, .int v3, .int (v4 + (1 : Int32)), .int v6, .int (v6 + (1 : Int32))]) ⟨rfl, rfl, rfl, rfl, rfl, rfl, rfl, trivial⟩ hQ
              · rw [if_neg hc_19] at h
                refine az_E.sn 5 (pc' := 41) (L' := [.ref 73, .int v1, .int v2, .int v3, .int (v4 + (1 : Int32)), .int v5, .int (v6 + (1 : Int32))]) (S' := []) (σ' := (97, I_16, J, R)) rfl ?_
                have h := Option.some.inj h
                subst h
                exact az_E.forget (L := [.ref 73, .int v1, .int v2, .int v3, .int (v4 + (1 : Int32)), .int v5, .int (v6 + (1 : Int32))]) ⟨rfl, rfl, rfl, rfl, rfl, rfl, rfl, trivial⟩ hQ
            · rw [if_neg hc_18] at h
              refine az_E.sn 2 (pc' := 41) (L' := [.ref 73, .int v1, .int v2, .int v3, .int v4, .int v5, .int (v6 + (1 : Int32))]) (S' := []) (σ' := (97, I_16, J, R)) rfl ?_
              have h := Option.some.inj h
              subst h
              exact az_E.forget (L := [.ref 73, .int v1, .int v2, .int v3, .int v4, .int v5, .int (v6 + (1 : Int32))]) ⟨rfl, rfl, rfl, rfl, rfl, rfl, rfl, trivial⟩ hQ
set_option maxRecDepth 100000 in
set_option maxHeartbeats 4000000 in
theorem re_M_byHeart_41 {ex : az_X} {I : Nat → Nat → Int32} {J : Nat → Nat → Int64} {R : Nat → Nat → Option Nat} {v1 : Int32} {v2 : Int32} {v3 : Int32} {v4 : Int32} {v5 : Int32} {v6 : Int32} {x : Int32 × (Nat → Nat → Int32)} (h : rs_M_byHeart_41 I J v1 v2 v3 v4 v5 v6 = some x) {Q : Option Value → az_S → Prop} (hQ : Q (some (.int x.1)) (97, x.2, J, R)) : az_E az_F ex 124 222 41 [.ref 73, .int v1, .int v2, .int v3, .int v4, .int v5, .int v6] [] (97, I, J, R) Q := by
  unfold rs_M_byHeart_41 at h
  refine az_lp_E (G := fun s => az_E az_F ex 124 222 41 [.ref 73, .int v1, .int v2, .int v3, .int s.1, .int s.2.1, .int s.2.2.1] [] (97, s.2.2.2, J, R) Q) (H := fun x => Q (some (.int x.1)) (97, x.2, J, R)) (fun s o hb ho => ?_) _ _ _ h hQ
  exact re_M_byHeart_41_b  hb ho
set_option maxRecDepth 100000 in
set_option maxHeartbeats 4000000 in
theorem re_M_byHeart {ex : az_X} {I : Nat → Nat → Int32} {J : Nat → Nat → Int64} {R : Nat → Nat → Option Nat} {a1 : Int32} {a2 : Int32} {a3 : Int32} {o : Int32 × (Nat → Nat → Int32)} (h : rs_M_byHeart I J a1 a2 a3 = some o) {Q : Option Value → az_S → Prop} (hQ : Q (some (.int o.1)) (97, o.2, J, R)) : az_E az_F ex 124 222 0 [.ref 73, .int a1, .int a2, .int a3, .retAddr 0, .retAddr 0, .retAddr 0] [] (97, I, J, R) Q := by
  unfold rs_M_byHeart at h
  refine az_E.sn 2 (pc' := 2) (L' := [.ref 73, .int a1, .int a2, .int a3, .retAddr 0, .retAddr 0, .retAddr 0]) (S' := [.int a1, .ref 73]) (σ' := (97, I, J, R)) rfl ?_
  cases hx_2 : rs_M_shortsIs I a1 with
  | none => rw [hx_2] at h; cases h
  | some x_1 =>
    rw [hx_2] at h
    dsimp only at h
    refine az_E.call (d := 123) (k' := 219) (vs := [.ref 73, .int a1]) (pc' := 5) (S' := []) (Q1 := fun v s => v = some (.int x_1) ∧ s = (97, I, J, R)) rfl (az_E.deep (by omega) (re_M_shortsIs (J := J) (R := R)  hx_2 ⟨rfl, rfl⟩)) (fun v s hq => ?_)
    obtain ⟨rfl, rfl⟩ := hq
    show az_E az_F ex 124 222 5 [.ref 73, .int a1, .int a2, .int a3, .retAddr 0, .retAddr 0, .retAddr 0] [.int x_1] (97, I, J, R) _
    refine az_E.br (c := x_1 < 0) (tt := 27) (ff := 8) (L' := [.ref 73, .int a1, .int a2, .int a3, .retAddr 0, .retAddr 0, .retAddr 0]) (S' := []) (σ' := (97, I, J, R)) rfl (fun hc_3 => ?_) (fun hc_3 => ?_)
    · rw [if_pos hc_3] at h
      refine az_E.sn 1 (pc' := 29) (L' := [.ref 73, .int a1, .int a2, .int a3, .retAddr 0, .retAddr 0, .retAddr 0]) (S' := [.int (-2000000000 : Int32)]) (σ' := (97, I, J, R)) rfl ?_
      have h := Option.some.inj h
      subst h
      exact az_E.ret (v := some (.int (-2000000000 : Int32))) (σ' := (97, I, J, R)) rfl hQ
    · rw [if_neg hc_3] at h
      refine az_E.sn 3 (pc' := 11) (L' := [.ref 73, .int a1, .int a2, .int a3, .retAddr 0, .retAddr 0, .retAddr 0]) (S' := [.long a2.toInt64, .ref 73]) (σ' := (97, I, J, R)) rfl ?_
      refine az_E.call (d := 123) (k' := 162) (vs := [.ref 73, .long a2.toInt64]) (pc' := 14) (S' := []) rfl ?_ (fun _ _ hq => hq)
      show az_E az_F ex 123 162 0 [.ref 73, .long a2.toInt64, .retAddr 0] [] (97, I, J, R) _
      refine az_E.sn 7 (pc' := 9) (L' := [.ref 73, .long a2.toInt64, .retAddr 0]) (S' := [.long ((I 73 7) - (1 : Int32)).toInt64, .long (0 : Int64), .long a2.toInt64]) (σ' := (97, I, J, R)) rfl ?_
      refine az_E.call (d := 122) (k' := 154) (vs := [.long a2.toInt64, .long (0 : Int64), .long ((I 73 7) - (1 : Int32)).toInt64]) (pc' := 12) (S' := []) rfl ?_ (fun _ _ hq => hq)
      show az_E az_F ex 122 154 0 [.long a2.toInt64, .retAddr 0, .long (0 : Int64), .retAddr 0, .long ((I 73 7) - (1 : Int32)).toInt64, .retAddr 0] [] (97, I, J, R) _
      refine az_E.sn 3 (pc' := 3) (L' := [.long a2.toInt64, .retAddr 0, .long (0 : Int64), .retAddr 0, .long ((I 73 7) - (1 : Int32)).toInt64, .retAddr 0]) (S' := [.int (lg_cmp a2.toInt64 (0 : Int64))]) (σ' := (97, I, J, R)) rfl ?_
      refine az_E.br (c := (lg_cmp a2.toInt64 (0 : Int64)) < 0) (tt := 17) (ff := 6) (L' := [.long a2.toInt64, .retAddr 0, .long (0 : Int64), .retAddr 0, .long ((I 73 7) - (1 : Int32)).toInt64, .retAddr 0]) (S' := []) (σ' := (97, I, J, R)) rfl (fun hc_4 => ?_) (fun hc_4 => ?_)
      · rw [if_pos hc_4] at h
        refine az_E.sn 1 (pc' := 18) (L' := [.long a2.toInt64, .retAddr 0, .long (0 : Int64), .retAddr 0, .long ((I 73 7) - (1 : Int32)).toInt64, .retAddr 0]) (S' := [.int (0 : Int32)]) (σ' := (97, I, J, R)) rfl ?_
        refine az_E.ret (v := some (.int (0 : Int32))) (σ' := (97, I, J, R)) rfl ?_
        show az_E az_F ex 123 162 12 [.ref 73, .long a2.toInt64, .retAddr 0] [.int (0 : Int32)] (97, I, J, R) _
        refine az_E.ret (v := some (.int (0 : Int32))) (σ' := (97, I, J, R)) rfl ?_
        show az_E az_F ex 124 222 14 [.ref 73, .int a1, .int a2, .int a3, .retAddr 0, .retAddr 0, .retAddr 0] [.int (0 : Int32)] (97, I, J, R) _
        refine az_E.br (c := (0 : Int32) = 0) (tt := 27) (ff := 17) (L' := [.ref 73, .int a1, .int a2, .int a3, .retAddr 0, .retAddr 0, .retAddr 0]) (S' := []) (σ' := (97, I, J, R)) rfl (fun _ => ?_) (fun hn => absurd (by decide) hn)
        refine az_E.sn 1 (pc' := 29) (L' := [.ref 73, .int a1, .int a2, .int a3, .retAddr 0, .retAddr 0, .retAddr 0]) (S' := [.int (-2000000000 : Int32)]) (σ' := (97, I, J, R)) rfl ?_
        have h := Option.some.inj h
        subst h
        exact az_E.ret (v := some (.int (-2000000000 : Int32))) (σ' := (97, I, J, R)) rfl hQ
      · rw [if_neg hc_4] at h
        refine az_E.sn 3 (pc' := 10) (L' := [.long a2.toInt64, .retAddr 0, .long (0 : Int64), .retAddr 0, .long ((I 73 7) - (1 : Int32)).toInt64, .retAddr 0]) (S' := [.int (lg_cmp a2.toInt64 ((I 73 7) - (1 : Int32)).toInt64)]) (σ' := (97, I, J, R)) rfl ?_
        refine az_E.br (c := 0 < (lg_cmp a2.toInt64 ((I 73 7) - (1 : Int32)).toInt64)) (tt := 17) (ff := 13) (L' := [.long a2.toInt64, .retAddr 0, .long (0 : Int64), .retAddr 0, .long ((I 73 7) - (1 : Int32)).toInt64, .retAddr 0]) (S' := []) (σ' := (97, I, J, R)) rfl (fun hc_5 => ?_) (fun hc_5 => ?_)
        · rw [if_pos hc_5] at h
          refine az_E.sn 1 (pc' := 18) (L' := [.long a2.toInt64, .retAddr 0, .long (0 : Int64), .retAddr 0, .long ((I 73 7) - (1 : Int32)).toInt64, .retAddr 0]) (S' := [.int (0 : Int32)]) (σ' := (97, I, J, R)) rfl ?_
          refine az_E.ret (v := some (.int (0 : Int32))) (σ' := (97, I, J, R)) rfl ?_
          show az_E az_F ex 123 162 12 [.ref 73, .long a2.toInt64, .retAddr 0] [.int (0 : Int32)] (97, I, J, R) _
          refine az_E.ret (v := some (.int (0 : Int32))) (σ' := (97, I, J, R)) rfl ?_
          show az_E az_F ex 124 222 14 [.ref 73, .int a1, .int a2, .int a3, .retAddr 0, .retAddr 0, .retAddr 0] [.int (0 : Int32)] (97, I, J, R) _
          refine az_E.br (c := (0 : Int32) = 0) (tt := 27) (ff := 17) (L' := [.ref 73, .int a1, .int a2, .int a3, .retAddr 0, .retAddr 0, .retAddr 0]) (S' := []) (σ' := (97, I, J, R)) rfl (fun _ => ?_) (fun hn => absurd (by decide) hn)
          refine az_E.sn 1 (pc' := 29) (L' := [.ref 73, .int a1, .int a2, .int a3, .retAddr 0, .retAddr 0, .retAddr 0]) (S' := [.int (-2000000000 : Int32)]) (σ' := (97, I, J, R)) rfl ?_
          have h := Option.some.inj h
          subst h
          exact az_E.ret (v := some (.int (-2000000000 : Int32))) (σ' := (97, I, J, R)) rfl hQ
        · rw [if_neg hc_5] at h
          refine az_E.sn 2 (pc' := 18) (L' := [.long a2.toInt64, .retAddr 0, .long (0 : Int64), .retAddr 0, .long ((I 73 7) - (1 : Int32)).toInt64, .retAddr 0]) (S' := [.int (1 : Int32)]) (σ' := (97, I, J, R)) rfl ?_
          refine az_E.ret (v := some (.int (1 : Int32))) (σ' := (97, I, J, R)) rfl ?_
          show az_E az_F ex 123 162 12 [.ref 73, .long a2.toInt64, .retAddr 0] [.int (1 : Int32)] (97, I, J, R) _
          refine az_E.ret (v := some (.int (1 : Int32))) (σ' := (97, I, J, R)) rfl ?_
          show az_E az_F ex 124 222 14 [.ref 73, .int a1, .int a2, .int a3, .retAddr 0, .retAddr 0, .retAddr 0] [.int (1 : Int32)] (97, I, J, R) _
          refine az_E.br (c := (1 : Int32) = 0) (tt := 27) (ff := 17) (L' := [.ref 73, .int a1, .int a2, .int a3, .retAddr 0, .retAddr 0, .retAddr 0]) (S' := []) (σ' := (97, I, J, R)) rfl (fun hn => absurd hn (by decide)) (fun _ => ?_)
          refine az_E.sn 4 (pc' := 21) (L' := [.ref 73, .int a1, .int a2, .int a3, .retAddr 0, .retAddr 0, .retAddr 0]) (S' := [.long (1 : Int64), .long (0 : Int64), .long a3.toInt64]) (σ' := (97, I, J, R)) rfl ?_
          refine az_E.call (d := 123) (k' := 154) (vs := [.long a3.toInt64, .long (0 : Int64), .long (1 : Int64)]) (pc' := 24) (S' := []) rfl ?_ (fun _ _ hq => hq)
          show az_E az_F ex 123 154 0 [.long a3.toInt64, .retAddr 0, .long (0 : Int64), .retAddr 0, .long (1 : Int64), .retAddr 0] [] (97, I, J, R) _
          refine az_E.sn 3 (pc' := 3) (L' := [.long a3.toInt64, .retAddr 0, .long (0 : Int64), .retAddr 0, .long (1 : Int64), .retAddr 0]) (S' := [.int (lg_cmp a3.toInt64 (0 : Int64))]) (σ' := (97, I, J, R)) rfl ?_
          refine az_E.br (c := (lg_cmp a3.toInt64 (0 : Int64)) < 0) (tt := 17) (ff := 6) (L' := [.long a3.toInt64, .retAddr 0, .long (0 : Int64), .retAddr 0, .long (1 : Int64), .retAddr 0]) (S' := []) (σ' := (97, I, J, R)) rfl (fun hc_6 => ?_) (fun hc_6 => ?_)
          · rw [if_pos hc_6] at h
            refine az_E.sn 1 (pc' := 18) (L' := [.long a3.toInt64, .retAddr 0, .long (0 : Int64), .retAddr 0, .long (1 : Int64), .retAddr 0]) (S' := [.int (0 : Int32)]) (σ' := (97, I, J, R)) rfl ?_
            refine az_E.ret (v := some (.int (0 : Int32))) (σ' := (97, I, J, R)) rfl ?_
            show az_E az_F ex 124 222 24 [.ref 73, .int a1, .int a2, .int a3, .retAddr 0, .retAddr 0, .retAddr 0] [.int (0 : Int32)] (97, I, J, R) _
            refine az_E.br (c := (0 : Int32) = 0) (tt := 27) (ff := 30) (L' := [.ref 73, .int a1, .int a2, .int a3, .retAddr 0, .retAddr 0, .retAddr 0]) (S' := []) (σ' := (97, I, J, R)) rfl (fun _ => ?_) (fun hn => absurd (by decide) hn)
            refine az_E.sn 1 (pc' := 29) (L' := [.ref 73, .int a1, .int a2, .int a3, .retAddr 0, .retAddr 0, .retAddr 0]) (S' := [.int (-2000000000 : Int32)]) (σ' := (97, I, J, R)) rfl ?_
            have h := Option.some.inj h
            subst h
            exact az_E.ret (v := some (.int (-2000000000 : Int32))) (σ' := (97, I, J, R)) rfl hQ
          · rw [if_neg hc_6] at h
            refine az_E.sn 3 (pc' := 10) (L' := [.long a3.toInt64, .retAddr 0, .long (0 : Int64), .retAddr 0, .long (1 : Int64), .retAddr 0]) (S' := [.int (lg_cmp a3.toInt64 (1 : Int64))]) (σ' := (97, I, J, R)) rfl ?_
            refine az_E.br (c := 0 < (lg_cmp a3.toInt64 (1 : Int64))) (tt := 17) (ff := 13) (L' := [.long a3.toInt64, .retAddr 0, .long (0 : Int64), .retAddr 0, .long (1 : Int64), .retAddr 0]) (S' := []) (σ' := (97, I, J, R)) rfl (fun hc_7 => ?_) (fun hc_7 => ?_)
            · rw [if_pos hc_7] at h
              refine az_E.sn 1 (pc' := 18) (L' := [.long a3.toInt64, .retAddr 0, .long (0 : Int64), .retAddr 0, .long (1 : Int64), .retAddr 0]) (S' := [.int (0 : Int32)]) (σ' := (97, I, J, R)) rfl ?_
              refine az_E.ret (v := some (.int (0 : Int32))) (σ' := (97, I, J, R)) rfl ?_
              show az_E az_F ex 124 222 24 [.ref 73, .int a1, .int a2, .int a3, .retAddr 0, .retAddr 0, .retAddr 0] [.int (0 : Int32)] (97, I, J, R) _
              refine az_E.br (c := (0 : Int32) = 0) (tt := 27) (ff := 30) (L' := [.ref 73, .int a1, .int a2, .int a3, .retAddr 0, .retAddr 0, .retAddr 0]) (S' := []) (σ' := (97, I, J, R)) rfl (fun _ => ?_) (fun hn => absurd (by decide) hn)
              refine az_E.sn 1 (pc' := 29) (L' := [.ref 73, .int a1, .int a2, .int a3, .retAddr 0, .retAddr 0, .retAddr 0]) (S' := [.int (-2000000000 : Int32)]) (σ' := (97, I, J, R)) rfl ?_
              have h := Option.some.inj h
              subst h
              exact az_E.ret (v := some (.int (-2000000000 : Int32))) (σ' := (97, I, J, R)) rfl hQ
            · rw [if_neg hc_7] at h
              refine az_E.sn 2 (pc' := 18) (L' := [.long a3.toInt64, .retAddr 0, .long (0 : Int64), .retAddr 0, .long (1 : Int64), .retAddr 0]) (S' := [.int (1 : Int32)]) (σ' := (97, I, J, R)) rfl ?_
              refine az_E.ret (v := some (.int (1 : Int32))) (σ' := (97, I, J, R)) rfl ?_
              show az_E az_F ex 124 222 24 [.ref 73, .int a1, .int a2, .int a3, .retAddr 0, .retAddr 0, .retAddr 0] [.int (1 : Int32)] (97, I, J, R) _
              refine az_E.br (c := (1 : Int32) = 0) (tt := 27) (ff := 30) (L' := [.ref 73, .int a1, .int a2, .int a3, .retAddr 0, .retAddr 0, .retAddr 0]) (S' := []) (σ' := (97, I, J, R)) rfl (fun hn => absurd hn (by decide)) (fun _ => ?_)
              refine az_E.sn 6 (pc' := 41) (L' := [.ref 73, .int a1, .int a2, .int a3, .int (0 : Int32), .int (-99 : Int32), .int (-9 : Int32)]) (S' := []) (σ' := (97, I, J, R)) rfl ?_
              exact az_E.forget (L := [.ref 73, .int a1, .int a2, .int a3, .int (0 : Int32), .int (-99 : Int32), .int (-9 : Int32)]) ⟨rfl, rfl, rfl, rfl, rfl, rfl, rfl, trivial⟩ (re_M_byHeart_41 (I := I) (J := J) (R := R)  h hQ)
set_option maxRecDepth 100000 in
set_option maxHeartbeats 4000000 in
theorem re_X_whose_51_16_21_61 {ex : az_X} {I : Nat → Nat → Int32} {J : Nat → Nat → Int64} {R : Nat → Nat → Option Nat} {v1 : Int32} {v3 : Int32} {v4 : Int32} (hR_3_2 : R 3 2 = some 16) (hR_3_3 : R 3 3 = some 21) {x : ((Int32 × Int32 × (Nat → Nat → Int32)) ⊕ (Int32 × (Nat → Nat → Int32)))} (h : rs_X_whose_51 21 16 61 I J v1 v3 v4 = some x) {Q : Option Value → az_S → Prop} (hQ : Sum.elim (fun s => ∀ R : Nat → Nat → Option Nat, R 3 2 = some 16 → R 3 3 = some 21 → az_E az_F ex 6 108 26 [.ref 3, .int v1, .retAddr 0, .int s.1, .int s.2.1] [] (97, s.2.2, J, R) Q) (fun x => ∀ R' : Nat → Nat → Option Nat, R' 3 2 = some 16 → R' 3 3 = some 21 → Q (some (.int x.1)) (97, x.2, J, R')) x) : az_E az_F ex 6 108 51 [.ref 3, .int v1, .retAddr 0, .int v3, .int v4] [.ref 61, .ref 3] (97, I, J, (az_u (az_u R 26 2 (some 16)) 26 3 (some 5))) Q := by
  unfold rs_X_whose_51 at h
  cases hx_12 : rs_X_firstWrongTwo 61 I J with
  | none => rw [hx_12] at h; cases h
  | some o =>
    rw [hx_12] at h
    obtain ⟨x_10, I_11⟩ := o
    dsimp only at h
    refine az_E.call (d := 5) (k' := 151) (vs := [.ref 3, .ref 61]) (pc' := 54) (S' := []) (Q1 := fun v s => v = some (.int x_10) ∧ s = (97, I_11, J, (az_u (az_u R 26 2 (some 16)) 26 3 (some 5)))) rfl (az_E.deep (by omega) (re_X_firstWrongTwo_61_5 (J := J) (R := (az_u (az_u R 26 2 (some 16)) 26 3 (some 5))) rfl hx_12 ⟨rfl, rfl⟩)) (fun v s hq => ?_)
    obtain ⟨rfl, rfl⟩ := hq
    show az_E az_F ex 6 108 54 [.ref 3, .int v1, .retAddr 0, .int v3, .int v4] [.int x_10] (97, I_11, J, (az_u (az_u R 26 2 (some 16)) 26 3 (some 5))) _
    refine az_E.sn 1 (pc' := 56) (L' := [.ref 3, .int v1, .retAddr 0, .int v3, .int v4]) (S' := [.int (-2 : Int32), .int x_10]) (σ' := (97, I_11, J, (az_u (az_u R 26 2 (some 16)) 26 3 (some 5)))) rfl ?_
    refine az_E.br (c := x_10 = (-2 : Int32)) (tt := 59) (ff := 66) (L' := [.ref 3, .int v1, .retAddr 0, .int v3, .int v4]) (S' := []) (σ' := (97, I_11, J, (az_u (az_u R 26 2 (some 16)) 26 3 (some 5)))) rfl (fun hc_13 => ?_) (fun hc_13 => ?_)
    · rw [if_pos hc_13] at h
      refine az_E.sn 8 (pc' := 26) (L' := [.ref 3, .int v1, .retAddr 0, .int (v3 ||| ((1 : Int32) <<< (v4 &&& 31))), .int (v4 + (1 : Int32))]) (S' := []) (σ' := (97, I_11, J, (az_u (az_u R 26 2 (some 16)) 26 3 (some 5)))) rfl ?_
      have h := Option.some.inj h
      subst h
      simp only [Sum.elim_inl, Sum.elim_inr] at hQ
      exact az_E.forget (L := [.ref 3, .int v1, .retAddr 0, .int (v3 ||| ((1 : Int32) <<< (v4 &&& 31))), .int (v4 + (1 : Int32))]) ⟨rfl, rfl, trivial, rfl, rfl, trivial⟩ (hQ (az_u (az_u R 26 2 (some 16)) 26 3 (some 5)) hR_3_2 hR_3_3)
    · rw [if_neg hc_13] at h
      refine az_E.sn 2 (pc' := 26) (L' := [.ref 3, .int v1, .retAddr 0, .int v3, .int (v4 + (1 : Int32))]) (S' := []) (σ' := (97, I_11, J, (az_u (az_u R 26 2 (some 16)) 26 3 (some 5)))) rfl ?_
      have h := Option.some.inj h
      subst h
      simp only [Sum.elim_inl, Sum.elim_inr] at hQ
      exact az_E.forget (L := [.ref 3, .int v1, .retAddr 0, .int v3, .int (v4 + (1 : Int32))]) ⟨rfl, rfl, trivial, rfl, rfl, trivial⟩ (hQ (az_u (az_u R 26 2 (some 16)) 26 3 (some 5)) hR_3_2 hR_3_3)
set_option maxRecDepth 100000 in
set_option maxHeartbeats 4000000 in
theorem re_X_whose_51_16_21_63 {ex : az_X} {I : Nat → Nat → Int32} {J : Nat → Nat → Int64} {R : Nat → Nat → Option Nat} {v1 : Int32} {v3 : Int32} {v4 : Int32} (hR_3_2 : R 3 2 = some 16) (hR_3_3 : R 3 3 = some 21) {x : ((Int32 × Int32 × (Nat → Nat → Int32)) ⊕ (Int32 × (Nat → Nat → Int32)))} (h : rs_X_whose_51 21 16 63 I J v1 v3 v4 = some x) {Q : Option Value → az_S → Prop} (hQ : Sum.elim (fun s => ∀ R : Nat → Nat → Option Nat, R 3 2 = some 16 → R 3 3 = some 21 → az_E az_F ex 6 108 26 [.ref 3, .int v1, .retAddr 0, .int s.1, .int s.2.1] [] (97, s.2.2, J, R) Q) (fun x => ∀ R' : Nat → Nat → Option Nat, R' 3 2 = some 16 → R' 3 3 = some 21 → Q (some (.int x.1)) (97, x.2, J, R')) x) : az_E az_F ex 6 108 51 [.ref 3, .int v1, .retAddr 0, .int v3, .int v4] [.ref 63, .ref 3] (97, I, J, (az_u (az_u R 26 2 (some 16)) 26 3 (some 5))) Q := by
  unfold rs_X_whose_51 at h
  cases hx_16 : rs_X_firstWrongTwo 63 I J with
  | none => rw [hx_16] at h; cases h
  | some o =>
    rw [hx_16] at h
    obtain ⟨x_14, I_15⟩ := o
    dsimp only at h
    refine az_E.call (d := 5) (k' := 151) (vs := [.ref 3, .ref 63]) (pc' := 54) (S' := []) (Q1 := fun v s => v = some (.int x_14) ∧ s = (97, I_15, J, (az_u (az_u R 26 2 (some 16)) 26 3 (some 5)))) rfl (az_E.deep (by omega) (re_X_firstWrongTwo_63_5 (J := J) (R := (az_u (az_u R 26 2 (some 16)) 26 3 (some 5))) rfl hx_16 ⟨rfl, rfl⟩)) (fun v s hq => ?_)
    obtain ⟨rfl, rfl⟩ := hq
    show az_E az_F ex 6 108 54 [.ref 3, .int v1, .retAddr 0, .int v3, .int v4] [.int x_14] (97, I_15, J, (az_u (az_u R 26 2 (some 16)) 26 3 (some 5))) _
    refine az_E.sn 1 (pc' := 56) (L' := [.ref 3, .int v1, .retAddr 0, .int v3, .int v4]) (S' := [.int (-2 : Int32), .int x_14]) (σ' := (97, I_15, J, (az_u (az_u R 26 2 (some 16)) 26 3 (some 5)))) rfl ?_
    refine az_E.br (c := x_14 = (-2 : Int32)) (tt := 59) (ff := 66) (L' := [.ref 3, .int v1, .retAddr 0, .int v3, .int v4]) (S' := []) (σ' := (97, I_15, J, (az_u (az_u R 26 2 (some 16)) 26 3 (some 5)))) rfl (fun hc_17 => ?_) (fun hc_17 => ?_)
    · rw [if_pos hc_17] at h
      refine az_E.sn 8 (pc' := 26) (L' := [.ref 3, .int v1, .retAddr 0, .int (v3 ||| ((1 : Int32) <<< (v4 &&& 31))), .int (v4 + (1 : Int32))]) (S' := []) (σ' := (97, I_15, J, (az_u (az_u R 26 2 (some 16)) 26 3 (some 5)))) rfl ?_
      have h := Option.some.inj h
      subst h
      simp only [Sum.elim_inl, Sum.elim_inr] at hQ
      exact az_E.forget (L := [.ref 3, .int v1, .retAddr 0, .int (v3 ||| ((1 : Int32) <<< (v4 &&& 31))), .int (v4 + (1 : Int32))]) ⟨rfl, rfl, trivial, rfl, rfl, trivial⟩ (hQ (az_u (az_u R 26 2 (some 16)) 26 3 (some 5)) hR_3_2 hR_3_3)
    · rw [if_neg hc_17] at h
      refine az_E.sn 2 (pc' := 26) (L' := [.ref 3, .int v1, .retAddr 0, .int v3, .int (v4 + (1 : Int32))]) (S' := []) (σ' := (97, I_15, J, (az_u (az_u R 26 2 (some 16)) 26 3 (some 5)))) rfl ?_
      have h := Option.some.inj h
      subst h
      simp only [Sum.elim_inl, Sum.elim_inr] at hQ
      exact az_E.forget (L := [.ref 3, .int v1, .retAddr 0, .int v3, .int (v4 + (1 : Int32))]) ⟨rfl, rfl, trivial, rfl, rfl, trivial⟩ (hQ (az_u (az_u R 26 2 (some 16)) 26 3 (some 5)) hR_3_2 hR_3_3)
set_option maxRecDepth 100000 in
set_option maxHeartbeats 4000000 in
theorem re_X_whose_51_16_21_65 {ex : az_X} {I : Nat → Nat → Int32} {J : Nat → Nat → Int64} {R : Nat → Nat → Option Nat} {v1 : Int32} {v3 : Int32} {v4 : Int32} (hR_3_2 : R 3 2 = some 16) (hR_3_3 : R 3 3 = some 21) {x : ((Int32 × Int32 × (Nat → Nat → Int32)) ⊕ (Int32 × (Nat → Nat → Int32)))} (h : rs_X_whose_51 21 16 65 I J v1 v3 v4 = some x) {Q : Option Value → az_S → Prop} (hQ : Sum.elim (fun s => ∀ R : Nat → Nat → Option Nat, R 3 2 = some 16 → R 3 3 = some 21 → az_E az_F ex 6 108 26 [.ref 3, .int v1, .retAddr 0, .int s.1, .int s.2.1] [] (97, s.2.2, J, R) Q) (fun x => ∀ R' : Nat → Nat → Option Nat, R' 3 2 = some 16 → R' 3 3 = some 21 → Q (some (.int x.1)) (97, x.2, J, R')) x) : az_E az_F ex 6 108 51 [.ref 3, .int v1, .retAddr 0, .int v3, .int v4] [.ref 65, .ref 3] (97, I, J, (az_u (az_u R 26 2 (some 16)) 26 3 (some 5))) Q := by
  unfold rs_X_whose_51 at h
  cases hx_20 : rs_X_firstWrongTwo 65 I J with
  | none => rw [hx_20] at h; cases h
  | some o =>
    rw [hx_20] at h
    obtain ⟨x_18, I_19⟩ := o
    dsimp only at h
    refine az_E.call (d := 5) (k' := 151) (vs := [.ref 3, .ref 65]) (pc' := 54) (S' := []) (Q1 := fun v s => v = some (.int x_18) ∧ s = (97, I_19, J, (az_u (az_u R 26 2 (some 16)) 26 3 (some 5)))) rfl (az_E.deep (by omega) (re_X_firstWrongTwo_65_5 (J := J) (R := (az_u (az_u R 26 2 (some 16)) 26 3 (some 5))) rfl hx_20 ⟨rfl, rfl⟩)) (fun v s hq => ?_)
    obtain ⟨rfl, rfl⟩ := hq
    show az_E az_F ex 6 108 54 [.ref 3, .int v1, .retAddr 0, .int v3, .int v4] [.int x_18] (97, I_19, J, (az_u (az_u R 26 2 (some 16)) 26 3 (some 5))) _
    refine az_E.sn 1 (pc' := 56) (L' := [.ref 3, .int v1, .retAddr 0, .int v3, .int v4]) (S' := [.int (-2 : Int32), .int x_18]) (σ' := (97, I_19, J, (az_u (az_u R 26 2 (some 16)) 26 3 (some 5)))) rfl ?_
    refine az_E.br (c := x_18 = (-2 : Int32)) (tt := 59) (ff := 66) (L' := [.ref 3, .int v1, .retAddr 0, .int v3, .int v4]) (S' := []) (σ' := (97, I_19, J, (az_u (az_u R 26 2 (some 16)) 26 3 (some 5)))) rfl (fun hc_21 => ?_) (fun hc_21 => ?_)
    · rw [if_pos hc_21] at h
      refine az_E.sn 8 (pc' := 26) (L' := [.ref 3, .int v1, .retAddr 0, .int (v3 ||| ((1 : Int32) <<< (v4 &&& 31))), .int (v4 + (1 : Int32))]) (S' := []) (σ' := (97, I_19, J, (az_u (az_u R 26 2 (some 16)) 26 3 (some 5)))) rfl ?_
      have h := Option.some.inj h
      subst h
      simp only [Sum.elim_inl, Sum.elim_inr] at hQ
      exact az_E.forget (L := [.ref 3, .int v1, .retAddr 0, .int (v3 ||| ((1 : Int32) <<< (v4 &&& 31))), .int (v4 + (1 : Int32))]) ⟨rfl, rfl, trivial, rfl, rfl, trivial⟩ (hQ (az_u (az_u R 26 2 (some 16)) 26 3 (some 5)) hR_3_2 hR_3_3)
    · rw [if_neg hc_21] at h
      refine az_E.sn 2 (pc' := 26) (L' := [.ref 3, .int v1, .retAddr 0, .int v3, .int (v4 + (1 : Int32))]) (S' := []) (σ' := (97, I_19, J, (az_u (az_u R 26 2 (some 16)) 26 3 (some 5)))) rfl ?_
      have h := Option.some.inj h
      subst h
      simp only [Sum.elim_inl, Sum.elim_inr] at hQ
      exact az_E.forget (L := [.ref 3, .int v1, .retAddr 0, .int v3, .int (v4 + (1 : Int32))]) ⟨rfl, rfl, trivial, rfl, rfl, trivial⟩ (hQ (az_u (az_u R 26 2 (some 16)) 26 3 (some 5)) hR_3_2 hR_3_3)
set_option maxRecDepth 100000 in
set_option maxHeartbeats 4000000 in
theorem re_X_whose_51_16_21_67 {ex : az_X} {I : Nat → Nat → Int32} {J : Nat → Nat → Int64} {R : Nat → Nat → Option Nat} {v1 : Int32} {v3 : Int32} {v4 : Int32} (hR_3_2 : R 3 2 = some 16) (hR_3_3 : R 3 3 = some 21) {x : ((Int32 × Int32 × (Nat → Nat → Int32)) ⊕ (Int32 × (Nat → Nat → Int32)))} (h : rs_X_whose_51 21 16 67 I J v1 v3 v4 = some x) {Q : Option Value → az_S → Prop} (hQ : Sum.elim (fun s => ∀ R : Nat → Nat → Option Nat, R 3 2 = some 16 → R 3 3 = some 21 → az_E az_F ex 6 108 26 [.ref 3, .int v1, .retAddr 0, .int s.1, .int s.2.1] [] (97, s.2.2, J, R) Q) (fun x => ∀ R' : Nat → Nat → Option Nat, R' 3 2 = some 16 → R' 3 3 = some 21 → Q (some (.int x.1)) (97, x.2, J, R')) x) : az_E az_F ex 6 108 51 [.ref 3, .int v1, .retAddr 0, .int v3, .int v4] [.ref 67, .ref 3] (97, I, J, (az_u (az_u R 26 2 (some 16)) 26 3 (some 5))) Q := by
  unfold rs_X_whose_51 at h
  cases hx_24 : rs_X_firstWrongTwo 67 I J with
  | none => rw [hx_24] at h; cases h
  | some o =>
    rw [hx_24] at h
    obtain ⟨x_22, I_23⟩ := o
    dsimp only at h
    refine az_E.call (d := 5) (k' := 151) (vs := [.ref 3, .ref 67]) (pc' := 54) (S' := []) (Q1 := fun v s => v = some (.int x_22) ∧ s = (97, I_23, J, (az_u (az_u R 26 2 (some 16)) 26 3 (some 5)))) rfl (az_E.deep (by omega) (re_X_firstWrongTwo_67_5 (J := J) (R := (az_u (az_u R 26 2 (some 16)) 26 3 (some 5))) rfl hx_24 ⟨rfl, rfl⟩)) (fun v s hq => ?_)
    obtain ⟨rfl, rfl⟩ := hq
    show az_E az_F ex 6 108 54 [.ref 3, .int v1, .retAddr 0, .int v3, .int v4] [.int x_22] (97, I_23, J, (az_u (az_u R 26 2 (some 16)) 26 3 (some 5))) _
    refine az_E.sn 1 (pc' := 56) (L' := [.ref 3, .int v1, .retAddr 0, .int v3, .int v4]) (S' := [.int (-2 : Int32), .int x_22]) (σ' := (97, I_23, J, (az_u (az_u R 26 2 (some 16)) 26 3 (some 5)))) rfl ?_
    refine az_E.br (c := x_22 = (-2 : Int32)) (tt := 59) (ff := 66) (L' := [.ref 3, .int v1, .retAddr 0, .int v3, .int v4]) (S' := []) (σ' := (97, I_23, J, (az_u (az_u R 26 2 (some 16)) 26 3 (some 5)))) rfl (fun hc_25 => ?_) (fun hc_25 => ?_)
    · rw [if_pos hc_25] at h
      refine az_E.sn 8 (pc' := 26) (L' := [.ref 3, .int v1, .retAddr 0, .int (v3 ||| ((1 : Int32) <<< (v4 &&& 31))), .int (v4 + (1 : Int32))]) (S' := []) (σ' := (97, I_23, J, (az_u (az_u R 26 2 (some 16)) 26 3 (some 5)))) rfl ?_
      have h := Option.some.inj h
      subst h
      simp only [Sum.elim_inl, Sum.elim_inr] at hQ
      exact az_E.forget (L := [.ref 3, .int v1, .retAddr 0, .int (v3 ||| ((1 : Int32) <<< (v4 &&& 31))), .int (v4 + (1 : Int32))]) ⟨rfl, rfl, trivial, rfl, rfl, trivial⟩ (hQ (az_u (az_u R 26 2 (some 16)) 26 3 (some 5)) hR_3_2 hR_3_3)
    · rw [if_neg hc_25] at h
      refine az_E.sn 2 (pc' := 26) (L' := [.ref 3, .int v1, .retAddr 0, .int v3, .int (v4 + (1 : Int32))]) (S' := []) (σ' := (97, I_23, J, (az_u (az_u R 26 2 (some 16)) 26 3 (some 5)))) rfl ?_
      have h := Option.some.inj h
      subst h
      simp only [Sum.elim_inl, Sum.elim_inr] at hQ
      exact az_E.forget (L := [.ref 3, .int v1, .retAddr 0, .int v3, .int (v4 + (1 : Int32))]) ⟨rfl, rfl, trivial, rfl, rfl, trivial⟩ (hQ (az_u (az_u R 26 2 (some 16)) 26 3 (some 5)) hR_3_2 hR_3_3)
set_option maxRecDepth 100000 in
set_option maxHeartbeats 4000000 in
theorem re_X_whose_51_16_21_69 {ex : az_X} {I : Nat → Nat → Int32} {J : Nat → Nat → Int64} {R : Nat → Nat → Option Nat} {v1 : Int32} {v3 : Int32} {v4 : Int32} (hR_3_2 : R 3 2 = some 16) (hR_3_3 : R 3 3 = some 21) {x : ((Int32 × Int32 × (Nat → Nat → Int32)) ⊕ (Int32 × (Nat → Nat → Int32)))} (h : rs_X_whose_51 21 16 69 I J v1 v3 v4 = some x) {Q : Option Value → az_S → Prop} (hQ : Sum.elim (fun s => ∀ R : Nat → Nat → Option Nat, R 3 2 = some 16 → R 3 3 = some 21 → az_E az_F ex 6 108 26 [.ref 3, .int v1, .retAddr 0, .int s.1, .int s.2.1] [] (97, s.2.2, J, R) Q) (fun x => ∀ R' : Nat → Nat → Option Nat, R' 3 2 = some 16 → R' 3 3 = some 21 → Q (some (.int x.1)) (97, x.2, J, R')) x) : az_E az_F ex 6 108 51 [.ref 3, .int v1, .retAddr 0, .int v3, .int v4] [.ref 69, .ref 3] (97, I, J, (az_u (az_u R 26 2 (some 16)) 26 3 (some 5))) Q := by
  unfold rs_X_whose_51 at h
  cases hx_28 : rs_X_firstWrongTwo 69 I J with
  | none => rw [hx_28] at h; cases h
  | some o =>
    rw [hx_28] at h
    obtain ⟨x_26, I_27⟩ := o
    dsimp only at h
    refine az_E.call (d := 5) (k' := 151) (vs := [.ref 3, .ref 69]) (pc' := 54) (S' := []) (Q1 := fun v s => v = some (.int x_26) ∧ s = (97, I_27, J, (az_u (az_u R 26 2 (some 16)) 26 3 (some 5)))) rfl (az_E.deep (by omega) (re_X_firstWrongTwo_69_5 (J := J) (R := (az_u (az_u R 26 2 (some 16)) 26 3 (some 5))) rfl hx_28 ⟨rfl, rfl⟩)) (fun v s hq => ?_)
    obtain ⟨rfl, rfl⟩ := hq
    show az_E az_F ex 6 108 54 [.ref 3, .int v1, .retAddr 0, .int v3, .int v4] [.int x_26] (97, I_27, J, (az_u (az_u R 26 2 (some 16)) 26 3 (some 5))) _
    refine az_E.sn 1 (pc' := 56) (L' := [.ref 3, .int v1, .retAddr 0, .int v3, .int v4]) (S' := [.int (-2 : Int32), .int x_26]) (σ' := (97, I_27, J, (az_u (az_u R 26 2 (some 16)) 26 3 (some 5)))) rfl ?_
    refine az_E.br (c := x_26 = (-2 : Int32)) (tt := 59) (ff := 66) (L' := [.ref 3, .int v1, .retAddr 0, .int v3, .int v4]) (S' := []) (σ' := (97, I_27, J, (az_u (az_u R 26 2 (some 16)) 26 3 (some 5)))) rfl (fun hc_29 => ?_) (fun hc_29 => ?_)
    · rw [if_pos hc_29] at h
      refine az_E.sn 8 (pc' := 26) (L' := [.ref 3, .int v1, .retAddr 0, .int (v3 ||| ((1 : Int32) <<< (v4 &&& 31))), .int (v4 + (1 : Int32))]) (S' := []) (σ' := (97, I_27, J, (az_u (az_u R 26 2 (some 16)) 26 3 (some 5)))) rfl ?_
      have h := Option.some.inj h
      subst h
      simp only [Sum.elim_inl, Sum.elim_inr] at hQ
      exact az_E.forget (L := [.ref 3, .int v1, .retAddr 0, .int (v3 ||| ((1 : Int32) <<< (v4 &&& 31))), .int (v4 + (1 : Int32))]) ⟨rfl, rfl, trivial, rfl, rfl, trivial⟩ (hQ (az_u (az_u R 26 2 (some 16)) 26 3 (some 5)) hR_3_2 hR_3_3)
    · rw [if_neg hc_29] at h
      refine az_E.sn 2 (pc' := 26) (L' := [.ref 3, .int v1, .retAddr 0, .int v3, .int (v4 + (1 : Int32))]) (S' := []) (σ' := (97, I_27, J, (az_u (az_u R 26 2 (some 16)) 26 3 (some 5)))) rfl ?_
      have h := Option.some.inj h
      subst h
      simp only [Sum.elim_inl, Sum.elim_inr] at hQ
      exact az_E.forget (L := [.ref 3, .int v1, .retAddr 0, .int v3, .int (v4 + (1 : Int32))]) ⟨rfl, rfl, trivial, rfl, rfl, trivial⟩ (hQ (az_u (az_u R 26 2 (some 16)) 26 3 (some 5)) hR_3_2 hR_3_3)
set_option maxRecDepth 100000 in
set_option maxHeartbeats 4000000 in
theorem re_X_whose_51_16_21_71 {ex : az_X} {I : Nat → Nat → Int32} {J : Nat → Nat → Int64} {R : Nat → Nat → Option Nat} {v1 : Int32} {v3 : Int32} {v4 : Int32} (hR_3_2 : R 3 2 = some 16) (hR_3_3 : R 3 3 = some 21) {x : ((Int32 × Int32 × (Nat → Nat → Int32)) ⊕ (Int32 × (Nat → Nat → Int32)))} (h : rs_X_whose_51 21 16 71 I J v1 v3 v4 = some x) {Q : Option Value → az_S → Prop} (hQ : Sum.elim (fun s => ∀ R : Nat → Nat → Option Nat, R 3 2 = some 16 → R 3 3 = some 21 → az_E az_F ex 6 108 26 [.ref 3, .int v1, .retAddr 0, .int s.1, .int s.2.1] [] (97, s.2.2, J, R) Q) (fun x => ∀ R' : Nat → Nat → Option Nat, R' 3 2 = some 16 → R' 3 3 = some 21 → Q (some (.int x.1)) (97, x.2, J, R')) x) : az_E az_F ex 6 108 51 [.ref 3, .int v1, .retAddr 0, .int v3, .int v4] [.ref 71, .ref 3] (97, I, J, (az_u (az_u R 26 2 (some 16)) 26 3 (some 5))) Q := by
  unfold rs_X_whose_51 at h
  cases hx_32 : rs_X_firstWrongTwo 71 I J with
  | none => rw [hx_32] at h; cases h
  | some o =>
    rw [hx_32] at h
    obtain ⟨x_30, I_31⟩ := o
    dsimp only at h
    refine az_E.call (d := 5) (k' := 151) (vs := [.ref 3, .ref 71]) (pc' := 54) (S' := []) (Q1 := fun v s => v = some (.int x_30) ∧ s = (97, I_31, J, (az_u (az_u R 26 2 (some 16)) 26 3 (some 5)))) rfl (az_E.deep (by omega) (re_X_firstWrongTwo_71_5 (J := J) (R := (az_u (az_u R 26 2 (some 16)) 26 3 (some 5))) rfl hx_32 ⟨rfl, rfl⟩)) (fun v s hq => ?_)
    obtain ⟨rfl, rfl⟩ := hq
    show az_E az_F ex 6 108 54 [.ref 3, .int v1, .retAddr 0, .int v3, .int v4] [.int x_30] (97, I_31, J, (az_u (az_u R 26 2 (some 16)) 26 3 (some 5))) _
    refine az_E.sn 1 (pc' := 56) (L' := [.ref 3, .int v1, .retAddr 0, .int v3, .int v4]) (S' := [.int (-2 : Int32), .int x_30]) (σ' := (97, I_31, J, (az_u (az_u R 26 2 (some 16)) 26 3 (some 5)))) rfl ?_
    refine az_E.br (c := x_30 = (-2 : Int32)) (tt := 59) (ff := 66) (L' := [.ref 3, .int v1, .retAddr 0, .int v3, .int v4]) (S' := []) (σ' := (97, I_31, J, (az_u (az_u R 26 2 (some 16)) 26 3 (some 5)))) rfl (fun hc_33 => ?_) (fun hc_33 => ?_)
    · rw [if_pos hc_33] at h
      refine az_E.sn 8 (pc' := 26) (L' := [.ref 3, .int v1, .retAddr 0, .int (v3 ||| ((1 : Int32) <<< (v4 &&& 31))), .int (v4 + (1 : Int32))]) (S' := []) (σ' := (97, I_31, J, (az_u (az_u R 26 2 (some 16)) 26 3 (some 5)))) rfl ?_
      have h := Option.some.inj h
      subst h
      simp only [Sum.elim_inl, Sum.elim_inr] at hQ
      exact az_E.forget (L := [.ref 3, .int v1, .retAddr 0, .int (v3 ||| ((1 : Int32) <<< (v4 &&& 31))), .int (v4 + (1 : Int32))]) ⟨rfl, rfl, trivial, rfl, rfl, trivial⟩ (hQ (az_u (az_u R 26 2 (some 16)) 26 3 (some 5)) hR_3_2 hR_3_3)
    · rw [if_neg hc_33] at h
      refine az_E.sn 2 (pc' := 26) (L' := [.ref 3, .int v1, .retAddr 0, .int v3, .int (v4 + (1 : Int32))]) (S' := []) (σ' := (97, I_31, J, (az_u (az_u R 26 2 (some 16)) 26 3 (some 5)))) rfl ?_
      have h := Option.some.inj h
      subst h
      simp only [Sum.elim_inl, Sum.elim_inr] at hQ
      exact az_E.forget (L := [.ref 3, .int v1, .retAddr 0, .int v3, .int (v4 + (1 : Int32))]) ⟨rfl, rfl, trivial, rfl, rfl, trivial⟩ (hQ (az_u (az_u R 26 2 (some 16)) 26 3 (some 5)) hR_3_2 hR_3_3)
set_option maxRecDepth 100000 in
set_option maxHeartbeats 4000000 in
theorem re_X_whose_26_b_16_21 {ex : az_X} {I : Nat → Nat → Int32} {J : Nat → Nat → Int64} {R : Nat → Nat → Option Nat} {v1 : Int32} {v3 : Int32} {v4 : Int32} (hR_3_2 : R 3 2 = some 16) (hR_3_3 : R 3 3 = some 21) {x : ((Int32 × Int32 × (Nat → Nat → Int32)) ⊕ (Int32 × (Nat → Nat → Int32)))} (h : rs_X_whose_26_b 21 16 J v1 v3 v4 I = some x) {Q : Option Value → az_S → Prop} (hQ : Sum.elim (fun s => ∀ R : Nat → Nat → Option Nat, R 3 2 = some 16 → R 3 3 = some 21 → az_E az_F ex 6 108 26 [.ref 3, .int v1, .retAddr 0, .int s.1, .int s.2.1] [] (97, s.2.2, J, R) Q) (fun x => ∀ R' : Nat → Nat → Option Nat, R' 3 2 = some 16 → R' 3 3 = some 21 → Q (some (.int x.1)) (97, x.2, J, R')) x) : az_E az_F ex 6 108 26 [.ref 3, .int v1, .retAddr 0, .int v3, .int v4] [] (97, I, J, R) Q := by
  unfold rs_X_whose_26_b at h
  refine az_E.sn 4 (pc' := 35) (L' := [.ref 3, .int v1, .retAddr 0, .int v3, .int v4]) (S' := [.int (I 4 9), .int v4]) (σ' := (97, I, J, R)) rfl ?_
  refine az_E.br (c := (I 4 9) ≤ v4) (tt := 72) (ff := 38) (L' := [.ref 3, .int v1, .retAddr 0, .int v3, .int v4]) (S' := []) (σ' := (97, I, J, R)) rfl (fun hc_6 => ?_) (fun hc_6 => ?_)
  · rw [if_pos hc_6] at h
    refine az_E.sn 1 (pc' := 73) (L' := [.ref 3, .int v1, .retAddr 0, .int v3, .int v4]) (S' := [.int v3]) (σ' := (97, I, J, R)) rfl ?_
    have h := Option.some.inj h
    subst h
    try simp only [Sum.elim_inl, Sum.elim_inr] at hQ
    exact az_E.ret (v := some (.int v3)) (σ' := (97, I, J, R)) rfl (hQ _ hR_3_2 hR_3_3)
  · rw [if_neg hc_6] at h
    refine az_E.sn 2 (pc' := 41) (L' := [.ref 3, .int v1, .retAddr 0, .int v3, .int v4]) (S' := [.int v4, .ref 3]) (σ' := (97, I, J, R)) rfl ?_
    cases hx_8 : rs_X_setPace 16 I v4 with
    | none => rw [hx_8] at h; cases h
    | some I_7 =>
      rw [hx_8] at h
      dsimp only at h
      refine az_E.call (d := 5) (k' := 144) (vs := [.ref 3, .int v4]) (pc' := 44) (S' := []) (Q1 := fun v s => v = none ∧ s = (97, I_7, J, (az_u (az_u R 26 2 (some 16)) 26 3 (some 5)))) rfl (az_E.deep (by omega) (re_X_setPace_16 (J := J) (R := R) hR_3_2 hx_8 ⟨rfl, rfl⟩)) (fun v s hq => ?_)
      obtain ⟨rfl, rfl⟩ := hq
      show az_E az_F ex 6 108 44 [.ref 3, .int v1, .retAddr 0, .int v3, .int v4] [] (97, I_7, J, (az_u (az_u R 26 2 (some 16)) 26 3 (some 5))) _
      refine az_E.sn 4 (pc' := 50) (L' := [.ref 3, .int v1, .retAddr 0, .int v3, .int v4]) (S' := [.int v1, .ref 58, .ref 3]) (σ' := (97, I_7, J, (az_u (az_u R 26 2 (some 16)) 26 3 (some 5)))) rfl ?_
      by_cases hc_9 : v1 < 0 ∨ 6 ≤ v1.toNatClampNeg
      · rw [if_pos hc_9] at h; cases h
      · rw [if_neg hc_9] at h
        rcases az_six hc_9 with ehc_9 | ehc_9 | ehc_9 | ehc_9 | ehc_9 | ehc_9
        · rw [ehc_9] at h ⊢; (try rw [ehc_9] at hQ)
          refine az_E.ov (pc' := 51) (L' := [.ref 3, .int (0 : Int32), .retAddr 0, .int v3, .int v4]) (S' := [.ref 3]) (σ' := (97, I_7, J, (az_u (az_u R 26 2 (some 16)) 26 3 (some 5)))) (x := .ref 61) (o := az_aa az_F (97, I_7, J, (az_u (az_u R 26 2 (some 16)) 26 3 (some 5))) 58 (0 : Int32)) rfl rfl ?_
          exact az_E.forget (L := [.ref 3, .int (0 : Int32), .retAddr 0, .int v3, .int v4]) ⟨rfl, rfl, trivial, rfl, rfl, trivial⟩ (re_X_whose_51_16_21_61 (I := I_7) (J := J) (R := R) hR_3_2 hR_3_3 h hQ)
        · rw [ehc_9] at h ⊢; (try rw [ehc_9] at hQ)
          refine az_E.ov (pc' := 51) (L' := [.ref 3, .int (1 : Int32), .retAddr 0, .int v3, .int v4]) (S' := [.ref 3]) (σ' := (97, I_7, J, (az_u (az_u R 26 2 (some 16)) 26 3 (some 5)))) (x := .ref 63) (o := az_aa az_F (97, I_7, J, (az_u (az_u R 26 2 (some 16)) 26 3 (some 5))) 58 (1 : Int32)) rfl rfl ?_
          exact az_E.forget (L := [.ref 3, .int (1 : Int32), .retAddr 0, .int v3, .int v4]) ⟨rfl, rfl, trivial, rfl, rfl, trivial⟩ (re_X_whose_51_16_21_63 (I := I_7) (J := J) (R := R) hR_3_2 hR_3_3 h hQ)
        · rw [ehc_9] at h ⊢; (try rw [ehc_9] at hQ)
          refine az_E.ov (pc' := 51) (L' := [.ref 3, .int (2 : Int32), .retAddr 0, .int v3, .int v4]) (S' := [.ref 3]) (σ' := (97, I_7, J, (az_u (az_u R 26 2 (some 16)) 26 3 (some 5)))) (x := .ref 65) (o := az_aa az_F (97, I_7, J, (az_u (az_u R 26 2 (some 16)) 26 3 (some 5))) 58 (2 : Int32)) rfl rfl ?_
          exact az_E.forget (L := [.ref 3, .int (2 : Int32), .retAddr 0, .int v3, .int v4]) ⟨rfl, rfl, trivial, rfl, rfl, trivial⟩ (re_X_whose_51_16_21_65 (I := I_7) (J := J) (R := R) hR_3_2 hR_3_3 h hQ)
        · rw [ehc_9] at h ⊢; (try rw [ehc_9] at hQ)
          refine az_E.ov (pc' := 51) (L' := [.ref 3, .int (3 : Int32), .retAddr 0, .int v3, .int v4]) (S' := [.ref 3]) (σ' := (97, I_7, J, (az_u (az_u R 26 2 (some 16)) 26 3 (some 5)))) (x := .ref 67) (o := az_aa az_F (97, I_7, J, (az_u (az_u R 26 2 (some 16)) 26 3 (some 5))) 58 (3 : Int32)) rfl rfl ?_
          exact az_E.forget (L := [.ref 3, .int (3 : Int32), .retAddr 0, .int v3, .int v4]) ⟨rfl, rfl, trivial, rfl, rfl, trivial⟩ (re_X_whose_51_16_21_67 (I := I_7) (J := J) (R := R) hR_3_2 hR_3_3 h hQ)
        · rw [ehc_9] at h ⊢; (try rw [ehc_9] at hQ)
          refine az_E.ov (pc' := 51) (L' := [.ref 3, .int (4 : Int32), .retAddr 0, .int v3, .int v4]) (S' := [.ref 3]) (σ' := (97, I_7, J, (az_u (az_u R 26 2 (some 16)) 26 3 (some 5)))) (x := .ref 69) (o := az_aa az_F (97, I_7, J, (az_u (az_u R 26 2 (some 16)) 26 3 (some 5))) 58 (4 : Int32)) rfl rfl ?_
          exact az_E.forget (L := [.ref 3, .int (4 : Int32), .retAddr 0, .int v3, .int v4]) ⟨rfl, rfl, trivial, rfl, rfl, trivial⟩ (re_X_whose_51_16_21_69 (I := I_7) (J := J) (R := R) hR_3_2 hR_3_3 h hQ)
        · rw [ehc_9] at h ⊢; (try rw [ehc_9] at hQ)
          refine az_E.ov (pc' := 51) (L' := [.ref 3, .int (5 : Int32), .retAddr 0, .int v3, .int v4]) (S' := [.ref 3]) (σ' := (97, I_7, J, (az_u (az_u R 26 2 (some 16)) 26 3 (some 5)))) (x := .ref 71) (o := az_aa az_F (97, I_7, J, (az_u (az_u R 26 2 (some 16)) 26 3 (some 5))) 58 (5 : Int32)) rfl rfl ?_
          exact az_E.forget (L := [.ref 3, .int (5 : Int32), .retAddr 0, .int v3, .int v4]) ⟨rfl, rfl, trivial, rfl, rfl, trivial⟩ (re_X_whose_51_16_21_71 (I := I_7) (J := J) (R := R) hR_3_2 hR_3_3 h hQ)
set_option maxRecDepth 100000 in
set_option maxHeartbeats 4000000 in
theorem re_X_whose_26_16_21 {ex : az_X} {I : Nat → Nat → Int32} {J : Nat → Nat → Int64} {R : Nat → Nat → Option Nat} {v1 : Int32} {v3 : Int32} {v4 : Int32} (hR_3_2 : R 3 2 = some 16) (hR_3_3 : R 3 3 = some 21) {x : Int32 × (Nat → Nat → Int32)} (h : rs_X_whose_26 21 16 I J v1 v3 v4 = some x) {Q : Option Value → az_S → Prop} (hQ : ∀ R' : Nat → Nat → Option Nat, R' 3 2 = some 16 → R' 3 3 = some 21 → Q (some (.int x.1)) (97, x.2, J, R')) : az_E az_F ex 6 108 26 [.ref 3, .int v1, .retAddr 0, .int v3, .int v4] [] (97, I, J, R) Q := by
  unfold rs_X_whose_26 at h
  refine az_lp_E (G := fun s => ∀ R : Nat → Nat → Option Nat, R 3 2 = some 16 → R 3 3 = some 21 → az_E az_F ex 6 108 26 [.ref 3, .int v1, .retAddr 0, .int s.1, .int s.2.1] [] (97, s.2.2, J, R) Q) (H := fun x => ∀ R' : Nat → Nat → Option Nat, R' 3 2 = some 16 → R' 3 3 = some 21 → Q (some (.int x.1)) (97, x.2, J, R')) (fun s o hb ho => fun R hR_3_2 hR_3_3 => ?_) _ _ _ h hQ R hR_3_2 hR_3_3
  exact re_X_whose_26_b_16_21 hR_3_2 hR_3_3 hb ho
set_option maxRecDepth 100000 in
set_option maxHeartbeats 4000000 in
theorem re_X_whose_16_21 {ex : az_X} {I : Nat → Nat → Int32} {J : Nat → Nat → Int64} {R : Nat → Nat → Option Nat} {a1 : Int32} (hR_3_2 : R 3 2 = some 16) (hR_3_3 : R 3 3 = some 21) {o : Int32 × (Nat → Nat → Int32)} (h : rs_X_whose 21 16 I J a1 = some o) {Q : Option Value → az_S → Prop} (hQ : ∀ R' : Nat → Nat → Option Nat, R' 3 2 = some 16 → R' 3 3 = some 21 → Q (some (.int o.1)) (97, o.2, J, R')) : az_E az_F ex 6 108 0 [.ref 3, .int a1, .retAddr 0, .retAddr 0, .retAddr 0] [] (97, I, J, R) Q := by
  unfold rs_X_whose at h
  refine az_E.sn 1 (pc' := 1) (L' := [.ref 3, .int a1, .retAddr 0, .retAddr 0, .retAddr 0]) (S' := [.int a1]) (σ' := (97, I, J, R)) rfl ?_
  refine az_E.call (d := 5) (k' := 137) (vs := [.int a1]) (pc' := 4) (S' := []) rfl ?_ (fun _ _ hq => hq)
  show az_E az_F ex 5 137 0 [.int a1] [] (97, I, J, R) _
  refine az_E.sn 3 (pc' := 3) (L' := [.int a1]) (S' := [.int (5 : Int32), .int (0 : Int32), .int a1]) (σ' := (97, I, J, R)) rfl ?_
  refine az_E.call (d := 4) (k' := 131) (vs := [.int a1, .int (0 : Int32), .int (5 : Int32)]) (pc' := 6) (S' := []) rfl ?_ (fun _ _ hq => hq)
  show az_E az_F ex 4 131 0 [.int a1, .int (0 : Int32), .int (5 : Int32)] [] (97, I, J, R) _
  refine az_E.sn 2 (pc' := 2) (L' := [.int a1, .int (0 : Int32), .int (5 : Int32)]) (S' := [.int (0 : Int32), .int a1]) (σ' := (97, I, J, R)) rfl ?_
  refine az_E.br (c := a1 < (0 : Int32)) (tt := 14) (ff := 5) (L' := [.int a1, .int (0 : Int32), .int (5 : Int32)]) (S' := []) (σ' := (97, I, J, R)) rfl (fun hc_1 => ?_) (fun hc_1 => ?_)
  · rw [if_pos hc_1] at h
    refine az_E.sn 1 (pc' := 15) (L' := [.int a1, .int (0 : Int32), .int (5 : Int32)]) (S' := [.int (0 : Int32)]) (σ' := (97, I, J, R)) rfl ?_
    refine az_E.ret (v := some (.int (0 : Int32))) (σ' := (97, I, J, R)) rfl ?_
    show az_E az_F ex 5 137 6 [.int a1] [.int (0 : Int32)] (97, I, J, R) _
    refine az_E.ret (v := some (.int (0 : Int32))) (σ' := (97, I, J, R)) rfl ?_
    show az_E az_F ex 6 108 4 [.ref 3, .int a1, .retAddr 0, .retAddr 0, .retAddr 0] [.int (0 : Int32)] (97, I, J, R) _
    refine az_E.br (c := (0 : Int32) = 0) (tt := 7) (ff := 9) (L' := [.ref 3, .int a1, .retAddr 0, .retAddr 0, .retAddr 0]) (S' := []) (σ' := (97, I, J, R)) rfl (fun _ => ?_) (fun hn => absurd (by decide) hn)
    refine az_E.sn 1 (pc' := 8) (L' := [.ref 3, .int a1, .retAddr 0, .retAddr 0, .retAddr 0]) (S' := [.int (-1 : Int32)]) (σ' := (97, I, J, R)) rfl ?_
    have h := Option.some.inj h
    subst h
    exact az_E.ret (v := some (.int (-1 : Int32))) (σ' := (97, I, J, R)) rfl (hQ _ hR_3_2 hR_3_3)
  · rw [if_neg hc_1] at h
    refine az_E.sn 2 (pc' := 7) (L' := [.int a1, .int (0 : Int32), .int (5 : Int32)]) (S' := [.int (5 : Int32), .int a1]) (σ' := (97, I, J, R)) rfl ?_
    refine az_E.br (c := (5 : Int32) < a1) (tt := 14) (ff := 10) (L' := [.int a1, .int (0 : Int32), .int (5 : Int32)]) (S' := []) (σ' := (97, I, J, R)) rfl (fun hc_2 => ?_) (fun hc_2 => ?_)
    · rw [if_pos hc_2] at h
      refine az_E.sn 1 (pc' := 15) (L' := [.int a1, .int (0 : Int32), .int (5 : Int32)]) (S' := [.int (0 : Int32)]) (σ' := (97, I, J, R)) rfl ?_
      refine az_E.ret (v := some (.int (0 : Int32))) (σ' := (97, I, J, R)) rfl ?_
      show az_E az_F ex 5 137 6 [.int a1] [.int (0 : Int32)] (97, I, J, R) _
      refine az_E.ret (v := some (.int (0 : Int32))) (σ' := (97, I, J, R)) rfl ?_
      show az_E az_F ex 6 108 4 [.ref 3, .int a1, .retAddr 0, .retAddr 0, .retAddr 0] [.int (0 : Int32)] (97, I, J, R) _
      refine az_E.br (c := (0 : Int32) = 0) (tt := 7) (ff := 9) (L' := [.ref 3, .int a1, .retAddr 0, .retAddr 0, .retAddr 0]) (S' := []) (σ' := (97, I, J, R)) rfl (fun _ => ?_) (fun hn => absurd (by decide) hn)
      refine az_E.sn 1 (pc' := 8) (L' := [.ref 3, .int a1, .retAddr 0, .retAddr 0, .retAddr 0]) (S' := [.int (-1 : Int32)]) (σ' := (97, I, J, R)) rfl ?_
      have h := Option.some.inj h
      subst h
      exact az_E.ret (v := some (.int (-1 : Int32))) (σ' := (97, I, J, R)) rfl (hQ _ hR_3_2 hR_3_3)
    · rw [if_neg hc_2] at h
      refine az_E.sn 2 (pc' := 15) (L' := [.int a1, .int (0 : Int32), .int (5 : Int32)]) (S' := [.int (1 : Int32)]) (σ' := (97, I, J, R)) rfl ?_
      refine az_E.ret (v := some (.int (1 : Int32))) (σ' := (97, I, J, R)) rfl ?_
      show az_E az_F ex 5 137 6 [.int a1] [.int (1 : Int32)] (97, I, J, R) _
      refine az_E.ret (v := some (.int (1 : Int32))) (σ' := (97, I, J, R)) rfl ?_
      show az_E az_F ex 6 108 4 [.ref 3, .int a1, .retAddr 0, .retAddr 0, .retAddr 0] [.int (1 : Int32)] (97, I, J, R) _
      refine az_E.br (c := (1 : Int32) = 0) (tt := 7) (ff := 9) (L' := [.ref 3, .int a1, .retAddr 0, .retAddr 0, .retAddr 0]) (S' := []) (σ' := (97, I, J, R)) rfl (fun hn => absurd hn (by decide)) (fun _ => ?_)
      refine az_E.sn 2 (pc' := 11) (L' := [.ref 3, .int a1, .retAddr 0, .retAddr 0, .retAddr 0]) (S' := [.int a1, .ref 3]) (σ' := (97, I, J, R)) rfl ?_
      cases hx_4 : rs_X_refusalOfBook I a1 with
      | none => rw [hx_4] at h; cases h
      | some x_3 =>
        rw [hx_4] at h
        dsimp only at h
        refine az_E.call (d := 5) (k' := 150) (vs := [.ref 3, .int a1]) (pc' := 14) (S' := []) (Q1 := fun v s => v = some (.int x_3) ∧ s = (97, I, J, R)) rfl (az_E.deep (by omega) (re_X_refusalOfBook (J := J) (R := R)  hx_4 ⟨rfl, rfl⟩)) (fun v s hq => ?_)
        obtain ⟨rfl, rfl⟩ := hq
        show az_E az_F ex 6 108 14 [.ref 3, .int a1, .retAddr 0, .retAddr 0, .retAddr 0] [.int x_3] (97, I, J, R) _
        refine az_E.sn 2 (pc' := 16) (L' := [.ref 3, .int a1, .int x_3, .retAddr 0, .retAddr 0]) (S' := [.int x_3]) (σ' := (97, I, J, R)) rfl ?_
        refine az_E.br (c := x_3 = 0) (tt := 21) (ff := 19) (L' := [.ref 3, .int a1, .int x_3, .retAddr 0, .retAddr 0]) (S' := []) (σ' := (97, I, J, R)) rfl (fun hc_5 => ?_) (fun hc_5 => ?_)
        · rw [if_pos hc_5] at h
          refine az_E.sn 4 (pc' := 26) (L' := [.ref 3, .int a1, .int x_3, .int (0 : Int32), .int (0 : Int32)]) (S' := []) (σ' := (97, I, J, R)) rfl ?_
          exact az_E.forget (L := [.ref 3, .int a1, .retAddr 0, .int (0 : Int32), .int (0 : Int32)]) ⟨rfl, rfl, trivial, rfl, rfl, trivial⟩ (re_X_whose_26_16_21 (I := I) (J := J) (R := R) hR_3_2 hR_3_3 h hQ)
        · rw [if_neg hc_5] at h
          refine az_E.sn 1 (pc' := 20) (L' := [.ref 3, .int a1, .int x_3, .retAddr 0, .retAddr 0]) (S' := [.int x_3]) (σ' := (97, I, J, R)) rfl ?_
          have h := Option.some.inj h
          subst h
          exact az_E.ret (v := some (.int x_3)) (σ' := (97, I, J, R)) rfl (hQ _ hR_3_2 hR_3_3)
set_option maxRecDepth 100000 in
set_option maxHeartbeats 4000000 in
theorem re_M_whose_18_b {ex : az_X} {I : Nat → Nat → Int32} {J : Nat → Nat → Int64} {R : Nat → Nat → Option Nat} {v1 : Int32} {v2 : Int32} {v3 : Int32} {x : ((Int32 × Int32 × (Nat → Nat → Int32)) ⊕ (Int32 × (Nat → Nat → Int32)))} (h : rs_M_whose_18_b J v1 v2 v3 I = some x) {Q : Option Value → az_S → Prop} (hQ : Sum.elim (fun s => az_E az_F ex 125 223 18 [.ref 73, .int v1, .int s.1, .int s.2.1] [] (97, s.2.2, J, R) Q) (fun x => Q (some (.int x.1)) (97, x.2, J, R)) x) : az_E az_F ex 125 223 18 [.ref 73, .int v1, .int v2, .int v3] [] (97, I, J, R) Q := by
  unfold rs_M_whose_18_b at h
  refine az_E.sn 3 (pc' := 23) (L' := [.ref 73, .int v1, .int v2, .int v3]) (S' := [.int (I 73 7), .int v3]) (σ' := (97, I, J, R)) rfl ?_
  refine az_E.br (c := (I 73 7) ≤ v3) (tt := 57) (ff := 26) (L' := [.ref 73, .int v1, .int v2, .int v3]) (S' := []) (σ' := (97, I, J, R)) rfl (fun hc_4 => ?_) (fun hc_4 => ?_)
  · rw [if_pos hc_4] at h
    refine az_E.sn 1 (pc' := 58) (L' := [.ref 73, .int v1, .int v2, .int v3]) (S' := [.int v2]) (σ' := (97, I, J, R)) rfl ?_
    have h := Option.some.inj h
    subst h
    exact az_E.ret (v := some (.int v2)) (σ' := (97, I, J, R)) rfl hQ
  · rw [if_neg hc_4] at h
    refine az_E.sn 2 (pc' := 28) (L' := [.ref 73, .int v1, .int v2, .int v3]) (S' := [.int v3, .ref 73]) (σ' := (97, I, J, R)) rfl ?_
    cases hx_6 : rs_M_asksFor I v3 with
    | none => rw [hx_6] at h; cases h
    | some I_5 =>
      rw [hx_6] at h
      dsimp only at h
      refine az_E.call (d := 124) (k' := 190) (vs := [.ref 73, .int v3]) (pc' := 31) (S' := []) (Q1 := fun v s => v = none ∧ s = (97, I_5, J, R)) rfl (az_E.deep (by omega) (re_M_asksFor (J := J) (R := R)  hx_6 ⟨rfl, rfl⟩)) (fun v s hq => ?_)
      obtain ⟨rfl, rfl⟩ := hq
      show az_E az_F ex 125 223 31 [.ref 73, .int v1, .int v2, .int v3] [] (97, I_5, J, R) _
      refine az_E.sn 3 (pc' := 34) (L' := [.ref 73, .int v1, .int v2, .int v3]) (S' := [.int v1, .ref 73, .int v2]) (σ' := (97, I_5, J, R)) rfl ?_
      cases hx_9 : rs_M_firstFalse I_5 J v1 with
      | none => rw [hx_9] at h; cases h
      | some o =>
        rw [hx_9] at h
        obtain ⟨x_7, I_8⟩ := o
        dsimp only at h
        refine az_E.call (d := 124) (k' := 220) (vs := [.ref 73, .int v1]) (pc' := 37) (S' := [.int v2]) (Q1 := fun v s => v = some (.int x_7) ∧ s = (97, I_8, J, R)) rfl (az_E.deep (by omega) (re_M_firstFalse (J := J) (R := R)  hx_9 ⟨rfl, rfl⟩)) (fun v s hq => ?_)
        obtain ⟨rfl, rfl⟩ := hq
        show az_E az_F ex 125 223 37 [.ref 73, .int v1, .int v2, .int v3] [.int x_7, .int v2] (97, I_8, J, R) _
        refine az_E.sn 1 (pc' := 39) (L' := [.ref 73, .int v1, .int v2, .int v3]) (S' := [.int (-2 : Int32), .int x_7, .int v2]) (σ' := (97, I_8, J, R)) rfl ?_
        refine az_E.br (c := x_7 = (-2 : Int32)) (tt := 42) (ff := 48) (L' := [.ref 73, .int v1, .int v2, .int v3]) (S' := [.int v2]) (σ' := (97, I_8, J, R)) rfl (fun hc_10 => ?_) (fun hc_10 => ?_)
        · rw [if_pos hc_10] at h
          refine az_E.sn 8 (pc' := 18) (L' := [.ref 73, .int v1, .int (v2 ||| ((1 : Int32) <<< (v3 &&& 31))), .int (v3 + (1 : Int32))]) (S' := []) (σ' := (97, I_8, J, R)) rfl ?_
          have h := Option.some.inj h
          subst h
          exact az_E.forget (L := [.ref 73, .int v1, .int (v2 ||| ((1 : Int32) <<< (v3 &&& 31))), .int (v3 + (1 : Int32))]) ⟨rfl, rfl, rfl, rfl, trivial⟩ hQ
        · rw [if_neg hc_10] at h
          refine az_E.sn 5 (pc' := 18) (L' := [.ref 73, .int v1, .int (v2 ||| (0 : Int32)), .int (v3 + (1 : Int32))]) (S' := []) (σ' := (97, I_8, J, R)) rfl ?_
          have h := Option.some.inj h
          subst h
          exact az_E.forget (L := [.ref 73, .int v1, .int (v2 ||| (0 : Int32)), .int (v3 + (1 : Int32))]) ⟨rfl, rfl, rfl, rfl, trivial⟩ hQ
set_option maxRecDepth 100000 in
set_option maxHeartbeats 4000000 in
theorem re_M_whose_18 {ex : az_X} {I : Nat → Nat → Int32} {J : Nat → Nat → Int64} {R : Nat → Nat → Option Nat} {v1 : Int32} {v2 : Int32} {v3 : Int32} {x : Int32 × (Nat → Nat → Int32)} (h : rs_M_whose_18 I J v1 v2 v3 = some x) {Q : Option Value → az_S → Prop} (hQ : Q (some (.int x.1)) (97, x.2, J, R)) : az_E az_F ex 125 223 18 [.ref 73, .int v1, .int v2, .int v3] [] (97, I, J, R) Q := by
  unfold rs_M_whose_18 at h
  refine az_lp_E (G := fun s => az_E az_F ex 125 223 18 [.ref 73, .int v1, .int s.1, .int s.2.1] [] (97, s.2.2, J, R) Q) (H := fun x => Q (some (.int x.1)) (97, x.2, J, R)) (fun s o hb ho => ?_) _ _ _ h hQ
  exact re_M_whose_18_b  hb ho
set_option maxRecDepth 100000 in
set_option maxHeartbeats 4000000 in
theorem re_M_whose {ex : az_X} {I : Nat → Nat → Int32} {J : Nat → Nat → Int64} {R : Nat → Nat → Option Nat} {a1 : Int32} {o : Int32 × (Nat → Nat → Int32)} (h : rs_M_whose I J a1 = some o) {Q : Option Value → az_S → Prop} (hQ : Q (some (.int o.1)) (97, o.2, J, R)) : az_E az_F ex 125 223 0 [.ref 73, .int a1, .retAddr 0, .retAddr 0] [] (97, I, J, R) Q := by
  unfold rs_M_whose at h
  refine az_E.sn 2 (pc' := 2) (L' := [.ref 73, .int a1, .retAddr 0, .retAddr 0]) (S' := [.int a1, .ref 73]) (σ' := (97, I, J, R)) rfl ?_
  cases hx_2 : rs_M_shortsIs I a1 with
  | none => rw [hx_2] at h; cases h
  | some x_1 =>
    rw [hx_2] at h
    dsimp only at h
    refine az_E.call (d := 124) (k' := 219) (vs := [.ref 73, .int a1]) (pc' := 5) (S' := []) (Q1 := fun v s => v = some (.int x_1) ∧ s = (97, I, J, R)) rfl (az_E.deep (by omega) (re_M_shortsIs (J := J) (R := R)  hx_2 ⟨rfl, rfl⟩)) (fun v s hq => ?_)
    obtain ⟨rfl, rfl⟩ := hq
    show az_E az_F ex 125 223 5 [.ref 73, .int a1, .retAddr 0, .retAddr 0] [.int x_1] (97, I, J, R) _
    refine az_E.br (c := 0 ≤ x_1) (tt := 14) (ff := 8) (L' := [.ref 73, .int a1, .retAddr 0, .retAddr 0]) (S' := []) (σ' := (97, I, J, R)) rfl (fun hc_3 => ?_) (fun hc_3 => ?_)
    · rw [if_pos hc_3] at h
      refine az_E.sn 4 (pc' := 18) (L' := [.ref 73, .int a1, .int (0 : Int32), .int (0 : Int32)]) (S' := []) (σ' := (97, I, J, R)) rfl ?_
      exact az_E.forget (L := [.ref 73, .int a1, .int (0 : Int32), .int (0 : Int32)]) ⟨rfl, rfl, rfl, rfl, trivial⟩ (re_M_whose_18 (I := I) (J := J) (R := R)  h hQ)
    · rw [if_neg hc_3] at h
      refine az_E.sn 2 (pc' := 10) (L' := [.ref 73, .int a1, .retAddr 0, .retAddr 0]) (S' := [.int a1, .ref 73]) (σ' := (97, I, J, R)) rfl ?_
      refine az_E.call (d := 124) (k' := 219) (vs := [.ref 73, .int a1]) (pc' := 13) (S' := []) (Q1 := fun v s => v = some (.int x_1) ∧ s = (97, I, J, R)) rfl (az_E.deep (by omega) (re_M_shortsIs (J := J) (R := R)  hx_2 ⟨rfl, rfl⟩)) (fun v s hq => ?_)
      obtain ⟨rfl, rfl⟩ := hq
      show az_E az_F ex 125 223 13 [.ref 73, .int a1, .retAddr 0, .retAddr 0] [.int x_1] (97, I, J, R) _
      have h := Option.some.inj h
      subst h
      exact az_E.ret (v := some (.int x_1)) (σ' := (97, I, J, R)) rfl hQ
set_option maxRecDepth 100000 in
set_option maxHeartbeats 4000000 in
theorem re_X_stumps_4_b {ex : az_X} {I : Nat → Nat → Int32} {J : Nat → Nat → Int64} {R : Nat → Nat → Option Nat} {v1 : Int32} {v2 : Int32} {x : ((Int32 × Int32) ⊕ (Int32))} (h : rs_X_stumps_4_b I v1 v2 = some x) {Q : Option Value → az_S → Prop} (hQ : Sum.elim (fun s => az_E az_F ex 0 109 4 [.ref 3, .int s.1, .int s.2] [] (97, I, J, R) Q) (fun x => Q (some (.int x)) (97, I, J, R)) x) : az_E az_F ex 0 109 4 [.ref 3, .int v1, .int v2] [] (97, I, J, R) Q := by
  unfold rs_X_stumps_4_b at h
  refine az_E.sn 4 (pc' := 12) (L' := [.ref 3, .int v1, .int v2]) (S' := [.int (I 4 3), .int v2]) (σ' := (97, I, J, R)) rfl ?_
  refine az_E.br (c := (I 4 3) ≤ v2) (tt := 48) (ff := 15) (L' := [.ref 3, .int v1, .int v2]) (S' := []) (σ' := (97, I, J, R)) rfl (fun hc_1 => ?_) (fun hc_1 => ?_)
  · rw [if_pos hc_1] at h
    refine az_E.sn 1 (pc' := 49) (L' := [.ref 3, .int v1, .int v2]) (S' := [.int v1]) (σ' := (97, I, J, R)) rfl ?_
    have h := Option.some.inj h
    subst h
    exact az_E.ret (v := some (.int v1)) (σ' := (97, I, J, R)) rfl hQ
  · rw [if_neg hc_1] at h
    refine az_E.sn 4 (pc' := 23) (L' := [.ref 3, .int v1, .int v2]) (S' := [.int v2, .ref 6]) (σ' := (97, I, J, R)) rfl ?_
    by_cases hc_2 : v2 < 0 ∨ 8 ≤ v2.toNatClampNeg
    · rw [if_pos hc_2] at h; cases h
    · rw [if_neg hc_2] at h
      refine az_E.oi (o := az_ai az_F ex (97, I, J, R) 6 v2) (pc' := 24) (L' := [.ref 3, .int v1, .int v2]) (S' := []) (σ' := (97, I, J, R)) (x := (I 6 v2.toNatClampNeg)) rfl (if_neg hc_2) ?_
      refine az_E.sn 4 (pc' := 32) (L' := [.ref 3, .int v1, .int v2]) (S' := [.int v2, .ref 7, .int (I 6 v2.toNatClampNeg)]) (σ' := (97, I, J, R)) rfl ?_
      by_cases hc_3 : v2 < 0 ∨ 8 ≤ v2.toNatClampNeg
      · rw [if_pos hc_3] at h; cases h
      · rw [if_neg hc_3] at h
        refine az_E.oi (o := az_ai az_F ex (97, I, J, R) 7 v2) (pc' := 33) (L' := [.ref 3, .int v1, .int v2]) (S' := [.int (I 6 v2.toNatClampNeg)]) (σ' := (97, I, J, R)) (x := (I 7 v2.toNatClampNeg)) rfl (if_neg hc_3) ?_
        refine az_E.br (c := (I 6 v2.toNatClampNeg) = (I 7 v2.toNatClampNeg)) (tt := 36) (ff := 42) (L' := [.ref 3, .int v1, .int v2]) (S' := []) (σ' := (97, I, J, R)) rfl (fun hc_4 => ?_) (fun hc_4 => ?_)
        · rw [if_pos hc_4] at h
          refine az_E.sn 8 (pc' := 4) (L' := [.ref 3, .int (v1 ||| ((1 : Int32) <<< (v2 &&& 31))), .int (v2 + (1 : Int32))]) (S' := []) (σ' := (97, I, J, R)) rfl ?_
          have h := Option.some.inj h
          subst h
          exact az_E.forget (L := [.ref 3, .int (v1 ||| ((1 : Int32) <<< (v2 &&& 31))), .int (v2 + (1 : Int32))]) ⟨rfl, rfl, rfl, trivial⟩ hQ
        · rw [if_neg hc_4] at h
          refine az_E.sn 2 (pc' := 4) (L' := [.ref 3, .int v1, .int (v2 + (1 : Int32))]) (S' := []) (σ' := (97, I, J, R)) rfl ?_
          have h := Option.some.inj h
          subst h
          exact az_E.forget (L := [.ref 3, .int v1, .int (v2 + (1 : Int32))]) ⟨rfl, rfl, rfl, trivial⟩ hQ
set_option maxRecDepth 100000 in
set_option maxHeartbeats 4000000 in
theorem re_X_stumps_4 {ex : az_X} {I : Nat → Nat → Int32} {J : Nat → Nat → Int64} {R : Nat → Nat → Option Nat} {v1 : Int32} {v2 : Int32} {x : Int32} (h : rs_X_stumps_4 I v1 v2 = some x) {Q : Option Value → az_S → Prop} (hQ : Q (some (.int x)) (97, I, J, R)) : az_E az_F ex 0 109 4 [.ref 3, .int v1, .int v2] [] (97, I, J, R) Q := by
  unfold rs_X_stumps_4 at h
  refine az_lp_E (G := fun s => az_E az_F ex 0 109 4 [.ref 3, .int s.1, .int s.2] [] (97, I, J, R) Q) (H := fun x => Q (some (.int x)) (97, I, J, R)) (fun s o hb ho => ?_) _ _ _ h hQ
  exact re_X_stumps_4_b  hb ho
set_option maxRecDepth 100000 in
set_option maxHeartbeats 4000000 in
theorem re_X_stumps {ex : az_X} {I : Nat → Nat → Int32} {J : Nat → Nat → Int64} {R : Nat → Nat → Option Nat} {o : Int32} (h : rs_X_stumps I = some o) {Q : Option Value → az_S → Prop} (hQ : Q (some (.int o)) (97, I, J, R)) : az_E az_F ex 0 109 0 [.ref 3, .retAddr 0, .retAddr 0] [] (97, I, J, R) Q := by
  unfold rs_X_stumps at h
  refine az_E.sn 4 (pc' := 4) (L' := [.ref 3, .int (0 : Int32), .int (0 : Int32)]) (S' := []) (σ' := (97, I, J, R)) rfl ?_
  exact az_E.forget (L := [.ref 3, .int (0 : Int32), .int (0 : Int32)]) ⟨rfl, rfl, rfl, trivial⟩ (re_X_stumps_4 (I := I) (J := J) (R := R)  h hQ)
set_option maxRecDepth 100000 in
set_option maxHeartbeats 4000000 in
theorem re_M_stumps_4_b {ex : az_X} {I : Nat → Nat → Int32} {J : Nat → Nat → Int64} {R : Nat → Nat → Option Nat} {v1 : Int32} {v2 : Int32} {x : ((Int32 × Int32) ⊕ (Int32))} (h : rs_M_stumps_4_b I v1 v2 = some x) {Q : Option Value → az_S → Prop} (hQ : Sum.elim (fun s => az_E az_F ex 0 224 4 [.ref 73, .int s.1, .int s.2] [] (97, I, J, R) Q) (fun x => Q (some (.int x)) (97, I, J, R)) x) : az_E az_F ex 0 224 4 [.ref 73, .int v1, .int v2] [] (97, I, J, R) Q := by
  unfold rs_M_stumps_4_b at h
  refine az_E.sn 3 (pc' := 9) (L' := [.ref 73, .int v1, .int v2]) (S' := [.int (I 73 6), .int v2]) (σ' := (97, I, J, R)) rfl ?_
  refine az_E.br (c := (I 73 6) ≤ v2) (tt := 51) (ff := 12) (L' := [.ref 73, .int v1, .int v2]) (S' := []) (σ' := (97, I, J, R)) rfl (fun hc_1 => ?_) (fun hc_1 => ?_)
  · rw [if_pos hc_1] at h
    refine az_E.sn 1 (pc' := 52) (L' := [.ref 73, .int v1, .int v2]) (S' := [.int v1]) (σ' := (97, I, J, R)) rfl ?_
    have h := Option.some.inj h
    subst h
    exact az_E.ret (v := some (.int v1)) (σ' := (97, I, J, R)) rfl hQ
  · rw [if_neg hc_1] at h
    refine az_E.sn 6 (pc' := 22) (L' := [.ref 73, .int v1, .int v2]) (S' := [.int ((144 : Int32) + v2), .ref 74, .int v1]) (σ' := (97, I, J, R)) rfl ?_
    by_cases hc_2 : ((144 : Int32) + v2) < 0 ∨ 179 ≤ ((144 : Int32) + v2).toNatClampNeg
    · rw [if_pos hc_2] at h; cases h
    · rw [if_neg hc_2] at h
      refine az_E.oi (o := az_ai az_F ex (97, I, J, R) 74 ((144 : Int32) + v2)) (pc' := 23) (L' := [.ref 73, .int v1, .int v2]) (S' := [.int v1]) (σ' := (97, I, J, R)) (x := (I 74 ((144 : Int32) + v2).toNatClampNeg)) rfl (if_neg hc_2) ?_
      refine az_E.sn 5 (pc' := 32) (L' := [.ref 73, .int v1, .int v2]) (S' := [.int ((152 : Int32) + v2), .ref 74, .int (I 74 ((144 : Int32) + v2).toNatClampNeg), .int v1]) (σ' := (97, I, J, R)) rfl ?_
      by_cases hc_3 : ((152 : Int32) + v2) < 0 ∨ 179 ≤ ((152 : Int32) + v2).toNatClampNeg
      · rw [if_pos hc_3] at h; cases h
      · rw [if_neg hc_3] at h
        refine az_E.oi (o := az_ai az_F ex (97, I, J, R) 74 ((152 : Int32) + v2)) (pc' := 33) (L' := [.ref 73, .int v1, .int v2]) (S' := [.int (I 74 ((144 : Int32) + v2).toNatClampNeg), .int v1]) (σ' := (97, I, J, R)) (x := (I 74 ((152 : Int32) + v2).toNatClampNeg)) rfl (if_neg hc_3) ?_
        refine az_E.br (c := (I 74 ((144 : Int32) + v2).toNatClampNeg) = (I 74 ((152 : Int32) + v2).toNatClampNeg)) (tt := 36) (ff := 42) (L' := [.ref 73, .int v1, .int v2]) (S' := [.int v1]) (σ' := (97, I, J, R)) rfl (fun hc_4 => ?_) (fun hc_4 => ?_)
        · rw [if_pos hc_4] at h
          refine az_E.sn 8 (pc' := 4) (L' := [.ref 73, .int (v1 ||| ((1 : Int32) <<< (v2 &&& 31))), .int (v2 + (1 : Int32))]) (S' := []) (σ' := (97, I, J, R)) rfl ?_
          have h := Option.some.inj h
          subst h
          exact az_E.forget (L := [.ref 73, .int (v1 ||| ((1 : Int32) <<< (v2 &&& 31))), .int (v2 + (1 : Int32))]) ⟨rfl, rfl, rfl, trivial⟩ hQ
        · rw [if_neg hc_4] at h
          refine az_E.sn 5 (pc' := 4) (L' := [.ref 73, .int (v1 ||| (0 : Int32)), .int (v2 + (1 : Int32))]) (S' := []) (σ' := (97, I, J, R)) rfl ?_
          have h := Option.some.inj h
          subst h
          exact az_E.forget (L := [.ref 73, .int (v1 ||| (0 : Int32)), .int (v2 + (1 : Int32))]) ⟨rfl, rfl, rfl, trivial⟩ hQ
set_option maxRecDepth 100000 in
set_option maxHeartbeats 4000000 in
theorem re_M_stumps_4 {ex : az_X} {I : Nat → Nat → Int32} {J : Nat → Nat → Int64} {R : Nat → Nat → Option Nat} {v1 : Int32} {v2 : Int32} {x : Int32} (h : rs_M_stumps_4 I v1 v2 = some x) {Q : Option Value → az_S → Prop} (hQ : Q (some (.int x)) (97, I, J, R)) : az_E az_F ex 0 224 4 [.ref 73, .int v1, .int v2] [] (97, I, J, R) Q := by
  unfold rs_M_stumps_4 at h
  refine az_lp_E (G := fun s => az_E az_F ex 0 224 4 [.ref 73, .int s.1, .int s.2] [] (97, I, J, R) Q) (H := fun x => Q (some (.int x)) (97, I, J, R)) (fun s o hb ho => ?_) _ _ _ h hQ
  exact re_M_stumps_4_b  hb ho
set_option maxRecDepth 100000 in
set_option maxHeartbeats 4000000 in
theorem re_M_stumps {ex : az_X} {I : Nat → Nat → Int32} {J : Nat → Nat → Int64} {R : Nat → Nat → Option Nat} {o : Int32} (h : rs_M_stumps I = some o) {Q : Option Value → az_S → Prop} (hQ : Q (some (.int o)) (97, I, J, R)) : az_E az_F ex 0 224 0 [.ref 73, .retAddr 0, .retAddr 0] [] (97, I, J, R) Q := by
  unfold rs_M_stumps at h
  refine az_E.sn 4 (pc' := 4) (L' := [.ref 73, .int (0 : Int32), .int (0 : Int32)]) (S' := []) (σ' := (97, I, J, R)) rfl ?_
  exact az_E.forget (L := [.ref 73, .int (0 : Int32), .int (0 : Int32)]) ⟨rfl, rfl, rfl, trivial⟩ (re_M_stumps_4 (I := I) (J := J) (R := R)  h hQ)
set_option maxRecDepth 100000 in
set_option maxHeartbeats 4000000 in
theorem re_X_longest_87_16_21 {ex : az_X} {I : Nat → Nat → Int32} {J : Nat → Nat → Int64} {R : Nat → Nat → Option Nat} {v2 : Int32} {v3 : Int32} {v5 : Int32} (hR_3_2 : R 3 2 = some 16) (hR_3_3 : R 3 3 = some 21) {x : Int32 × (Nat → Nat → Int32)} (h : rs_X_longest_87 21 16 I v2 v3 v5 = some x) {Q : Option Value → az_S → Prop} (hQ : ∀ R' : Nat → Nat → Option Nat, R' 3 2 = some 16 → R' 3 3 = some 21 → Q (some (.int x.1)) (97, x.2, J, R')) : az_E az_F ex 6 110 87 [.retAddr 0, .retAddr 0, .int v2, .int v3, .retAddr 0, .int v5, .retAddr 0, .retAddr 0] [] (97, I, J, (az_u (az_u R 26 2 (some 16)) 26 3 (some 5))) Q := by
  unfold rs_X_longest_87 at h
  refine az_E.sn 1 (pc' := 88) (L' := [.retAddr 0, .retAddr 0, .int v2, .int v3, .retAddr 0, .int v5, .retAddr 0, .retAddr 0]) (S' := [.int v2]) (σ' := (97, I, J, (az_u (az_u R 26 2 (some 16)) 26 3 (some 5)))) rfl ?_
  refine az_E.br (c := v2 = 0) (tt := 91) (ff := 95) (L' := [.retAddr 0, .retAddr 0, .int v2, .int v3, .retAddr 0, .int v5, .retAddr 0, .retAddr 0]) (S' := []) (σ' := (97, I, J, (az_u (az_u R 26 2 (some 16)) 26 3 (some 5)))) rfl (fun hc_7 => ?_) (fun hc_7 => ?_)
  · rw [if_pos hc_7] at h
    refine az_E.sn 2 (pc' := 97) (L' := [.retAddr 0, .retAddr 0, .int v2, .int v3, .retAddr 0, .int v5, .retAddr 0, .retAddr 0]) (S' := [.int v3]) (σ' := (97, I, J, (az_u (az_u R 26 2 (some 16)) 26 3 (some 5)))) rfl ?_
    have h := Option.some.inj h
    subst h
    exact az_E.ret (v := some (.int v3)) (σ' := (97, I, J, (az_u (az_u R 26 2 (some 16)) 26 3 (some 5)))) rfl (hQ _ hR_3_2 hR_3_3)
  · rw [if_neg hc_7] at h
    refine az_E.sn 1 (pc' := 97) (L' := [.retAddr 0, .retAddr 0, .int v2, .int v3, .retAddr 0, .int v5, .retAddr 0, .retAddr 0]) (S' := [.int v5]) (σ' := (97, I, J, (az_u (az_u R 26 2 (some 16)) 26 3 (some 5)))) rfl ?_
    have h := Option.some.inj h
    subst h
    exact az_E.ret (v := some (.int v5)) (σ' := (97, I, J, (az_u (az_u R 26 2 (some 16)) 26 3 (some 5)))) rfl (hQ _ hR_3_2 hR_3_3)
set_option maxRecDepth 100000 in
set_option maxHeartbeats 4000000 in
theorem re_X_longest_34_b_16_21 {ex : az_X} {I : Nat → Nat → Int32} {J : Nat → Nat → Int64} {R : Nat → Nat → Option Nat} {v2 : Int32} {v3 : Int32} {v4 : Int32} {v5 : Int32} {v6 : Int32} (hR_3_2 : R 3 2 = some 16) (hR_3_3 : R 3 3 = some 21) {x : ((Int32 × Int32 × Int32 × Int32 × (Nat → Nat → Int32)) ⊕ (Int32 × (Nat → Nat → Int32)))} (h : rs_X_longest_34_b 21 16 v2 v3 v4 v5 v6 I = some x) {Q : Option Value → az_S → Prop} (hQ : Sum.elim (fun s => az_E az_F ex 6 110 34 [.ref 3, .retAddr 0, .int v2, .int s.1, .int s.2.1, .int s.2.2.1, .int s.2.2.2.1, .retAddr 0] [] (97, s.2.2.2.2, J, (az_u (az_u R 26 2 (some 16)) 26 3 (some 5))) Q) (fun x => ∀ R' : Nat → Nat → Option Nat, R' 3 2 = some 16 → R' 3 3 = some 21 → Q (some (.int x.1)) (97, x.2, J, R')) x) : az_E az_F ex 6 110 34 [.ref 3, .retAddr 0, .int v2, .int v3, .int v4, .int v5, .int v6, .retAddr 0] [] (97, I, J, (az_u (az_u R 26 2 (some 16)) 26 3 (some 5))) Q := by
  unfold rs_X_longest_34_b at h
  refine az_E.sn 4 (pc' := 43) (L' := [.ref 3, .retAddr 0, .int v2, .int v3, .int v4, .int v5, .int v6, .retAddr 0]) (S' := [.int (I 4 3), .int v6]) (σ' := (97, I, J, (az_u (az_u R 26 2 (some 16)) 26 3 (some 5)))) rfl ?_
  refine az_E.br (c := (I 4 3) ≤ v6) (tt := 87) (ff := 46) (L' := [.ref 3, .retAddr 0, .int v2, .int v3, .int v4, .int v5, .int v6, .retAddr 0]) (S' := []) (σ' := (97, I, J, (az_u (az_u R 26 2 (some 16)) 26 3 (some 5)))) rfl (fun hc_6 => ?_) (fun hc_6 => ?_)
  · rw [if_pos hc_6] at h
    obtain ⟨x, hx, rfl⟩ := Option.map_eq_some_iff.mp h
    exact az_E.forget (L := [.retAddr 0, .retAddr 0, .int v2, .int v3, .retAddr 0, .int v5, .retAddr 0, .retAddr 0]) ⟨trivial, trivial, rfl, rfl, trivial, rfl, trivial, trivial, trivial⟩ (re_X_longest_87_16_21 (I := I) (J := J) (R := R) hR_3_2 hR_3_3 hx hQ)
  · rw [if_neg hc_6] at h
    refine az_E.sn 2 (pc' := 49) (L' := [.ref 3, .retAddr 0, .int v2, .int v3, .int v4, .int v5, .int v6, .retAddr 0]) (S' := [.int v6, .ref 3]) (σ' := (97, I, J, (az_u (az_u R 26 2 (some 16)) 26 3 (some 5)))) rfl ?_
    cases hx_10 : rs_X_armAt I v6 with
    | none => rw [hx_10] at h; cases h
    | some o =>
      rw [hx_10] at h
      obtain ⟨x_8, I_9⟩ := o
      dsimp only at h
      refine az_E.call (d := 5) (k' := 146) (vs := [.ref 3, .int v6]) (pc' := 52) (S' := []) (Q1 := fun v s => v = some (.int x_8) ∧ s = (97, I_9, J, (az_u (az_u R 26 2 (some 16)) 26 3 (some 5)))) rfl (az_E.deep (by omega) (re_X_armAt_5 (J := J) (R := (az_u (az_u R 26 2 (some 16)) 26 3 (some 5))) rfl hx_10 ⟨rfl, rfl⟩)) (fun v s hq => ?_)
      obtain ⟨rfl, rfl⟩ := hq
      show az_E az_F ex 6 110 52 [.ref 3, .retAddr 0, .int v2, .int v3, .int v4, .int v5, .int v6, .retAddr 0] [.int x_8] (97, I_9, J, (az_u (az_u R 26 2 (some 16)) 26 3 (some 5))) _
      refine az_E.sn 7 (pc' := 64) (L' := [.ref 3, .retAddr 0, .int v2, .int v3, .int v4, .int (v5 + x_8), .int v6, .int x_8]) (S' := [.int (-2 : Int32), .int v3]) (σ' := (97, I_9, J, (az_u (az_u R 26 2 (some 16)) 26 3 (some 5)))) rfl ?_
      refine az_E.br (c := v3 = (-2 : Int32)) (tt := 74) (ff := 67) (L' := [.ref 3, .retAddr 0, .int v2, .int v3, .int v4, .int (v5 + x_8), .int v6, .int x_8]) (S' := []) (σ' := (97, I_9, J, (az_u (az_u R 26 2 (some 16)) 26 3 (some 5)))) rfl (fun hc_11 => ?_) (fun hc_11 => ?_)
      · rw [if_pos hc_11] at h
        refine az_E.sn 6 (pc' := 34) (L' := [.ref 3, .retAddr 0, .int v2, .int v6, .int x_8, .int (v5 + x_8), .int (v6 + (1 : Int32)), .int x_8]) (S' := []) (σ' := (97, I_9, J, (az_u (az_u R 26 2 (some 16)) 26 3 (some 5)))) rfl ?_
        have h := Option.some.inj h
        subst h
        exact az_E.forget (L := [.ref 3, .retAddr 0, .int v2, .int v6, .int x_8, .int (v5 + x_8), .int (v6 + (1 : Int32)), .retAddr 0]) ⟨rfl, trivial, rfl, rfl, rfl, rfl, rfl, trivial, trivial⟩ hQ
      · rw [if_neg hc_11] at h
        refine az_E.sn 2 (pc' := 71) (L' := [.ref 3, .retAddr 0, .int v2, .int v3, .int v4, .int (v5 + x_8), .int v6, .int x_8]) (S' := [.int v4, .int x_8]) (σ' := (97, I_9, J, (az_u (az_u R 26 2 (some 16)) 26 3 (some 5)))) rfl ?_
        refine az_E.br (c := x_8 ≤ v4) (tt := 81) (ff := 74) (L' := [.ref 3, .retAddr 0, .int v2, .int v3, .int v4, .int (v5 + x_8), .int v6, .int x_8]) (S' := []) (σ' := (97, I_9, J, (az_u (az_u R 26 2 (some 16)) 26 3 (some 5)))) rfl (fun hc_12 => ?_) (fun hc_12 => ?_)
        · rw [if_pos hc_12] at h
          refine az_E.sn 2 (pc' := 34) (L' := [.ref 3, .retAddr 0, .int v2, .int v3, .int v4, .int (v5 + x_8), .int (v6 + (1 : Int32)), .int x_8]) (S' := []) (σ' := (97, I_9, J, (az_u (az_u R 26 2 (some 16)) 26 3 (some 5)))) rfl ?_
          have h := Option.some.inj h
          subst h
          exact az_E.forget (L := [.ref 3, .retAddr 0, .int v2, .int v3, .int v4, .int (v5 + x_8), .int (v6 + (1 : Int32)), .retAddr 0]) ⟨rfl, trivial, rfl, rfl, rfl, rfl, rfl, trivial, trivial⟩ hQ
        · rw [if_neg hc_12] at h
          refine az_E.sn 6 (pc' := 34) (L' := [.ref 3, .retAddr 0, .int v2, .int v6, .int x_8, .int (v5 + x_8), .int (v6 + (1 : Int32)), .int x_8]) (S' := []) (σ' := (97, I_9, J, (az_u (az_u R 26 2 (some 16)) 26 3 (some 5)))) rfl ?_
          have h := Option.some.inj h
          subst h
          exact az_E.forget (L := [.ref 3, .retAddr 0, .int v2, .int v6, .int x_8, .int (v5 + x_8), .int (v6 + (1 : Int32)), .retAddr 0]) ⟨rfl, trivial, rfl, rfl, rfl, rfl, rfl, trivial, trivial⟩ hQ
set_option maxRecDepth 100000 in
set_option maxHeartbeats 4000000 in
theorem re_X_longest_34_16_21 {ex : az_X} {I : Nat → Nat → Int32} {J : Nat → Nat → Int64} {R : Nat → Nat → Option Nat} {v2 : Int32} {v3 : Int32} {v4 : Int32} {v5 : Int32} {v6 : Int32} (hR_3_2 : R 3 2 = some 16) (hR_3_3 : R 3 3 = some 21) {x : Int32 × (Nat → Nat → Int32)} (h : rs_X_longest_34 21 16 I v2 v3 v4 v5 v6 = some x) {Q : Option Value → az_S → Prop} (hQ : ∀ R' : Nat → Nat → Option Nat, R' 3 2 = some 16 → R' 3 3 = some 21 → Q (some (.int x.1)) (97, x.2, J, R')) : az_E az_F ex 6 110 34 [.ref 3, .retAddr 0, .int v2, .int v3, .int v4, .int v5, .int v6, .retAddr 0] [] (97, I, J, (az_u (az_u R 26 2 (some 16)) 26 3 (some 5))) Q := by
  unfold rs_X_longest_34 at h
  refine az_lp_E (G := fun s => az_E az_F ex 6 110 34 [.ref 3, .retAddr 0, .int v2, .int s.1, .int s.2.1, .int s.2.2.1, .int s.2.2.2.1, .retAddr 0] [] (97, s.2.2.2.2, J, (az_u (az_u R 26 2 (some 16)) 26 3 (some 5))) Q) (H := fun x => ∀ R' : Nat → Nat → Option Nat, R' 3 2 = some 16 → R' 3 3 = some 21 → Q (some (.int x.1)) (97, x.2, J, R')) (fun s o hb ho => ?_) _ _ _ h hQ
  exact re_X_longest_34_b_16_21 hR_3_2 hR_3_3 hb ho
set_option maxRecDepth 100000 in
set_option maxHeartbeats 4000000 in
theorem re_X_longest_16_21 {ex : az_X} {I : Nat → Nat → Int32} {J : Nat → Nat → Int64} {R : Nat → Nat → Option Nat} {a1 : Int32} {a2 : Int32} (hR_3_2 : R 3 2 = some 16) (hR_3_3 : R 3 3 = some 21) {o : Int32 × (Nat → Nat → Int32)} (h : rs_X_longest 21 16 I a1 a2 = some o) {Q : Option Value → az_S → Prop} (hQ : ∀ R' : Nat → Nat → Option Nat, R' 3 2 = some 16 → R' 3 3 = some 21 → Q (some (.int o.1)) (97, o.2, J, R')) : az_E az_F ex 6 110 0 [.ref 3, .int a1, .int a2, .retAddr 0, .retAddr 0, .retAddr 0, .retAddr 0, .retAddr 0] [] (97, I, J, R) Q := by
  unfold rs_X_longest at h
  refine az_E.sn 2 (pc' := 2) (L' := [.ref 3, .int a1, .int a2, .retAddr 0, .retAddr 0, .retAddr 0, .retAddr 0, .retAddr 0]) (S' := [.int a1, .ref 3]) (σ' := (97, I, J, R)) rfl ?_
  refine az_E.call (d := 5) (k' := 138) (vs := [.ref 3, .int a1]) (pc' := 5) (S' := []) rfl ?_ (fun _ _ hq => hq)
  show az_E az_F ex 5 138 0 [.ref 3, .int a1] [] (97, I, J, R) _
  refine az_E.sn 7 (pc' := 11) (L' := [.ref 3, .int a1]) (S' := [.int ((I 4 9) - (1 : Int32)), .int (0 : Int32), .int a1]) (σ' := (97, I, J, R)) rfl ?_
  refine az_E.call (d := 4) (k' := 131) (vs := [.int a1, .int (0 : Int32), .int ((I 4 9) - (1 : Int32))]) (pc' := 14) (S' := []) rfl ?_ (fun _ _ hq => hq)
  show az_E az_F ex 4 131 0 [.int a1, .int (0 : Int32), .int ((I 4 9) - (1 : Int32))] [] (97, I, J, R) _
  refine az_E.sn 2 (pc' := 2) (L' := [.int a1, .int (0 : Int32), .int ((I 4 9) - (1 : Int32))]) (S' := [.int (0 : Int32), .int a1]) (σ' := (97, I, J, R)) rfl ?_
  refine az_E.br (c := a1 < (0 : Int32)) (tt := 14) (ff := 5) (L' := [.int a1, .int (0 : Int32), .int ((I 4 9) - (1 : Int32))]) (S' := []) (σ' := (97, I, J, R)) rfl (fun hc_1 => ?_) (fun hc_1 => ?_)
  · rw [if_pos hc_1] at h
    refine az_E.sn 1 (pc' := 15) (L' := [.int a1, .int (0 : Int32), .int ((I 4 9) - (1 : Int32))]) (S' := [.int (0 : Int32)]) (σ' := (97, I, J, R)) rfl ?_
    refine az_E.ret (v := some (.int (0 : Int32))) (σ' := (97, I, J, R)) rfl ?_
    show az_E az_F ex 5 138 14 [.ref 3, .int a1] [.int (0 : Int32)] (97, I, J, R) _
    refine az_E.ret (v := some (.int (0 : Int32))) (σ' := (97, I, J, R)) rfl ?_
    show az_E az_F ex 6 110 5 [.ref 3, .int a1, .int a2, .retAddr 0, .retAddr 0, .retAddr 0, .retAddr 0, .retAddr 0] [.int (0 : Int32)] (97, I, J, R) _
    refine az_E.br (c := (0 : Int32) = 0) (tt := 15) (ff := 8) (L' := [.ref 3, .int a1, .int a2, .retAddr 0, .retAddr 0, .retAddr 0, .retAddr 0, .retAddr 0]) (S' := []) (σ' := (97, I, J, R)) rfl (fun _ => ?_) (fun hn => absurd (by decide) hn)
    refine az_E.sn 1 (pc' := 16) (L' := [.ref 3, .int a1, .int a2, .retAddr 0, .retAddr 0, .retAddr 0, .retAddr 0, .retAddr 0]) (S' := [.int (-1 : Int32)]) (σ' := (97, I, J, R)) rfl ?_
    have h := Option.some.inj h
    subst h
    exact az_E.ret (v := some (.int (-1 : Int32))) (σ' := (97, I, J, R)) rfl (hQ _ hR_3_2 hR_3_3)
  · rw [if_neg hc_1] at h
    refine az_E.sn 2 (pc' := 7) (L' := [.int a1, .int (0 : Int32), .int ((I 4 9) - (1 : Int32))]) (S' := [.int ((I 4 9) - (1 : Int32)), .int a1]) (σ' := (97, I, J, R)) rfl ?_
    refine az_E.br (c := ((I 4 9) - (1 : Int32)) < a1) (tt := 14) (ff := 10) (L' := [.int a1, .int (0 : Int32), .int ((I 4 9) - (1 : Int32))]) (S' := []) (σ' := (97, I, J, R)) rfl (fun hc_2 => ?_) (fun hc_2 => ?_)
    · rw [if_pos hc_2] at h
      refine az_E.sn 1 (pc' := 15) (L' := [.int a1, .int (0 : Int32), .int ((I 4 9) - (1 : Int32))]) (S' := [.int (0 : Int32)]) (σ' := (97, I, J, R)) rfl ?_
      refine az_E.ret (v := some (.int (0 : Int32))) (σ' := (97, I, J, R)) rfl ?_
      show az_E az_F ex 5 138 14 [.ref 3, .int a1] [.int (0 : Int32)] (97, I, J, R) _
      refine az_E.ret (v := some (.int (0 : Int32))) (σ' := (97, I, J, R)) rfl ?_
      show az_E az_F ex 6 110 5 [.ref 3, .int a1, .int a2, .retAddr 0, .retAddr 0, .retAddr 0, .retAddr 0, .retAddr 0] [.int (0 : Int32)] (97, I, J, R) _
      refine az_E.br (c := (0 : Int32) = 0) (tt := 15) (ff := 8) (L' := [.ref 3, .int a1, .int a2, .retAddr 0, .retAddr 0, .retAddr 0, .retAddr 0, .retAddr 0]) (S' := []) (σ' := (97, I, J, R)) rfl (fun _ => ?_) (fun hn => absurd (by decide) hn)
      refine az_E.sn 1 (pc' := 16) (L' := [.ref 3, .int a1, .int a2, .retAddr 0, .retAddr 0, .retAddr 0, .retAddr 0, .retAddr 0]) (S' := [.int (-1 : Int32)]) (σ' := (97, I, J, R)) rfl ?_
      have h := Option.some.inj h
      subst h
      exact az_E.ret (v := some (.int (-1 : Int32))) (σ' := (97, I, J, R)) rfl (hQ _ hR_3_2 hR_3_3)
    · rw [if_neg hc_2] at h
      refine az_E.sn 2 (pc' := 15) (L' := [.int a1, .int (0 : Int32), .int ((I 4 9) - (1 : Int32))]) (S' := [.int (1 : Int32)]) (σ' := (97, I, J, R)) rfl ?_
      refine az_E.ret (v := some (.int (1 : Int32))) (σ' := (97, I, J, R)) rfl ?_
      show az_E az_F ex 5 138 14 [.ref 3, .int a1] [.int (1 : Int32)] (97, I, J, R) _
      refine az_E.ret (v := some (.int (1 : Int32))) (σ' := (97, I, J, R)) rfl ?_
      show az_E az_F ex 6 110 5 [.ref 3, .int a1, .int a2, .retAddr 0, .retAddr 0, .retAddr 0, .retAddr 0, .retAddr 0] [.int (1 : Int32)] (97, I, J, R) _
      refine az_E.br (c := (1 : Int32) = 0) (tt := 15) (ff := 8) (L' := [.ref 3, .int a1, .int a2, .retAddr 0, .retAddr 0, .retAddr 0, .retAddr 0, .retAddr 0]) (S' := []) (σ' := (97, I, J, R)) rfl (fun hn => absurd hn (by decide)) (fun _ => ?_)
      refine az_E.sn 1 (pc' := 9) (L' := [.ref 3, .int a1, .int a2, .retAddr 0, .retAddr 0, .retAddr 0, .retAddr 0, .retAddr 0]) (S' := [.int a2]) (σ' := (97, I, J, R)) rfl ?_
      refine az_E.call (d := 5) (k' := 132) (vs := [.int a2]) (pc' := 12) (S' := []) rfl ?_ (fun _ _ hq => hq)
      show az_E az_F ex 5 132 0 [.int a2] [] (97, I, J, R) _
      refine az_E.sn 1 (pc' := 1) (L' := [.int a2]) (S' := [.int a2]) (σ' := (97, I, J, R)) rfl ?_
      refine az_E.br (c := a2 = 0) (tt := 9) (ff := 4) (L' := [.int a2]) (S' := []) (σ' := (97, I, J, R)) rfl (fun hc_3 => ?_) (fun hc_3 => ?_)
      · rw [if_pos hc_3] at h
        refine az_E.sn 2 (pc' := 14) (L' := [.int a2]) (S' := [.int (1 : Int32)]) (σ' := (97, I, J, R)) rfl ?_
        refine az_E.ret (v := some (.int (1 : Int32))) (σ' := (97, I, J, R)) rfl ?_
        show az_E az_F ex 6 110 12 [.ref 3, .int a1, .int a2, .retAddr 0, .retAddr 0, .retAddr 0, .retAddr 0, .retAddr 0] [.int (1 : Int32)] (97, I, J, R) _
        refine az_E.br (c := (1 : Int32) = 0) (tt := 15) (ff := 17) (L' := [.ref 3, .int a1, .int a2, .retAddr 0, .retAddr 0, .retAddr 0, .retAddr 0, .retAddr 0]) (S' := []) (σ' := (97, I, J, R)) rfl (fun hn => absurd hn (by decide)) (fun _ => ?_)
        refine az_E.sn 2 (pc' := 19) (L' := [.ref 3, .int a1, .int a2, .retAddr 0, .retAddr 0, .retAddr 0, .retAddr 0, .retAddr 0]) (S' := [.int a1, .ref 3]) (σ' := (97, I, J, R)) rfl ?_
        cases hx_5 : rs_X_setPace 16 I a1 with
        | none => rw [hx_5] at h; cases h
        | some I_4 =>
          rw [hx_5] at h
          dsimp only at h
          refine az_E.call (d := 5) (k' := 144) (vs := [.ref 3, .int a1]) (pc' := 22) (S' := []) (Q1 := fun v s => v = none ∧ s = (97, I_4, J, (az_u (az_u R 26 2 (some 16)) 26 3 (some 5)))) rfl (az_E.deep (by omega) (re_X_setPace_16 (J := J) (R := R) hR_3_2 hx_5 ⟨rfl, rfl⟩)) (fun v s hq => ?_)
          obtain ⟨rfl, rfl⟩ := hq
          show az_E az_F ex 6 110 22 [.ref 3, .int a1, .int a2, .retAddr 0, .retAddr 0, .retAddr 0, .retAddr 0, .retAddr 0] [] (97, I_4, J, (az_u (az_u R 26 2 (some 16)) 26 3 (some 5))) _
          refine az_E.sn 8 (pc' := 34) (L' := [.ref 3, .int a1, .int a2, .int (-2 : Int32), .int (0 : Int32), .int (0 : Int32), .int (0 : Int32), .retAddr 0]) (S' := []) (σ' := (97, I_4, J, (az_u (az_u R 26 2 (some 16)) 26 3 (some 5)))) rfl ?_
          exact az_E.forget (L := [.ref 3, .retAddr 0, .int a2, .int (-2 : Int32), .int (0 : Int32), .int (0 : Int32), .int (0 : Int32), .retAddr 0]) ⟨rfl, trivial, rfl, rfl, rfl, rfl, rfl, trivial, trivial⟩ (re_X_longest_34_16_21 (I := I_4) (J := J) (R := R) hR_3_2 hR_3_3 h hQ)
      · rw [if_neg hc_3] at h
        refine az_E.sn 2 (pc' := 6) (L' := [.int a2]) (S' := [.int (1 : Int32), .int a2]) (σ' := (97, I, J, R)) rfl ?_
        refine az_E.br (c := a2 = (1 : Int32)) (tt := 9) (ff := 13) (L' := [.int a2]) (S' := []) (σ' := (97, I, J, R)) rfl (fun hc_13 => ?_) (fun hc_13 => ?_)
        · rw [if_pos hc_13] at h
          refine az_E.sn 2 (pc' := 14) (L' := [.int a2]) (S' := [.int (1 : Int32)]) (σ' := (97, I, J, R)) rfl ?_
          refine az_E.ret (v := some (.int (1 : Int32))) (σ' := (97, I, J, R)) rfl ?_
          show az_E az_F ex 6 110 12 [.ref 3, .int a1, .int a2, .retAddr 0, .retAddr 0, .retAddr 0, .retAddr 0, .retAddr 0] [.int (1 : Int32)] (97, I, J, R) _
          refine az_E.br (c := (1 : Int32) = 0) (tt := 15) (ff := 17) (L' := [.ref 3, .int a1, .int a2, .retAddr 0, .retAddr 0, .retAddr 0, .retAddr 0, .retAddr 0]) (S' := []) (σ' := (97, I, J, R)) rfl (fun hn => absurd hn (by decide)) (fun _ => ?_)
          refine az_E.sn 2 (pc' := 19) (L' := [.ref 3, .int a1, .int a2, .retAddr 0, .retAddr 0, .retAddr 0, .retAddr 0, .retAddr 0]) (S' := [.int a1, .ref 3]) (σ' := (97, I, J, R)) rfl ?_
          cases hx_15 : rs_X_setPace 16 I a1 with
          | none => rw [hx_15] at h; cases h
          | some I_14 =>
            rw [hx_15] at h
            dsimp only at h
            refine az_E.call (d := 5) (k' := 144) (vs := [.ref 3, .int a1]) (pc' := 22) (S' := []) (Q1 := fun v s => v = none ∧ s = (97, I_14, J, (az_u (az_u R 26 2 (some 16)) 26 3 (some 5)))) rfl (az_E.deep (by omega) (re_X_setPace_16 (J := J) (R := R) hR_3_2 hx_15 ⟨rfl, rfl⟩)) (fun v s hq => ?_)
            obtain ⟨rfl, rfl⟩ := hq
            show az_E az_F ex 6 110 22 [.ref 3, .int a1, .int a2, .retAddr 0, .retAddr 0, .retAddr 0, .retAddr 0, .retAddr 0] [] (97, I_14, J, (az_u (az_u R 26 2 (some 16)) 26 3 (some 5))) _
            refine az_E.sn 8 (pc' := 34) (L' := [.ref 3, .int a1, .int a2, .int (-2 : Int32), .int (0 : Int32), .int (0 : Int32), .int (0 : Int32), .retAddr 0]) (S' := []) (σ' := (97, I_14, J, (az_u (az_u R 26 2 (some 16)) 26 3 (some 5)))) rfl ?_
            exact az_E.forget (L := [.ref 3, .retAddr 0, .int a2, .int (-2 : Int32), .int (0 : Int32), .int (0 : Int32), .int (0 : Int32), .retAddr 0]) ⟨rfl, trivial, rfl, rfl, rfl, rfl, rfl, trivial, trivial⟩ (re_X_longest_34_16_21 (I := I_14) (J := J) (R := R) hR_3_2 hR_3_3 h hQ)
        · rw [if_neg hc_13] at h
          refine az_E.sn 1 (pc' := 14) (L' := [.int a2]) (S' := [.int (0 : Int32)]) (σ' := (97, I, J, R)) rfl ?_
          refine az_E.ret (v := some (.int (0 : Int32))) (σ' := (97, I, J, R)) rfl ?_
          show az_E az_F ex 6 110 12 [.ref 3, .int a1, .int a2, .retAddr 0, .retAddr 0, .retAddr 0, .retAddr 0, .retAddr 0] [.int (0 : Int32)] (97, I, J, R) _
          refine az_E.br (c := (0 : Int32) = 0) (tt := 15) (ff := 17) (L' := [.ref 3, .int a1, .int a2, .retAddr 0, .retAddr 0, .retAddr 0, .retAddr 0, .retAddr 0]) (S' := []) (σ' := (97, I, J, R)) rfl (fun _ => ?_) (fun hn => absurd (by decide) hn)
          refine az_E.sn 1 (pc' := 16) (L' := [.ref 3, .int a1, .int a2, .retAddr 0, .retAddr 0, .retAddr 0, .retAddr 0, .retAddr 0]) (S' := [.int (-1 : Int32)]) (σ' := (97, I, J, R)) rfl ?_
          have h := Option.some.inj h
          subst h
          exact az_E.ret (v := some (.int (-1 : Int32))) (σ' := (97, I, J, R)) rfl (hQ _ hR_3_2 hR_3_3)
set_option maxRecDepth 100000 in
set_option maxHeartbeats 4000000 in
theorem re_M_longest_86 {ex : az_X} {I : Nat → Nat → Int32} {J : Nat → Nat → Int64} {R : Nat → Nat → Option Nat} {v2 : Int32} {v3 : Int32} {v5 : Int32} {x : Int32 × (Nat → Nat → Int32)} (h : rs_M_longest_86 I v2 v3 v5 = some x) {Q : Option Value → az_S → Prop} (hQ : Q (some (.int x.1)) (97, x.2, J, R)) : az_E az_F ex 125 225 86 [.retAddr 0, .retAddr 0, .int v2, .int v3, .retAddr 0, .int v5, .retAddr 0, .retAddr 0] [] (97, I, J, R) Q := by
  unfold rs_M_longest_86 at h
  refine az_E.sn 1 (pc' := 87) (L' := [.retAddr 0, .retAddr 0, .int v2, .int v3, .retAddr 0, .int v5, .retAddr 0, .retAddr 0]) (S' := [.int v2]) (σ' := (97, I, J, R)) rfl ?_
  refine az_E.br (c := v2 = 0) (tt := 90) (ff := 94) (L' := [.retAddr 0, .retAddr 0, .int v2, .int v3, .retAddr 0, .int v5, .retAddr 0, .retAddr 0]) (S' := []) (σ' := (97, I, J, R)) rfl (fun hc_8 => ?_) (fun hc_8 => ?_)
  · rw [if_pos hc_8] at h
    refine az_E.sn 2 (pc' := 96) (L' := [.retAddr 0, .retAddr 0, .int v2, .int v3, .retAddr 0, .int v5, .retAddr 0, .retAddr 0]) (S' := [.int v3]) (σ' := (97, I, J, R)) rfl ?_
    have h := Option.some.inj h
    subst h
    exact az_E.ret (v := some (.int v3)) (σ' := (97, I, J, R)) rfl hQ
  · rw [if_neg hc_8] at h
    refine az_E.sn 1 (pc' := 96) (L' := [.retAddr 0, .retAddr 0, .int v2, .int v3, .retAddr 0, .int v5, .retAddr 0, .retAddr 0]) (S' := [.int v5]) (σ' := (97, I, J, R)) rfl ?_
    have h := Option.some.inj h
    subst h
    exact az_E.ret (v := some (.int v5)) (σ' := (97, I, J, R)) rfl hQ
set_option maxRecDepth 100000 in
set_option maxHeartbeats 4000000 in
theorem re_M_longest_38_b {ex : az_X} {I : Nat → Nat → Int32} {J : Nat → Nat → Int64} {R : Nat → Nat → Option Nat} {v2 : Int32} {v3 : Int32} {v4 : Int32} {v5 : Int32} {v6 : Int32} {x : ((Int32 × Int32 × Int32 × Int32 × (Nat → Nat → Int32)) ⊕ (Int32 × (Nat → Nat → Int32)))} (h : rs_M_longest_38_b v2 v3 v4 v5 v6 I = some x) {Q : Option Value → az_S → Prop} (hQ : Sum.elim (fun s => az_E az_F ex 125 225 38 [.ref 73, .retAddr 0, .int v2, .int s.1, .int s.2.1, .int s.2.2.1, .int s.2.2.2.1, .retAddr 0] [] (97, s.2.2.2.2, J, R) Q) (fun x => Q (some (.int x.1)) (97, x.2, J, R)) x) : az_E az_F ex 125 225 38 [.ref 73, .retAddr 0, .int v2, .int v3, .int v4, .int v5, .int v6, .retAddr 0] [] (97, I, J, R) Q := by
  unfold rs_M_longest_38_b at h
  refine az_E.sn 3 (pc' := 44) (L' := [.ref 73, .retAddr 0, .int v2, .int v3, .int v4, .int v5, .int v6, .retAddr 0]) (S' := [.int (I 73 6), .int v6]) (σ' := (97, I, J, R)) rfl ?_
  refine az_E.br (c := (I 73 6) ≤ v6) (tt := 86) (ff := 47) (L' := [.ref 73, .retAddr 0, .int v2, .int v3, .int v4, .int v5, .int v6, .retAddr 0]) (S' := []) (σ' := (97, I, J, R)) rfl (fun hc_7 => ?_) (fun hc_7 => ?_)
  · rw [if_pos hc_7] at h
    obtain ⟨x, hx, rfl⟩ := Option.map_eq_some_iff.mp h
    exact az_E.forget (L := [.retAddr 0, .retAddr 0, .int v2, .int v3, .retAddr 0, .int v5, .retAddr 0, .retAddr 0]) ⟨trivial, trivial, rfl, rfl, trivial, rfl, trivial, trivial, trivial⟩ (re_M_longest_86 (I := I) (J := J) (R := R)  hx hQ)
  · rw [if_neg hc_7] at h
    refine az_E.sn 2 (pc' := 50) (L' := [.ref 73, .retAddr 0, .int v2, .int v3, .int v4, .int v5, .int v6, .retAddr 0]) (S' := [.int v6, .ref 73]) (σ' := (97, I, J, R)) rfl ?_
    cases hx_11 : rs_M_armFor I v6 with
    | none => rw [hx_11] at h; cases h
    | some o =>
      rw [hx_11] at h
      obtain ⟨x_9, I_10⟩ := o
      dsimp only at h
      refine az_E.call (d := 124) (k' := 197) (vs := [.ref 73, .int v6]) (pc' := 53) (S' := []) (Q1 := fun v s => v = some (.int x_9) ∧ s = (97, I_10, J, R)) rfl (az_E.deep (by omega) (re_M_armFor (J := J) (R := R)  hx_11 ⟨rfl, rfl⟩)) (fun v s hq => ?_)
      obtain ⟨rfl, rfl⟩ := hq
      show az_E az_F ex 125 225 53 [.ref 73, .retAddr 0, .int v2, .int v3, .int v4, .int v5, .int v6, .retAddr 0] [.int x_9] (97, I_10, J, R) _
      refine az_E.sn 6 (pc' := 63) (L' := [.ref 73, .retAddr 0, .int v2, .int v3, .int v4, .int (v5 + x_9), .int v6, .int x_9]) (S' := [.int v3]) (σ' := (97, I_10, J, R)) rfl ?_
      refine az_E.br (c := v3 < 0) (tt := 73) (ff := 66) (L' := [.ref 73, .retAddr 0, .int v2, .int v3, .int v4, .int (v5 + x_9), .int v6, .int x_9]) (S' := []) (σ' := (97, I_10, J, R)) rfl (fun hc_12 => ?_) (fun hc_12 => ?_)
      · rw [if_pos hc_12] at h
        refine az_E.sn 6 (pc' := 38) (L' := [.ref 73, .retAddr 0, .int v2, .int v6, .int x_9, .int (v5 + x_9), .int (v6 + (1 : Int32)), .int x_9]) (S' := []) (σ' := (97, I_10, J, R)) rfl ?_
        have h := Option.some.inj h
        subst h
        exact az_E.forget (L := [.ref 73, .retAddr 0, .int v2, .int v6, .int x_9, .int (v5 + x_9), .int (v6 + (1 : Int32)), .retAddr 0]) ⟨rfl, trivial, rfl, rfl, rfl, rfl, rfl, trivial, trivial⟩ hQ
      · rw [if_neg hc_12] at h
        refine az_E.sn 2 (pc' := 70) (L' := [.ref 73, .retAddr 0, .int v2, .int v3, .int v4, .int (v5 + x_9), .int v6, .int x_9]) (S' := [.int v4, .int x_9]) (σ' := (97, I_10, J, R)) rfl ?_
        refine az_E.br (c := x_9 ≤ v4) (tt := 80) (ff := 73) (L' := [.ref 73, .retAddr 0, .int v2, .int v3, .int v4, .int (v5 + x_9), .int v6, .int x_9]) (S' := []) (σ' := (97, I_10, J, R)) rfl (fun hc_13 => ?_) (fun hc_13 => ?_)
        · rw [if_pos hc_13] at h
          refine az_E.sn 2 (pc' := 38) (L' := [.ref 73, .retAddr 0, .int v2, .int v3, .int v4, .int (v5 + x_9), .int (v6 + (1 : Int32)), .int x_9]) (S' := []) (σ' := (97, I_10, J, R)) rfl ?_
          have h := Option.some.inj h
          subst h
          exact az_E.forget (L := [.ref 73, .retAddr 0, .int v2, .int v3, .int v4, .int (v5 + x_9), .int (v6 + (1 : Int32)), .retAddr 0]) ⟨rfl, trivial, rfl, rfl, rfl, rfl, rfl, trivial, trivial⟩ hQ
        · rw [if_neg hc_13] at h
          refine az_E.sn 6 (pc' := 38) (L' := [.ref 73, .retAddr 0, .int v2, .int v6, .int x_9, .int (v5 + x_9), .int (v6 + (1 : Int32)), .int x_9]) (S' := []) (σ' := (97, I_10, J, R)) rfl ?_
          have h := Option.some.inj h
          subst h
          exact az_E.forget (L := [.ref 73, .retAddr 0, .int v2, .int v6, .int x_9, .int (v5 + x_9), .int (v6 + (1 : Int32)), .retAddr 0]) ⟨rfl, trivial, rfl, rfl, rfl, rfl, rfl, trivial, trivial⟩ hQ
set_option maxRecDepth 100000 in
set_option maxHeartbeats 4000000 in
theorem re_M_longest_38 {ex : az_X} {I : Nat → Nat → Int32} {J : Nat → Nat → Int64} {R : Nat → Nat → Option Nat} {v2 : Int32} {v3 : Int32} {v4 : Int32} {v5 : Int32} {v6 : Int32} {x : Int32 × (Nat → Nat → Int32)} (h : rs_M_longest_38 I v2 v3 v4 v5 v6 = some x) {Q : Option Value → az_S → Prop} (hQ : Q (some (.int x.1)) (97, x.2, J, R)) : az_E az_F ex 125 225 38 [.ref 73, .retAddr 0, .int v2, .int v3, .int v4, .int v5, .int v6, .retAddr 0] [] (97, I, J, R) Q := by
  unfold rs_M_longest_38 at h
  refine az_lp_E (G := fun s => az_E az_F ex 125 225 38 [.ref 73, .retAddr 0, .int v2, .int s.1, .int s.2.1, .int s.2.2.1, .int s.2.2.2.1, .retAddr 0] [] (97, s.2.2.2.2, J, R) Q) (H := fun x => Q (some (.int x.1)) (97, x.2, J, R)) (fun s o hb ho => ?_) _ _ _ h hQ
  exact re_M_longest_38_b  hb ho
set_option maxRecDepth 100000 in
set_option maxHeartbeats 4000000 in
theorem re_M_longest {ex : az_X} {I : Nat → Nat → Int32} {J : Nat → Nat → Int64} {R : Nat → Nat → Option Nat} {a1 : Int32} {a2 : Int32} {o : Int32 × (Nat → Nat → Int32)} (h : rs_M_longest I a1 a2 = some o) {Q : Option Value → az_S → Prop} (hQ : Q (some (.int o.1)) (97, o.2, J, R)) : az_E az_F ex 125 225 0 [.ref 73, .int a1, .int a2, .retAddr 0, .retAddr 0, .retAddr 0, .retAddr 0, .retAddr 0] [] (97, I, J, R) Q := by
  unfold rs_M_longest at h
  refine az_E.sn 3 (pc' := 3) (L' := [.ref 73, .int a1, .int a2, .retAddr 0, .retAddr 0, .retAddr 0, .retAddr 0, .retAddr 0]) (S' := [.long a1.toInt64, .ref 73]) (σ' := (97, I, J, R)) rfl ?_
  refine az_E.call (d := 124) (k' := 162) (vs := [.ref 73, .long a1.toInt64]) (pc' := 6) (S' := []) rfl ?_ (fun _ _ hq => hq)
  show az_E az_F ex 124 162 0 [.ref 73, .long a1.toInt64, .retAddr 0] [] (97, I, J, R) _
  refine az_E.sn 7 (pc' := 9) (L' := [.ref 73, .long a1.toInt64, .retAddr 0]) (S' := [.long ((I 73 7) - (1 : Int32)).toInt64, .long (0 : Int64), .long a1.toInt64]) (σ' := (97, I, J, R)) rfl ?_
  refine az_E.call (d := 123) (k' := 154) (vs := [.long a1.toInt64, .long (0 : Int64), .long ((I 73 7) - (1 : Int32)).toInt64]) (pc' := 12) (S' := []) rfl ?_ (fun _ _ hq => hq)
  show az_E az_F ex 123 154 0 [.long a1.toInt64, .retAddr 0, .long (0 : Int64), .retAddr 0, .long ((I 73 7) - (1 : Int32)).toInt64, .retAddr 0] [] (97, I, J, R) _
  refine az_E.sn 3 (pc' := 3) (L' := [.long a1.toInt64, .retAddr 0, .long (0 : Int64), .retAddr 0, .long ((I 73 7) - (1 : Int32)).toInt64, .retAddr 0]) (S' := [.int (lg_cmp a1.toInt64 (0 : Int64))]) (σ' := (97, I, J, R)) rfl ?_
  refine az_E.br (c := (lg_cmp a1.toInt64 (0 : Int64)) < 0) (tt := 17) (ff := 6) (L' := [.long a1.toInt64, .retAddr 0, .long (0 : Int64), .retAddr 0, .long ((I 73 7) - (1 : Int32)).toInt64, .retAddr 0]) (S' := []) (σ' := (97, I, J, R)) rfl (fun hc_1 => ?_) (fun hc_1 => ?_)
  · rw [if_pos hc_1] at h
    refine az_E.sn 1 (pc' := 18) (L' := [.long a1.toInt64, .retAddr 0, .long (0 : Int64), .retAddr 0, .long ((I 73 7) - (1 : Int32)).toInt64, .retAddr 0]) (S' := [.int (0 : Int32)]) (σ' := (97, I, J, R)) rfl ?_
    refine az_E.ret (v := some (.int (0 : Int32))) (σ' := (97, I, J, R)) rfl ?_
    show az_E az_F ex 124 162 12 [.ref 73, .long a1.toInt64, .retAddr 0] [.int (0 : Int32)] (97, I, J, R) _
    refine az_E.ret (v := some (.int (0 : Int32))) (σ' := (97, I, J, R)) rfl ?_
    show az_E az_F ex 125 225 6 [.ref 73, .int a1, .int a2, .retAddr 0, .retAddr 0, .retAddr 0, .retAddr 0, .retAddr 0] [.int (0 : Int32)] (97, I, J, R) _
    refine az_E.br (c := (0 : Int32) = 0) (tt := 19) (ff := 9) (L' := [.ref 73, .int a1, .int a2, .retAddr 0, .retAddr 0, .retAddr 0, .retAddr 0, .retAddr 0]) (S' := []) (σ' := (97, I, J, R)) rfl (fun _ => ?_) (fun hn => absurd (by decide) hn)
    refine az_E.sn 1 (pc' := 20) (L' := [.ref 73, .int a1, .int a2, .retAddr 0, .retAddr 0, .retAddr 0, .retAddr 0, .retAddr 0]) (S' := [.int (-1 : Int32)]) (σ' := (97, I, J, R)) rfl ?_
    have h := Option.some.inj h
    subst h
    exact az_E.ret (v := some (.int (-1 : Int32))) (σ' := (97, I, J, R)) rfl hQ
  · rw [if_neg hc_1] at h
    refine az_E.sn 3 (pc' := 10) (L' := [.long a1.toInt64, .retAddr 0, .long (0 : Int64), .retAddr 0, .long ((I 73 7) - (1 : Int32)).toInt64, .retAddr 0]) (S' := [.int (lg_cmp a1.toInt64 ((I 73 7) - (1 : Int32)).toInt64)]) (σ' := (97, I, J, R)) rfl ?_
    refine az_E.br (c := 0 < (lg_cmp a1.toInt64 ((I 73 7) - (1 : Int32)).toInt64)) (tt := 17) (ff := 13) (L' := [.long a1.toInt64, .retAddr 0, .long (0 : Int64), .retAddr 0, .long ((I 73 7) - (1 : Int32)).toInt64, .retAddr 0]) (S' := []) (σ' := (97, I, J, R)) rfl (fun hc_2 => ?_) (fun hc_2 => ?_)
    · rw [if_pos hc_2] at h
      refine az_E.sn 1 (pc' := 18) (L' := [.long a1.toInt64, .retAddr 0, .long (0 : Int64), .retAddr 0, .long ((I 73 7) - (1 : Int32)).toInt64, .retAddr 0]) (S' := [.int (0 : Int32)]) (σ' := (97, I, J, R)) rfl ?_
      refine az_E.ret (v := some (.int (0 : Int32))) (σ' := (97, I, J, R)) rfl ?_
      show az_E az_F ex 124 162 12 [.ref 73, .long a1.toInt64, .retAddr 0] [.int (0 : Int32)] (97, I, J, R) _
      refine az_E.ret (v := some (.int (0 : Int32))) (σ' := (97, I, J, R)) rfl ?_
      show az_E az_F ex 125 225 6 [.ref 73, .int a1, .int a2, .retAddr 0, .retAddr 0, .retAddr 0, .retAddr 0, .retAddr 0] [.int (0 : Int32)] (97, I, J, R) _
      refine az_E.br (c := (0 : Int32) = 0) (tt := 19) (ff := 9) (L' := [.ref 73, .int a1, .int a2, .retAddr 0, .retAddr 0, .retAddr 0, .retAddr 0, .retAddr 0]) (S' := []) (σ' := (97, I, J, R)) rfl (fun _ => ?_) (fun hn => absurd (by decide) hn)
      refine az_E.sn 1 (pc' := 20) (L' := [.ref 73, .int a1, .int a2, .retAddr 0, .retAddr 0, .retAddr 0, .retAddr 0, .retAddr 0]) (S' := [.int (-1 : Int32)]) (σ' := (97, I, J, R)) rfl ?_
      have h := Option.some.inj h
      subst h
      exact az_E.ret (v := some (.int (-1 : Int32))) (σ' := (97, I, J, R)) rfl hQ
    · rw [if_neg hc_2] at h
      refine az_E.sn 2 (pc' := 18) (L' := [.long a1.toInt64, .retAddr 0, .long (0 : Int64), .retAddr 0, .long ((I 73 7) - (1 : Int32)).toInt64, .retAddr 0]) (S' := [.int (1 : Int32)]) (σ' := (97, I, J, R)) rfl ?_
      refine az_E.ret (v := some (.int (1 : Int32))) (σ' := (97, I, J, R)) rfl ?_
      show az_E az_F ex 124 162 12 [.ref 73, .long a1.toInt64, .retAddr 0] [.int (1 : Int32)] (97, I, J, R) _
      refine az_E.ret (v := some (.int (1 : Int32))) (σ' := (97, I, J, R)) rfl ?_
      show az_E az_F ex 125 225 6 [.ref 73, .int a1, .int a2, .retAddr 0, .retAddr 0, .retAddr 0, .retAddr 0, .retAddr 0] [.int (1 : Int32)] (97, I, J, R) _
      refine az_E.br (c := (1 : Int32) = 0) (tt := 19) (ff := 9) (L' := [.ref 73, .int a1, .int a2, .retAddr 0, .retAddr 0, .retAddr 0, .retAddr 0, .retAddr 0]) (S' := []) (σ' := (97, I, J, R)) rfl (fun hn => absurd hn (by decide)) (fun _ => ?_)
      refine az_E.sn 4 (pc' := 13) (L' := [.ref 73, .int a1, .int a2, .retAddr 0, .retAddr 0, .retAddr 0, .retAddr 0, .retAddr 0]) (S' := [.long (1 : Int64), .long (0 : Int64), .long a2.toInt64]) (σ' := (97, I, J, R)) rfl ?_
      refine az_E.call (d := 124) (k' := 154) (vs := [.long a2.toInt64, .long (0 : Int64), .long (1 : Int64)]) (pc' := 16) (S' := []) rfl ?_ (fun _ _ hq => hq)
      show az_E az_F ex 124 154 0 [.long a2.toInt64, .retAddr 0, .long (0 : Int64), .retAddr 0, .long (1 : Int64), .retAddr 0] [] (97, I, J, R) _
      refine az_E.sn 3 (pc' := 3) (L' := [.long a2.toInt64, .retAddr 0, .long (0 : Int64), .retAddr 0, .long (1 : Int64), .retAddr 0]) (S' := [.int (lg_cmp a2.toInt64 (0 : Int64))]) (σ' := (97, I, J, R)) rfl ?_
      refine az_E.br (c := (lg_cmp a2.toInt64 (0 : Int64)) < 0) (tt := 17) (ff := 6) (L' := [.long a2.toInt64, .retAddr 0, .long (0 : Int64), .retAddr 0, .long (1 : Int64), .retAddr 0]) (S' := []) (σ' := (97, I, J, R)) rfl (fun hc_3 => ?_) (fun hc_3 => ?_)
      · rw [if_pos hc_3] at h
        refine az_E.sn 1 (pc' := 18) (L' := [.long a2.toInt64, .retAddr 0, .long (0 : Int64), .retAddr 0, .long (1 : Int64), .retAddr 0]) (S' := [.int (0 : Int32)]) (σ' := (97, I, J, R)) rfl ?_
        refine az_E.ret (v := some (.int (0 : Int32))) (σ' := (97, I, J, R)) rfl ?_
        show az_E az_F ex 125 225 16 [.ref 73, .int a1, .int a2, .retAddr 0, .retAddr 0, .retAddr 0, .retAddr 0, .retAddr 0] [.int (0 : Int32)] (97, I, J, R) _
        refine az_E.br (c := (0 : Int32) = 0) (tt := 19) (ff := 21) (L' := [.ref 73, .int a1, .int a2, .retAddr 0, .retAddr 0, .retAddr 0, .retAddr 0, .retAddr 0]) (S' := []) (σ' := (97, I, J, R)) rfl (fun _ => ?_) (fun hn => absurd (by decide) hn)
        refine az_E.sn 1 (pc' := 20) (L' := [.ref 73, .int a1, .int a2, .retAddr 0, .retAddr 0, .retAddr 0, .retAddr 0, .retAddr 0]) (S' := [.int (-1 : Int32)]) (σ' := (97, I, J, R)) rfl ?_
        have h := Option.some.inj h
        subst h
        exact az_E.ret (v := some (.int (-1 : Int32))) (σ' := (97, I, J, R)) rfl hQ
      · rw [if_neg hc_3] at h
        refine az_E.sn 3 (pc' := 10) (L' := [.long a2.toInt64, .retAddr 0, .long (0 : Int64), .retAddr 0, .long (1 : Int64), .retAddr 0]) (S' := [.int (lg_cmp a2.toInt64 (1 : Int64))]) (σ' := (97, I, J, R)) rfl ?_
        refine az_E.br (c := 0 < (lg_cmp a2.toInt64 (1 : Int64))) (tt := 17) (ff := 13) (L' := [.long a2.toInt64, .retAddr 0, .long (0 : Int64), .retAddr 0, .long (1 : Int64), .retAddr 0]) (S' := []) (σ' := (97, I, J, R)) rfl (fun hc_4 => ?_) (fun hc_4 => ?_)
        · rw [if_pos hc_4] at h
          refine az_E.sn 1 (pc' := 18) (L' := [.long a2.toInt64, .retAddr 0, .long (0 : Int64), .retAddr 0, .long (1 : Int64), .retAddr 0]) (S' := [.int (0 : Int32)]) (σ' := (97, I, J, R)) rfl ?_
          refine az_E.ret (v := some (.int (0 : Int32))) (σ' := (97, I, J, R)) rfl ?_
          show az_E az_F ex 125 225 16 [.ref 73, .int a1, .int a2, .retAddr 0, .retAddr 0, .retAddr 0, .retAddr 0, .retAddr 0] [.int (0 : Int32)] (97, I, J, R) _
          refine az_E.br (c := (0 : Int32) = 0) (tt := 19) (ff := 21) (L' := [.ref 73, .int a1, .int a2, .retAddr 0, .retAddr 0, .retAddr 0, .retAddr 0, .retAddr 0]) (S' := []) (σ' := (97, I, J, R)) rfl (fun _ => ?_) (fun hn => absurd (by decide) hn)
          refine az_E.sn 1 (pc' := 20) (L' := [.ref 73, .int a1, .int a2, .retAddr 0, .retAddr 0, .retAddr 0, .retAddr 0, .retAddr 0]) (S' := [.int (-1 : Int32)]) (σ' := (97, I, J, R)) rfl ?_
          have h := Option.some.inj h
          subst h
          exact az_E.ret (v := some (.int (-1 : Int32))) (σ' := (97, I, J, R)) rfl hQ
        · rw [if_neg hc_4] at h
          refine az_E.sn 2 (pc' := 18) (L' := [.long a2.toInt64, .retAddr 0, .long (0 : Int64), .retAddr 0, .long (1 : Int64), .retAddr 0]) (S' := [.int (1 : Int32)]) (σ' := (97, I, J, R)) rfl ?_
          refine az_E.ret (v := some (.int (1 : Int32))) (σ' := (97, I, J, R)) rfl ?_
          show az_E az_F ex 125 225 16 [.ref 73, .int a1, .int a2, .retAddr 0, .retAddr 0, .retAddr 0, .retAddr 0, .retAddr 0] [.int (1 : Int32)] (97, I, J, R) _
          refine az_E.br (c := (1 : Int32) = 0) (tt := 19) (ff := 21) (L' := [.ref 73, .int a1, .int a2, .retAddr 0, .retAddr 0, .retAddr 0, .retAddr 0, .retAddr 0]) (S' := []) (σ' := (97, I, J, R)) rfl (fun hn => absurd hn (by decide)) (fun _ => ?_)
          refine az_E.sn 2 (pc' := 23) (L' := [.ref 73, .int a1, .int a2, .retAddr 0, .retAddr 0, .retAddr 0, .retAddr 0, .retAddr 0]) (S' := [.int a1, .ref 73]) (σ' := (97, I, J, R)) rfl ?_
          cases hx_6 : rs_M_asksFor I a1 with
          | none => rw [hx_6] at h; cases h
          | some I_5 =>
            rw [hx_6] at h
            dsimp only at h
            refine az_E.call (d := 124) (k' := 190) (vs := [.ref 73, .int a1]) (pc' := 26) (S' := []) (Q1 := fun v s => v = none ∧ s = (97, I_5, J, R)) rfl (az_E.deep (by omega) (re_M_asksFor (J := J) (R := R)  hx_6 ⟨rfl, rfl⟩)) (fun v s hq => ?_)
            obtain ⟨rfl, rfl⟩ := hq
            show az_E az_F ex 125 225 26 [.ref 73, .int a1, .int a2, .retAddr 0, .retAddr 0, .retAddr 0, .retAddr 0, .retAddr 0] [] (97, I_5, J, R) _
            refine az_E.sn 8 (pc' := 38) (L' := [.ref 73, .int a1, .int a2, .int (-2 : Int32), .int (0 : Int32), .int (0 : Int32), .int (0 : Int32), .retAddr 0]) (S' := []) (σ' := (97, I_5, J, R)) rfl ?_
            exact az_E.forget (L := [.ref 73, .retAddr 0, .int a2, .int (-2 : Int32), .int (0 : Int32), .int (0 : Int32), .int (0 : Int32), .retAddr 0]) ⟨rfl, trivial, rfl, rfl, rfl, rfl, rfl, trivial, trivial⟩ (re_M_longest_38 (I := I_5) (J := J) (R := R)  h hQ)
set_option maxRecDepth 100000 in
set_option maxHeartbeats 4000000 in
theorem re_X_drawn_147_16_21 {ex : az_X} {I : Nat → Nat → Int32} {J : Nat → Nat → Int64} {R : Nat → Nat → Option Nat} {v3 : Int32} {v5 : Int32} {v6 : Int32} (hR_3_2 : R 3 2 = some 16) (hR_3_3 : R 3 3 = some 21) {x : Int32 × (Nat → Nat → Int32)} (h : rs_X_drawn_147 21 16 I v3 v5 v6 = some x) {Q : Option Value → az_S → Prop} (hQ : ∀ R' : Nat → Nat → Option Nat, R' 3 2 = some 16 → R' 3 3 = some 21 → Q (some (.int x.1)) (97, x.2, J, R')) : az_E az_F ex 5 111 147 [.retAddr 0, .retAddr 0, .retAddr 0, .int v3, .retAddr 0, .int v5, .int v6, .retAddr 0, .retAddr 0] [] (97, I, J, R) Q := by
  unfold rs_X_drawn_147 at h
  refine az_E.sn 1 (pc' := 148) (L' := [.retAddr 0, .retAddr 0, .retAddr 0, .int v3, .retAddr 0, .int v5, .int v6, .retAddr 0, .retAddr 0]) (S' := [.int v3]) (σ' := (97, I, J, R)) rfl ?_
  refine az_E.br (c := v3 = 0) (tt := 151) (ff := 156) (L' := [.retAddr 0, .retAddr 0, .retAddr 0, .int v3, .retAddr 0, .int v5, .int v6, .retAddr 0, .retAddr 0]) (S' := []) (σ' := (97, I, J, R)) rfl (fun hc_6 => ?_) (fun hc_6 => ?_)
  · rw [if_pos hc_6] at h
    refine az_E.sn 2 (pc' := 158) (L' := [.retAddr 0, .retAddr 0, .retAddr 0, .int v3, .retAddr 0, .int v5, .int v6, .retAddr 0, .retAddr 0]) (S' := [.int v5]) (σ' := (97, I, J, R)) rfl ?_
    have h := Option.some.inj h
    subst h
    exact az_E.ret (v := some (.int v5)) (σ' := (97, I, J, R)) rfl (hQ _ hR_3_2 hR_3_3)
  · rw [if_neg hc_6] at h
    refine az_E.sn 1 (pc' := 158) (L' := [.retAddr 0, .retAddr 0, .retAddr 0, .int v3, .retAddr 0, .int v5, .int v6, .retAddr 0, .retAddr 0]) (S' := [.int v6]) (σ' := (97, I, J, R)) rfl ?_
    have h := Option.some.inj h
    subst h
    exact az_E.ret (v := some (.int v6)) (σ' := (97, I, J, R)) rfl (hQ _ hR_3_2 hR_3_3)
set_option maxRecDepth 100000 in
set_option maxHeartbeats 4000000 in
theorem re_X_drawn_43_b_16_21 {ex : az_X} {I : Nat → Nat → Int32} {J : Nat → Nat → Int64} {R : Nat → Nat → Option Nat} {v2 : Int32} {v3 : Int32} {v4 : Int32} {v5 : Int32} {v6 : Int32} {v7 : Int32} (hR_3_2 : R 3 2 = some 16) (hR_3_3 : R 3 3 = some 21) {x : ((Int32 × Int32 × Int32 × Int32 × (Nat → Nat → Int32)) ⊕ (Int32 × (Nat → Nat → Int32)))} (h : rs_X_drawn_43_b 21 16 v2 v3 v4 v5 v6 v7 I = some x) {Q : Option Value → az_S → Prop} (hQ : Sum.elim (fun s => ∀ R : Nat → Nat → Option Nat, R 3 2 = some 16 → R 3 3 = some 21 → az_E az_F ex 5 111 43 [.ref 3, .retAddr 0, .int v2, .int v3, .int s.1, .int s.2.1, .int s.2.2.1, .int s.2.2.2.1, .retAddr 0] [] (97, s.2.2.2.2, J, R) Q) (fun x => ∀ R' : Nat → Nat → Option Nat, R' 3 2 = some 16 → R' 3 3 = some 21 → Q (some (.int x.1)) (97, x.2, J, R')) x) : az_E az_F ex 5 111 43 [.ref 3, .retAddr 0, .int v2, .int v3, .int v4, .int v5, .int v6, .int v7, .retAddr 0] [] (97, I, J, R) Q := by
  unfold rs_X_drawn_43_b at h
  refine az_E.sn 2 (pc' := 46) (L' := [.ref 3, .retAddr 0, .int v2, .int v3, .int v4, .int v5, .int v6, .int v7, .retAddr 0]) (S' := [.int v2, .int v7]) (σ' := (97, I, J, R)) rfl ?_
  refine az_E.br (c := v2 ≤ v7) (tt := 147) (ff := 49) (L' := [.ref 3, .retAddr 0, .int v2, .int v3, .int v4, .int v5, .int v6, .int v7, .retAddr 0]) (S' := []) (σ' := (97, I, J, R)) rfl (fun hc_5 => ?_) (fun hc_5 => ?_)
  · rw [if_pos hc_5] at h
    obtain ⟨x, hx, rfl⟩ := Option.map_eq_some_iff.mp h
    exact az_E.forget (L := [.retAddr 0, .retAddr 0, .retAddr 0, .int v3, .retAddr 0, .int v5, .int v6, .retAddr 0, .retAddr 0]) ⟨trivial, trivial, trivial, rfl, trivial, rfl, rfl, trivial, trivial, trivial⟩ (re_X_drawn_147_16_21 (I := I) (J := J) (R := R) hR_3_2 hR_3_3 hx hQ)
  · rw [if_neg hc_5] at h
    refine az_E.sn 9 (pc' := 66) (L' := [.ref 3, .retAddr 0, .int v2, .int v3, .int ((v4 * (1103515245 : Int32)) + (12345 : Int32)), .int v5, .int v6, .int v7, .retAddr 0]) (S' := [.ref 3, .ref 26]) (σ' := (97, I, J, R)) rfl ?_
    refine az_E.ov (pc' := 69) (L' := [.ref 3, .retAddr 0, .int v2, .int v3, .int ((v4 * (1103515245 : Int32)) + (12345 : Int32)), .int v5, .int v6, .int v7, .retAddr 0]) (S' := [.ref 26]) (σ' := (97, I, J, R)) (x := .ref 16) rfl (congrArg (fun z => some (va_rf z)) hR_3_2) ?_
    refine az_E.sn 6 (pc' := 80) (L' := [.ref 3, .retAddr 0, .int v2, .int v3, .int ((v4 * (1103515245 : Int32)) + (12345 : Int32)), .int v5, .int v6, .int v7, .retAddr 0]) (S' := [.int (19 : Int32), .int (((v4 * (1103515245 : Int32)) + (12345 : Int32)).toUInt32 >>> ((8 : Int32).toUInt32 &&& Int32.toUInt32 31)).toInt32, .ref 4, .ref 16, .ref 26]) (σ' := (97, I, J, R)) rfl ?_
    have hd_7 : ¬ ((19 : Int32) = 0) := by decide
    refine az_E.dv (c := (19 : Int32) = 0) (pc' := 81) (L' := [.ref 3, .retAddr 0, .int v2, .int v3, .int ((v4 * (1103515245 : Int32)) + (12345 : Int32)), .int v5, .int v6, .int v7, .retAddr 0]) (S' := [.int ((((v4 * (1103515245 : Int32)) + (12345 : Int32)).toUInt32 >>> ((8 : Int32).toUInt32 &&& Int32.toUInt32 31)).toInt32 - (((v4 * (1103515245 : Int32)) + (12345 : Int32)).toUInt32 >>> ((8 : Int32).toUInt32 &&& Int32.toUInt32 31)).toInt32 / (19 : Int32) * (19 : Int32)), .ref 4, .ref 16, .ref 26]) (σ' := (97, I, J, R)) rfl hd_7 ?_
    refine az_E.sn 6 (pc' := 91) (L' := [.ref 3, .retAddr 0, .int v2, .int v3, .int ((v4 * (1103515245 : Int32)) + (12345 : Int32)), .int v5, .int v6, .int v7, .retAddr 0]) (S' := [.int (10 : Int32), .int (((v4 * (1103515245 : Int32)) + (12345 : Int32)).toUInt32 >>> ((16 : Int32).toUInt32 &&& Int32.toUInt32 31)).toInt32, .int (((((v4 * (1103515245 : Int32)) + (12345 : Int32)).toUInt32 >>> ((8 : Int32).toUInt32 &&& Int32.toUInt32 31)).toInt32 - (((v4 * (1103515245 : Int32)) + (12345 : Int32)).toUInt32 >>> ((8 : Int32).toUInt32 &&& Int32.toUInt32 31)).toInt32 / (19 : Int32) * (19 : Int32)) + (-9 : Int32)), .ref 4, .ref 16, .ref 26]) (σ' := (97, I, J, R)) rfl ?_
    have hd_8 : ¬ ((10 : Int32) = 0) := by decide
    refine az_E.dv (c := (10 : Int32) = 0) (pc' := 92) (L' := [.ref 3, .retAddr 0, .int v2, .int v3, .int ((v4 * (1103515245 : Int32)) + (12345 : Int32)), .int v5, .int v6, .int v7, .retAddr 0]) (S' := [.int ((((v4 * (1103515245 : Int32)) + (12345 : Int32)).toUInt32 >>> ((16 : Int32).toUInt32 &&& Int32.toUInt32 31)).toInt32 - (((v4 * (1103515245 : Int32)) + (12345 : Int32)).toUInt32 >>> ((16 : Int32).toUInt32 &&& Int32.toUInt32 31)).toInt32 / (10 : Int32) * (10 : Int32)), .int (((((v4 * (1103515245 : Int32)) + (12345 : Int32)).toUInt32 >>> ((8 : Int32).toUInt32 &&& Int32.toUInt32 31)).toInt32 - (((v4 * (1103515245 : Int32)) + (12345 : Int32)).toUInt32 >>> ((8 : Int32).toUInt32 &&& Int32.toUInt32 31)).toInt32 / (19 : Int32) * (19 : Int32)) + (-9 : Int32)), .ref 4, .ref 16, .ref 26]) (σ' := (97, I, J, R)) rfl hd_8 ?_
    refine az_E.sn 1 (pc' := 93) (L' := [.ref 3, .retAddr 0, .int v2, .int v3, .int ((v4 * (1103515245 : Int32)) + (12345 : Int32)), .int v5, .int v6, .int v7, .retAddr 0]) (S' := [.int (5 : Int32), .int ((((v4 * (1103515245 : Int32)) + (12345 : Int32)).toUInt32 >>> ((16 : Int32).toUInt32 &&& Int32.toUInt32 31)).toInt32 - (((v4 * (1103515245 : Int32)) + (12345 : Int32)).toUInt32 >>> ((16 : Int32).toUInt32 &&& Int32.toUInt32 31)).toInt32 / (10 : Int32) * (10 : Int32)), .int (((((v4 * (1103515245 : Int32)) + (12345 : Int32)).toUInt32 >>> ((8 : Int32).toUInt32 &&& Int32.toUInt32 31)).toInt32 - (((v4 * (1103515245 : Int32)) + (12345 : Int32)).toUInt32 >>> ((8 : Int32).toUInt32 &&& Int32.toUInt32 31)).toInt32 / (19 : Int32) * (19 : Int32)) + (-9 : Int32)), .ref 4, .ref 16, .ref 26]) (σ' := (97, I, J, R)) rfl ?_
    cases hx_10 : rs_Pa_become 26 16 I (((((v4 * (1103515245 : Int32)) + (12345 : Int32)).toUInt32 >>> ((8 : Int32).toUInt32 &&& Int32.toUInt32 31)).toInt32 - (((v4 * (1103515245 : Int32)) + (12345 : Int32)).toUInt32 >>> ((8 : Int32).toUInt32 &&& Int32.toUInt32 31)).toInt32 / (19 : Int32) * (19 : Int32)) + (-9 : Int32)) ((((v4 * (1103515245 : Int32)) + (12345 : Int32)).toUInt32 >>> ((16 : Int32).toUInt32 &&& Int32.toUInt32 31)).toInt32 - (((v4 * (1103515245 : Int32)) + (12345 : Int32)).toUInt32 >>> ((16 : Int32).toUInt32 &&& Int32.toUInt32 31)).toInt32 / (10 : Int32) * (10 : Int32)) (5 : Int32) with
    | none => rw [hx_10] at h; cases h
    | some I_9 =>
      rw [hx_10] at h
      dsimp only at h
      refine az_E.call (d := 4) (k' := 43) (vs := [.ref 26, .ref 16, .ref 4, .int (((((v4 * (1103515245 : Int32)) + (12345 : Int32)).toUInt32 >>> ((8 : Int32).toUInt32 &&& Int32.toUInt32 31)).toInt32 - (((v4 * (1103515245 : Int32)) + (12345 : Int32)).toUInt32 >>> ((8 : Int32).toUInt32 &&& Int32.toUInt32 31)).toInt32 / (19 : Int32) * (19 : Int32)) + (-9 : Int32)), .int ((((v4 * (1103515245 : Int32)) + (12345 : Int32)).toUInt32 >>> ((16 : Int32).toUInt32 &&& Int32.toUInt32 31)).toInt32 - (((v4 * (1103515245 : Int32)) + (12345 : Int32)).toUInt32 >>> ((16 : Int32).toUInt32 &&& Int32.toUInt32 31)).toInt32 / (10 : Int32) * (10 : Int32)), .int (5 : Int32)]) (pc' := 96) (S' := []) (Q1 := fun v s => v = none ∧ s = (97, I_9, J, (az_u (az_u R 26 2 (some 16)) 26 3 (some 5)))) rfl (az_E.deep (by omega) (re_Pa_become_26_16 (J := J) (R := R)  hx_10 ⟨rfl, rfl⟩)) (fun v s hq => ?_)
      obtain ⟨rfl, rfl⟩ := hq
      show az_E az_F ex 5 111 96 [.ref 3, .retAddr 0, .int v2, .int v3, .int ((v4 * (1103515245 : Int32)) + (12345 : Int32)), .int v5, .int v6, .int v7, .retAddr 0] [] (97, I_9, J, (az_u (az_u R 26 2 (some 16)) 26 3 (some 5))) _
      refine az_E.sn 7 (pc' := 109) (L' := [.ref 3, .retAddr 0, .int v2, .int v3, .int ((v4 * (1103515245 : Int32)) + (12345 : Int32)), .int v5, .int v6, .int v7, .retAddr 0]) (S' := [.int (I_9 4 3), .int (((v4 * (1103515245 : Int32)) + (12345 : Int32)).toUInt32 >>> ((20 : Int32).toUInt32 &&& Int32.toUInt32 31)).toInt32, .ref 3]) (σ' := (97, I_9, J, (az_u (az_u R 26 2 (some 16)) 26 3 (some 5)))) rfl ?_
      by_cases hd_11 : (I_9 4 3) = 0
      · rw [if_pos hd_11] at h; cases h
      · rw [if_neg hd_11] at h
        refine az_E.dv (c := (I_9 4 3) = 0) (pc' := 110) (L' := [.ref 3, .retAddr 0, .int v2, .int v3, .int ((v4 * (1103515245 : Int32)) + (12345 : Int32)), .int v5, .int v6, .int v7, .retAddr 0]) (S' := [.int ((((v4 * (1103515245 : Int32)) + (12345 : Int32)).toUInt32 >>> ((20 : Int32).toUInt32 &&& Int32.toUInt32 31)).toInt32 - (((v4 * (1103515245 : Int32)) + (12345 : Int32)).toUInt32 >>> ((20 : Int32).toUInt32 &&& Int32.toUInt32 31)).toInt32 / (I_9 4 3) * (I_9 4 3)), .ref 3]) (σ' := (97, I_9, J, (az_u (az_u R 26 2 (some 16)) 26 3 (some 5)))) rfl hd_11 ?_
        cases hx_14 : rs_X_armAt I_9 ((((v4 * (1103515245 : Int32)) + (12345 : Int32)).toUInt32 >>> ((20 : Int32).toUInt32 &&& Int32.toUInt32 31)).toInt32 - (((v4 * (1103515245 : Int32)) + (12345 : Int32)).toUInt32 >>> ((20 : Int32).toUInt32 &&& Int32.toUInt32 31)).toInt32 / (I_9 4 3) * (I_9 4 3)) with
        | none => rw [hx_14] at h; cases h
        | some o =>
          rw [hx_14] at h
          obtain ⟨x_12, I_13⟩ := o
          dsimp only at h
          refine az_E.call (d := 4) (k' := 146) (vs := [.ref 3, .int ((((v4 * (1103515245 : Int32)) + (12345 : Int32)).toUInt32 >>> ((20 : Int32).toUInt32 &&& Int32.toUInt32 31)).toInt32 - (((v4 * (1103515245 : Int32)) + (12345 : Int32)).toUInt32 >>> ((20 : Int32).toUInt32 &&& Int32.toUInt32 31)).toInt32 / (I_9 4 3) * (I_9 4 3))]) (pc' := 113) (S' := []) (Q1 := fun v s => v = some (.int x_12) ∧ s = (97, I_13, J, (az_u (az_u R 26 2 (some 16)) 26 3 (some 5)))) rfl (az_E.deep (by omega) (re_X_armAt_5 (J := J) (R := (az_u (az_u R 26 2 (some 16)) 26 3 (some 5))) rfl hx_14 ⟨rfl, rfl⟩)) (fun v s hq => ?_)
          obtain ⟨rfl, rfl⟩ := hq
          show az_E az_F ex 5 111 113 [.ref 3, .retAddr 0, .int v2, .int v3, .int ((v4 * (1103515245 : Int32)) + (12345 : Int32)), .int v5, .int v6, .int v7, .retAddr 0] [.int x_12] (97, I_13, J, (az_u (az_u R 26 2 (some 16)) 26 3 (some 5))) _
          refine az_E.sn 6 (pc' := 124) (L' := [.ref 3, .retAddr 0, .int v2, .int v3, .int ((v4 * (1103515245 : Int32)) + (12345 : Int32)), .int (v5 + x_12), .int v6, .int v7, .int x_12]) (S' := [.int v7]) (σ' := (97, I_13, J, (az_u (az_u R 26 2 (some 16)) 26 3 (some 5)))) rfl ?_
          refine az_E.br (c := v7 = 0) (tt := 127) (ff := 132) (L' := [.ref 3, .retAddr 0, .int v2, .int v3, .int ((v4 * (1103515245 : Int32)) + (12345 : Int32)), .int (v5 + x_12), .int v6, .int v7, .int x_12]) (S' := []) (σ' := (97, I_13, J, (az_u (az_u R 26 2 (some 16)) 26 3 (some 5)))) rfl (fun hc_15 => ?_) (fun hc_15 => ?_)
          · rw [if_pos hc_15] at h
            refine az_E.sn 5 (pc' := 43) (L' := [.ref 3, .retAddr 0, .int v2, .int v3, .int ((v4 * (1103515245 : Int32)) + (12345 : Int32)), .int (v5 + x_12), .int x_12, .int (v7 + (1 : Int32)), .int x_12]) (S' := []) (σ' := (97, I_13, J, (az_u (az_u R 26 2 (some 16)) 26 3 (some 5)))) rfl ?_
            have h := Option.some.inj h
            subst h
            simp only [Sum.elim_inl, Sum.elim_inr] at hQ
            exact az_E.forget (L := [.ref 3, .retAddr 0, .int v2, .int v3, .int ((v4 * (1103515245 : Int32)) + (12345 : Int32)), .int (v5 + x_12), .int x_12, .int (v7 + (1 : Int32)), .retAddr 0]) ⟨rfl, trivial, rfl, rfl, rfl, rfl, rfl, rfl, trivial, trivial⟩ (hQ (az_u (az_u R 26 2 (some 16)) 26 3 (some 5)) hR_3_2 hR_3_3)
          · rw [if_neg hc_15] at h
            refine az_E.sn 6 (pc' := 43) (L' := [.ref 3, .retAddr 0, .int v2, .int v3, .int ((v4 * (1103515245 : Int32)) + (12345 : Int32)), .int (v5 + x_12), .int (if x_12 < v6 then x_12 else v6), .int (v7 + (1 : Int32)), .int x_12]) (S' := []) (σ' := (97, I_13, J, (az_u (az_u R 26 2 (some 16)) 26 3 (some 5)))) rfl ?_
            have h := Option.some.inj h
            subst h
            simp only [Sum.elim_inl, Sum.elim_inr] at hQ
            exact az_E.forget (L := [.ref 3, .retAddr 0, .int v2, .int v3, .int ((v4 * (1103515245 : Int32)) + (12345 : Int32)), .int (v5 + x_12), .int (if x_12 < v6 then x_12 else v6), .int (v7 + (1 : Int32)), .retAddr 0]) ⟨rfl, trivial, rfl, rfl, rfl, rfl, rfl, rfl, trivial, trivial⟩ (hQ (az_u (az_u R 26 2 (some 16)) 26 3 (some 5)) hR_3_2 hR_3_3)
set_option maxRecDepth 100000 in
set_option maxHeartbeats 4000000 in
theorem re_X_drawn_43_16_21 {ex : az_X} {I : Nat → Nat → Int32} {J : Nat → Nat → Int64} {R : Nat → Nat → Option Nat} {v2 : Int32} {v3 : Int32} {v4 : Int32} {v5 : Int32} {v6 : Int32} {v7 : Int32} (hR_3_2 : R 3 2 = some 16) (hR_3_3 : R 3 3 = some 21) {x : Int32 × (Nat → Nat → Int32)} (h : rs_X_drawn_43 21 16 I v2 v3 v4 v5 v6 v7 = some x) {Q : Option Value → az_S → Prop} (hQ : ∀ R' : Nat → Nat → Option Nat, R' 3 2 = some 16 → R' 3 3 = some 21 → Q (some (.int x.1)) (97, x.2, J, R')) : az_E az_F ex 5 111 43 [.ref 3, .retAddr 0, .int v2, .int v3, .int v4, .int v5, .int v6, .int v7, .retAddr 0] [] (97, I, J, R) Q := by
  unfold rs_X_drawn_43 at h
  refine az_lp_E (G := fun s => ∀ R : Nat → Nat → Option Nat, R 3 2 = some 16 → R 3 3 = some 21 → az_E az_F ex 5 111 43 [.ref 3, .retAddr 0, .int v2, .int v3, .int s.1, .int s.2.1, .int s.2.2.1, .int s.2.2.2.1, .retAddr 0] [] (97, s.2.2.2.2, J, R) Q) (H := fun x => ∀ R' : Nat → Nat → Option Nat, R' 3 2 = some 16 → R' 3 3 = some 21 → Q (some (.int x.1)) (97, x.2, J, R')) (fun s o hb ho => fun R hR_3_2 hR_3_3 => ?_) _ _ _ h hQ R hR_3_2 hR_3_3
  exact re_X_drawn_43_b_16_21 hR_3_2 hR_3_3 hb ho
set_option maxRecDepth 100000 in
set_option maxHeartbeats 4000000 in
theorem re_X_drawn_16_21 {ex : az_X} {I : Nat → Nat → Int32} {J : Nat → Nat → Int64} {R : Nat → Nat → Option Nat} {a1 : Int32} {a2 : Int32} {a3 : Int32} (hR_3_2 : R 3 2 = some 16) (hR_3_3 : R 3 3 = some 21) {o : Int32 × (Nat → Nat → Int32)} (h : rs_X_drawn 21 16 I a1 a2 a3 = some o) {Q : Option Value → az_S → Prop} (hQ : ∀ R' : Nat → Nat → Option Nat, R' 3 2 = some 16 → R' 3 3 = some 21 → Q (some (.int o.1)) (97, o.2, J, R')) : az_E az_F ex 5 111 0 [.ref 3, .int a1, .int a2, .int a3, .retAddr 0, .retAddr 0, .retAddr 0, .retAddr 0, .retAddr 0] [] (97, I, J, R) Q := by
  unfold rs_X_drawn at h
  refine az_E.sn 3 (pc' := 4) (L' := [.ref 3, .int a1, .int a2, .int a3, .retAddr 0, .retAddr 0, .retAddr 0, .retAddr 0, .retAddr 0]) (S' := [.int (50 : Int32), .int (1 : Int32), .int a2]) (σ' := (97, I, J, R)) rfl ?_
  refine az_E.call (d := 4) (k' := 131) (vs := [.int a2, .int (1 : Int32), .int (50 : Int32)]) (pc' := 7) (S' := []) rfl ?_ (fun _ _ hq => hq)
  show az_E az_F ex 4 131 0 [.int a2, .int (1 : Int32), .int (50 : Int32)] [] (97, I, J, R) _
  refine az_E.sn 2 (pc' := 2) (L' := [.int a2, .int (1 : Int32), .int (50 : Int32)]) (S' := [.int (1 : Int32), .int a2]) (σ' := (97, I, J, R)) rfl ?_
  refine az_E.br (c := a2 < (1 : Int32)) (tt := 14) (ff := 5) (L' := [.int a2, .int (1 : Int32), .int (50 : Int32)]) (S' := []) (σ' := (97, I, J, R)) rfl (fun hc_1 => ?_) (fun hc_1 => ?_)
  · rw [if_pos hc_1] at h
    refine az_E.sn 1 (pc' := 15) (L' := [.int a2, .int (1 : Int32), .int (50 : Int32)]) (S' := [.int (0 : Int32)]) (σ' := (97, I, J, R)) rfl ?_
    refine az_E.ret (v := some (.int (0 : Int32))) (σ' := (97, I, J, R)) rfl ?_
    show az_E az_F ex 5 111 7 [.ref 3, .int a1, .int a2, .int a3, .retAddr 0, .retAddr 0, .retAddr 0, .retAddr 0, .retAddr 0] [.int (0 : Int32)] (97, I, J, R) _
    refine az_E.br (c := (0 : Int32) = 0) (tt := 17) (ff := 10) (L' := [.ref 3, .int a1, .int a2, .int a3, .retAddr 0, .retAddr 0, .retAddr 0, .retAddr 0, .retAddr 0]) (S' := []) (σ' := (97, I, J, R)) rfl (fun _ => ?_) (fun hn => absurd (by decide) hn)
    refine az_E.sn 1 (pc' := 18) (L' := [.ref 3, .int a1, .int a2, .int a3, .retAddr 0, .retAddr 0, .retAddr 0, .retAddr 0, .retAddr 0]) (S' := [.int (-1 : Int32)]) (σ' := (97, I, J, R)) rfl ?_
    have h := Option.some.inj h
    subst h
    exact az_E.ret (v := some (.int (-1 : Int32))) (σ' := (97, I, J, R)) rfl (hQ _ hR_3_2 hR_3_3)
  · rw [if_neg hc_1] at h
    refine az_E.sn 2 (pc' := 7) (L' := [.int a2, .int (1 : Int32), .int (50 : Int32)]) (S' := [.int (50 : Int32), .int a2]) (σ' := (97, I, J, R)) rfl ?_
    refine az_E.br (c := (50 : Int32) < a2) (tt := 14) (ff := 10) (L' := [.int a2, .int (1 : Int32), .int (50 : Int32)]) (S' := []) (σ' := (97, I, J, R)) rfl (fun hc_2 => ?_) (fun hc_2 => ?_)
    · rw [if_pos hc_2] at h
      refine az_E.sn 1 (pc' := 15) (L' := [.int a2, .int (1 : Int32), .int (50 : Int32)]) (S' := [.int (0 : Int32)]) (σ' := (97, I, J, R)) rfl ?_
      refine az_E.ret (v := some (.int (0 : Int32))) (σ' := (97, I, J, R)) rfl ?_
      show az_E az_F ex 5 111 7 [.ref 3, .int a1, .int a2, .int a3, .retAddr 0, .retAddr 0, .retAddr 0, .retAddr 0, .retAddr 0] [.int (0 : Int32)] (97, I, J, R) _
      refine az_E.br (c := (0 : Int32) = 0) (tt := 17) (ff := 10) (L' := [.ref 3, .int a1, .int a2, .int a3, .retAddr 0, .retAddr 0, .retAddr 0, .retAddr 0, .retAddr 0]) (S' := []) (σ' := (97, I, J, R)) rfl (fun _ => ?_) (fun hn => absurd (by decide) hn)
      refine az_E.sn 1 (pc' := 18) (L' := [.ref 3, .int a1, .int a2, .int a3, .retAddr 0, .retAddr 0, .retAddr 0, .retAddr 0, .retAddr 0]) (S' := [.int (-1 : Int32)]) (σ' := (97, I, J, R)) rfl ?_
      have h := Option.some.inj h
      subst h
      exact az_E.ret (v := some (.int (-1 : Int32))) (σ' := (97, I, J, R)) rfl (hQ _ hR_3_2 hR_3_3)
    · rw [if_neg hc_2] at h
      refine az_E.sn 2 (pc' := 15) (L' := [.int a2, .int (1 : Int32), .int (50 : Int32)]) (S' := [.int (1 : Int32)]) (σ' := (97, I, J, R)) rfl ?_
      refine az_E.ret (v := some (.int (1 : Int32))) (σ' := (97, I, J, R)) rfl ?_
      show az_E az_F ex 5 111 7 [.ref 3, .int a1, .int a2, .int a3, .retAddr 0, .retAddr 0, .retAddr 0, .retAddr 0, .retAddr 0] [.int (1 : Int32)] (97, I, J, R) _
      refine az_E.br (c := (1 : Int32) = 0) (tt := 17) (ff := 10) (L' := [.ref 3, .int a1, .int a2, .int a3, .retAddr 0, .retAddr 0, .retAddr 0, .retAddr 0, .retAddr 0]) (S' := []) (σ' := (97, I, J, R)) rfl (fun hn => absurd hn (by decide)) (fun _ => ?_)
      refine az_E.sn 1 (pc' := 11) (L' := [.ref 3, .int a1, .int a2, .int a3, .retAddr 0, .retAddr 0, .retAddr 0, .retAddr 0, .retAddr 0]) (S' := [.int a3]) (σ' := (97, I, J, R)) rfl ?_
      refine az_E.call (d := 4) (k' := 132) (vs := [.int a3]) (pc' := 14) (S' := []) rfl ?_ (fun _ _ hq => hq)
      show az_E az_F ex 4 132 0 [.int a3] [] (97, I, J, R) _
      refine az_E.sn 1 (pc' := 1) (L' := [.int a3]) (S' := [.int a3]) (σ' := (97, I, J, R)) rfl ?_
      refine az_E.br (c := a3 = 0) (tt := 9) (ff := 4) (L' := [.int a3]) (S' := []) (σ' := (97, I, J, R)) rfl (fun hc_3 => ?_) (fun hc_3 => ?_)
      · rw [if_pos hc_3] at h
        refine az_E.sn 2 (pc' := 14) (L' := [.int a3]) (S' := [.int (1 : Int32)]) (σ' := (97, I, J, R)) rfl ?_
        refine az_E.ret (v := some (.int (1 : Int32))) (σ' := (97, I, J, R)) rfl ?_
        show az_E az_F ex 5 111 14 [.ref 3, .int a1, .int a2, .int a3, .retAddr 0, .retAddr 0, .retAddr 0, .retAddr 0, .retAddr 0] [.int (1 : Int32)] (97, I, J, R) _
        refine az_E.br (c := (1 : Int32) = 0) (tt := 17) (ff := 19) (L' := [.ref 3, .int a1, .int a2, .int a3, .retAddr 0, .retAddr 0, .retAddr 0, .retAddr 0, .retAddr 0]) (S' := []) (σ' := (97, I, J, R)) rfl (fun hn => absurd hn (by decide)) (fun _ => ?_)
        refine az_E.sn 3 (pc' := 26) (L' := [.ref 3, .int a1, .int a2, .int a3, .retAddr 0, .retAddr 0, .retAddr 0, .retAddr 0, .retAddr 0]) (S' := [.int (I 4 3)]) (σ' := (97, I, J, R)) rfl ?_
        refine az_E.br (c := 0 < (I 4 3)) (tt := 31) (ff := 29) (L' := [.ref 3, .int a1, .int a2, .int a3, .retAddr 0, .retAddr 0, .retAddr 0, .retAddr 0, .retAddr 0]) (S' := []) (σ' := (97, I, J, R)) rfl (fun hc_4 => ?_) (fun hc_4 => ?_)
        · rw [if_pos hc_4] at h
          refine az_E.sn 8 (pc' := 43) (L' := [.ref 3, .int a1, .int a2, .int a3, .int a1, .int (0 : Int32), .int (0 : Int32), .int (0 : Int32), .retAddr 0]) (S' := []) (σ' := (97, I, J, R)) rfl ?_
          exact az_E.forget (L := [.ref 3, .retAddr 0, .int a2, .int a3, .int a1, .int (0 : Int32), .int (0 : Int32), .int (0 : Int32), .retAddr 0]) ⟨rfl, trivial, rfl, rfl, rfl, rfl, rfl, rfl, trivial, trivial⟩ (re_X_drawn_43_16_21 (I := I) (J := J) (R := R) hR_3_2 hR_3_3 h hQ)
        · rw [if_neg hc_4] at h
          refine az_E.sn 1 (pc' := 30) (L' := [.ref 3, .int a1, .int a2, .int a3, .retAddr 0, .retAddr 0, .retAddr 0, .retAddr 0, .retAddr 0]) (S' := [.int (0 : Int32)]) (σ' := (97, I, J, R)) rfl ?_
          have h := Option.some.inj h
          subst h
          exact az_E.ret (v := some (.int (0 : Int32))) (σ' := (97, I, J, R)) rfl (hQ _ hR_3_2 hR_3_3)
      · rw [if_neg hc_3] at h
        refine az_E.sn 2 (pc' := 6) (L' := [.int a3]) (S' := [.int (1 : Int32), .int a3]) (σ' := (97, I, J, R)) rfl ?_
        refine az_E.br (c := a3 = (1 : Int32)) (tt := 9) (ff := 13) (L' := [.int a3]) (S' := []) (σ' := (97, I, J, R)) rfl (fun hc_16 => ?_) (fun hc_16 => ?_)
        · rw [if_pos hc_16] at h
          refine az_E.sn 2 (pc' := 14) (L' := [.int a3]) (S' := [.int (1 : Int32)]) (σ' := (97, I, J, R)) rfl ?_
          refine az_E.ret (v := some (.int (1 : Int32))) (σ' := (97, I, J, R)) rfl ?_
          show az_E az_F ex 5 111 14 [.ref 3, .int a1, .int a2, .int a3, .retAddr 0, .retAddr 0, .retAddr 0, .retAddr 0, .retAddr 0] [.int (1 : Int32)] (97, I, J, R) _
          refine az_E.br (c := (1 : Int32) = 0) (tt := 17) (ff := 19) (L' := [.ref 3, .int a1, .int a2, .int a3, .retAddr 0, .retAddr 0, .retAddr 0, .retAddr 0, .retAddr 0]) (S' := []) (σ' := (97, I, J, R)) rfl (fun hn => absurd hn (by decide)) (fun _ => ?_)
          refine az_E.sn 3 (pc' := 26) (L' := [.ref 3, .int a1, .int a2, .int a3, .retAddr 0, .retAddr 0, .retAddr 0, .retAddr 0, .retAddr 0]) (S' := [.int (I 4 3)]) (σ' := (97, I, J, R)) rfl ?_
          refine az_E.br (c := 0 < (I 4 3)) (tt := 31) (ff := 29) (L' := [.ref 3, .int a1, .int a2, .int a3, .retAddr 0, .retAddr 0, .retAddr 0, .retAddr 0, .retAddr 0]) (S' := []) (σ' := (97, I, J, R)) rfl (fun hc_17 => ?_) (fun hc_17 => ?_)
          · rw [if_pos hc_17] at h
            refine az_E.sn 8 (pc' := 43) (L' := [.ref 3, .int a1, .int a2, .int a3, .int a1, .int (0 : Int32), .int (0 : Int32), .int (0 : Int32), .retAddr 0]) (S' := []) (σ' := (97, I, J, R)) rfl ?_
            exact az_E.forget (L := [.ref 3, .retAddr 0, .int a2, .int a3, .int a1, .int (0 : Int32), .int (0 : Int32), .int (0 : Int32), .retAddr 0]) ⟨rfl, trivial, rfl, rfl, rfl, rfl, rfl, rfl, trivial, trivial⟩ (re_X_drawn_43_16_21 (I := I) (J := J) (R := R) hR_3_2 hR_3_3 h hQ)
          · rw [if_neg hc_17] at h
            refine az_E.sn 1 (pc' := 30) (L' := [.ref 3, .int a1, .int a2, .int a3, .retAddr 0, .retAddr 0, .retAddr 0, .retAddr 0, .retAddr 0]) (S' := [.int (0 : Int32)]) (σ' := (97, I, J, R)) rfl ?_
            have h := Option.some.inj h
            subst h
            exact az_E.ret (v := some (.int (0 : Int32))) (σ' := (97, I, J, R)) rfl (hQ _ hR_3_2 hR_3_3)
        · rw [if_neg hc_16] at h
          refine az_E.sn 1 (pc' := 14) (L' := [.int a3]) (S' := [.int (0 : Int32)]) (σ' := (97, I, J, R)) rfl ?_
          refine az_E.ret (v := some (.int (0 : Int32))) (σ' := (97, I, J, R)) rfl ?_
          show az_E az_F ex 5 111 14 [.ref 3, .int a1, .int a2, .int a3, .retAddr 0, .retAddr 0, .retAddr 0, .retAddr 0, .retAddr 0] [.int (0 : Int32)] (97, I, J, R) _
          refine az_E.br (c := (0 : Int32) = 0) (tt := 17) (ff := 19) (L' := [.ref 3, .int a1, .int a2, .int a3, .retAddr 0, .retAddr 0, .retAddr 0, .retAddr 0, .retAddr 0]) (S' := []) (σ' := (97, I, J, R)) rfl (fun _ => ?_) (fun hn => absurd (by decide) hn)
          refine az_E.sn 1 (pc' := 18) (L' := [.ref 3, .int a1, .int a2, .int a3, .retAddr 0, .retAddr 0, .retAddr 0, .retAddr 0, .retAddr 0]) (S' := [.int (-1 : Int32)]) (σ' := (97, I, J, R)) rfl ?_
          have h := Option.some.inj h
          subst h
          exact az_E.ret (v := some (.int (-1 : Int32))) (σ' := (97, I, J, R)) rfl (hQ _ hR_3_2 hR_3_3)
set_option maxRecDepth 100000 in
set_option maxHeartbeats 4000000 in
theorem re_M_drawn_139 {ex : az_X} {I : Nat → Nat → Int32} {J : Nat → Nat → Int64} {R : Nat → Nat → Option Nat} {v3 : Int32} {v5 : Int32} {v6 : Int32} {x : Int32 × (Nat → Nat → Int32)} (h : rs_M_drawn_139 I v3 v5 v6 = some x) {Q : Option Value → az_S → Prop} (hQ : Q (some (.int x.1)) (97, x.2, J, R)) : az_E az_F ex 124 226 139 [.retAddr 0, .retAddr 0, .retAddr 0, .int v3, .retAddr 0, .int v5, .int v6, .retAddr 0, .retAddr 0] [] (97, I, J, R) Q := by
  unfold rs_M_drawn_139 at h
  refine az_E.sn 1 (pc' := 140) (L' := [.retAddr 0, .retAddr 0, .retAddr 0, .int v3, .retAddr 0, .int v5, .int v6, .retAddr 0, .retAddr 0]) (S' := [.int v3]) (σ' := (97, I, J, R)) rfl ?_
  refine az_E.br (c := v3 = 0) (tt := 143) (ff := 148) (L' := [.retAddr 0, .retAddr 0, .retAddr 0, .int v3, .retAddr 0, .int v5, .int v6, .retAddr 0, .retAddr 0]) (S' := []) (σ' := (97, I, J, R)) rfl (fun hc_6 => ?_) (fun hc_6 => ?_)
  · rw [if_pos hc_6] at h
    refine az_E.sn 2 (pc' := 161) (L' := [.retAddr 0, .retAddr 0, .retAddr 0, .int v3, .retAddr 0, .int v5, .int v6, .retAddr 0, .retAddr 0]) (S' := [.int v5]) (σ' := (97, I, J, R)) rfl ?_
    have h := Option.some.inj h
    subst h
    exact az_E.ret (v := some (.int v5)) (σ' := (97, I, J, R)) rfl hQ
  · rw [if_neg hc_6] at h
    refine az_E.sn 2 (pc' := 152) (L' := [.retAddr 0, .retAddr 0, .retAddr 0, .int v3, .retAddr 0, .int v5, .int v6, .retAddr 0, .retAddr 0]) (S' := [.int (1000000 : Int32), .int v6]) (σ' := (97, I, J, R)) rfl ?_
    refine az_E.br (c := v6 = (1000000 : Int32)) (tt := 155) (ff := 159) (L' := [.retAddr 0, .retAddr 0, .retAddr 0, .int v3, .retAddr 0, .int v5, .int v6, .retAddr 0, .retAddr 0]) (S' := []) (σ' := (97, I, J, R)) rfl (fun hc_7 => ?_) (fun hc_7 => ?_)
    · rw [if_pos hc_7] at h
      refine az_E.sn 2 (pc' := 161) (L' := [.retAddr 0, .retAddr 0, .retAddr 0, .int v3, .retAddr 0, .int v5, .int v6, .retAddr 0, .retAddr 0]) (S' := [.int (0 : Int32)]) (σ' := (97, I, J, R)) rfl ?_
      have h := Option.some.inj h
      subst h
      exact az_E.ret (v := some (.int (0 : Int32))) (σ' := (97, I, J, R)) rfl hQ
    · rw [if_neg hc_7] at h
      refine az_E.sn 1 (pc' := 161) (L' := [.retAddr 0, .retAddr 0, .retAddr 0, .int v3, .retAddr 0, .int v5, .int v6, .retAddr 0, .retAddr 0]) (S' := [.int v6]) (σ' := (97, I, J, R)) rfl ?_
      have h := Option.some.inj h
      subst h
      exact az_E.ret (v := some (.int v6)) (σ' := (97, I, J, R)) rfl hQ
set_option maxRecDepth 100000 in
set_option maxHeartbeats 4000000 in
theorem re_M_drawn_37_b {ex : az_X} {I : Nat → Nat → Int32} {J : Nat → Nat → Int64} {R : Nat → Nat → Option Nat} {v2 : Int32} {v3 : Int32} {v4 : Int32} {v5 : Int32} {v6 : Int32} {v7 : Int32} {x : ((Int32 × Int32 × Int32 × Int32 × (Nat → Nat → Int32)) ⊕ (Int32 × (Nat → Nat → Int32)))} (h : rs_M_drawn_37_b v2 v3 v4 v5 v6 v7 I = some x) {Q : Option Value → az_S → Prop} (hQ : Sum.elim (fun s => az_E az_F ex 124 226 37 [.ref 73, .retAddr 0, .int v2, .int v3, .int s.1, .int s.2.1, .int s.2.2.1, .int s.2.2.2.1, .retAddr 0] [] (97, s.2.2.2.2, J, R) Q) (fun x => Q (some (.int x.1)) (97, x.2, J, R)) x) : az_E az_F ex 124 226 37 [.ref 73, .retAddr 0, .int v2, .int v3, .int v4, .int v5, .int v6, .int v7, .retAddr 0] [] (97, I, J, R) Q := by
  unfold rs_M_drawn_37_b at h
  refine az_E.sn 2 (pc' := 40) (L' := [.ref 73, .retAddr 0, .int v2, .int v3, .int v4, .int v5, .int v6, .int v7, .retAddr 0]) (S' := [.int v2, .int v7]) (σ' := (97, I, J, R)) rfl ?_
  refine az_E.br (c := v2 ≤ v7) (tt := 139) (ff := 43) (L' := [.ref 73, .retAddr 0, .int v2, .int v3, .int v4, .int v5, .int v6, .int v7, .retAddr 0]) (S' := []) (σ' := (97, I, J, R)) rfl (fun hc_5 => ?_) (fun hc_5 => ?_)
  · rw [if_pos hc_5] at h
    obtain ⟨x, hx, rfl⟩ := Option.map_eq_some_iff.mp h
    exact az_E.forget (L := [.retAddr 0, .retAddr 0, .retAddr 0, .int v3, .retAddr 0, .int v5, .int v6, .retAddr 0, .retAddr 0]) ⟨trivial, trivial, trivial, rfl, trivial, rfl, rfl, trivial, trivial, trivial⟩ (re_M_drawn_139 (I := I) (J := J) (R := R)  hx hQ)
  · rw [if_neg hc_5] at h
    refine az_E.sn 2 (pc' := 47) (L' := [.ref 73, .retAddr 0, .int v2, .int v3, .int v4, .int v5, .int v6, .int v7, .retAddr 0]) (S' := [.int (I 73 6)]) (σ' := (97, I, J, R)) rfl ?_
    refine az_E.br (c := (I 73 6) ≤ 0) (tt := 139) (ff := 50) (L' := [.ref 73, .retAddr 0, .int v2, .int v3, .int v4, .int v5, .int v6, .int v7, .retAddr 0]) (S' := []) (σ' := (97, I, J, R)) rfl (fun hc_8 => ?_) (fun hc_8 => ?_)
    · rw [if_pos hc_8] at h
      obtain ⟨x, hx, rfl⟩ := Option.map_eq_some_iff.mp h
      exact az_E.forget (L := [.retAddr 0, .retAddr 0, .retAddr 0, .int v3, .retAddr 0, .int v5, .int v6, .retAddr 0, .retAddr 0]) ⟨trivial, trivial, trivial, rfl, trivial, rfl, rfl, trivial, trivial, trivial⟩ (re_M_drawn_139 (I := I) (J := J) (R := R)  hx hQ)
    · rw [if_neg hc_8] at h
      refine az_E.sn 11 (pc' := 70) (L' := [.ref 73, .retAddr 0, .int v2, .int v3, .int ((v4 * (1103515245 : Int32)) + (12345 : Int32)), .int v5, .int v6, .int v7, .retAddr 0]) (S' := [.int (19 : Int32), .int (((v4 * (1103515245 : Int32)) + (12345 : Int32)).toUInt32 >>> ((8 : Int32).toUInt32 &&& Int32.toUInt32 31)).toInt32, .ref 73]) (σ' := (97, I, J, R)) rfl ?_
      have hd_9 : ¬ ((19 : Int32) = 0) := by decide
      refine az_E.dv (c := (19 : Int32) = 0) (pc' := 71) (L' := [.ref 73, .retAddr 0, .int v2, .int v3, .int ((v4 * (1103515245 : Int32)) + (12345 : Int32)), .int v5, .int v6, .int v7, .retAddr 0]) (S' := [.int ((((v4 * (1103515245 : Int32)) + (12345 : Int32)).toUInt32 >>> ((8 : Int32).toUInt32 &&& Int32.toUInt32 31)).toInt32 - (((v4 * (1103515245 : Int32)) + (12345 : Int32)).toUInt32 >>> ((8 : Int32).toUInt32 &&& Int32.toUInt32 31)).toInt32 / (19 : Int32) * (19 : Int32)), .ref 73]) (σ' := (97, I, J, R)) rfl hd_9 ?_
      refine az_E.sn 6 (pc' := 81) (L' := [.ref 73, .retAddr 0, .int v2, .int v3, .int ((v4 * (1103515245 : Int32)) + (12345 : Int32)), .int v5, .int v6, .int v7, .retAddr 0]) (S' := [.int (10 : Int32), .int (((v4 * (1103515245 : Int32)) + (12345 : Int32)).toUInt32 >>> ((16 : Int32).toUInt32 &&& Int32.toUInt32 31)).toInt32, .int (((((v4 * (1103515245 : Int32)) + (12345 : Int32)).toUInt32 >>> ((8 : Int32).toUInt32 &&& Int32.toUInt32 31)).toInt32 - (((v4 * (1103515245 : Int32)) + (12345 : Int32)).toUInt32 >>> ((8 : Int32).toUInt32 &&& Int32.toUInt32 31)).toInt32 / (19 : Int32) * (19 : Int32)) - (9 : Int32)), .ref 73]) (σ' := (97, I, J, R)) rfl ?_
      have hd_10 : ¬ ((10 : Int32) = 0) := by decide
      refine az_E.dv (c := (10 : Int32) = 0) (pc' := 82) (L' := [.ref 73, .retAddr 0, .int v2, .int v3, .int ((v4 * (1103515245 : Int32)) + (12345 : Int32)), .int v5, .int v6, .int v7, .retAddr 0]) (S' := [.int ((((v4 * (1103515245 : Int32)) + (12345 : Int32)).toUInt32 >>> ((16 : Int32).toUInt32 &&& Int32.toUInt32 31)).toInt32 - (((v4 * (1103515245 : Int32)) + (12345 : Int32)).toUInt32 >>> ((16 : Int32).toUInt32 &&& Int32.toUInt32 31)).toInt32 / (10 : Int32) * (10 : Int32)), .int (((((v4 * (1103515245 : Int32)) + (12345 : Int32)).toUInt32 >>> ((8 : Int32).toUInt32 &&& Int32.toUInt32 31)).toInt32 - (((v4 * (1103515245 : Int32)) + (12345 : Int32)).toUInt32 >>> ((8 : Int32).toUInt32 &&& Int32.toUInt32 31)).toInt32 / (19 : Int32) * (19 : Int32)) - (9 : Int32)), .ref 73]) (σ' := (97, I, J, R)) rfl hd_10 ?_
      refine az_E.sn 4 (pc' := 90) (L' := [.ref 73, .retAddr 0, .int v2, .int v3, .int ((v4 * (1103515245 : Int32)) + (12345 : Int32)), .int v5, .int v6, .int v7, .retAddr 0]) (S' := [.int (178 : Int32), .ref 74, .int (5 : Int32), .int ((((v4 * (1103515245 : Int32)) + (12345 : Int32)).toUInt32 >>> ((16 : Int32).toUInt32 &&& Int32.toUInt32 31)).toInt32 - (((v4 * (1103515245 : Int32)) + (12345 : Int32)).toUInt32 >>> ((16 : Int32).toUInt32 &&& Int32.toUInt32 31)).toInt32 / (10 : Int32) * (10 : Int32)), .int (((((v4 * (1103515245 : Int32)) + (12345 : Int32)).toUInt32 >>> ((8 : Int32).toUInt32 &&& Int32.toUInt32 31)).toInt32 - (((v4 * (1103515245 : Int32)) + (12345 : Int32)).toUInt32 >>> ((8 : Int32).toUInt32 &&& Int32.toUInt32 31)).toInt32 / (19 : Int32) * (19 : Int32)) - (9 : Int32)), .ref 73]) (σ' := (97, I, J, R)) rfl ?_
      refine az_E.oi (o := az_ai az_F ex (97, I, J, R) 74 (178 : Int32)) (pc' := 91) (L' := [.ref 73, .retAddr 0, .int v2, .int v3, .int ((v4 * (1103515245 : Int32)) + (12345 : Int32)), .int v5, .int v6, .int v7, .retAddr 0]) (S' := [.int (5 : Int32), .int ((((v4 * (1103515245 : Int32)) + (12345 : Int32)).toUInt32 >>> ((16 : Int32).toUInt32 &&& Int32.toUInt32 31)).toInt32 - (((v4 * (1103515245 : Int32)) + (12345 : Int32)).toUInt32 >>> ((16 : Int32).toUInt32 &&& Int32.toUInt32 31)).toInt32 / (10 : Int32) * (10 : Int32)), .int (((((v4 * (1103515245 : Int32)) + (12345 : Int32)).toUInt32 >>> ((8 : Int32).toUInt32 &&& Int32.toUInt32 31)).toInt32 - (((v4 * (1103515245 : Int32)) + (12345 : Int32)).toUInt32 >>> ((8 : Int32).toUInt32 &&& Int32.toUInt32 31)).toInt32 / (19 : Int32) * (19 : Int32)) - (9 : Int32)), .ref 73]) (σ' := (97, I, J, R)) (x := (I 74 178)) rfl rfl ?_
      cases hx_13 : rs_M_asksSteps I (((((v4 * (1103515245 : Int32)) + (12345 : Int32)).toUInt32 >>> ((8 : Int32).toUInt32 &&& Int32.toUInt32 31)).toInt32 - (((v4 * (1103515245 : Int32)) + (12345 : Int32)).toUInt32 >>> ((8 : Int32).toUInt32 &&& Int32.toUInt32 31)).toInt32 / (19 : Int32) * (19 : Int32)) - (9 : Int32)) ((((v4 * (1103515245 : Int32)) + (12345 : Int32)).toUInt32 >>> ((16 : Int32).toUInt32 &&& Int32.toUInt32 31)).toInt32 - (((v4 * (1103515245 : Int32)) + (12345 : Int32)).toUInt32 >>> ((16 : Int32).toUInt32 &&& Int32.toUInt32 31)).toInt32 / (10 : Int32) * (10 : Int32)) (5 : Int32) (I 74 178) with
      | none => rw [hx_13] at h; cases h
      | some I_12 =>
        rw [hx_13] at h
        dsimp only at h
        refine az_E.call (d := 123) (k' := 189) (vs := [.ref 73, .int (((((v4 * (1103515245 : Int32)) + (12345 : Int32)).toUInt32 >>> ((8 : Int32).toUInt32 &&& Int32.toUInt32 31)).toInt32 - (((v4 * (1103515245 : Int32)) + (12345 : Int32)).toUInt32 >>> ((8 : Int32).toUInt32 &&& Int32.toUInt32 31)).toInt32 / (19 : Int32) * (19 : Int32)) - (9 : Int32)), .int ((((v4 * (1103515245 : Int32)) + (12345 : Int32)).toUInt32 >>> ((16 : Int32).toUInt32 &&& Int32.toUInt32 31)).toInt32 - (((v4 * (1103515245 : Int32)) + (12345 : Int32)).toUInt32 >>> ((16 : Int32).toUInt32 &&& Int32.toUInt32 31)).toInt32 / (10 : Int32) * (10 : Int32)), .int (5 : Int32), .int (I 74 178)]) (pc' := 94) (S' := []) (Q1 := fun v s => v = none ∧ s = (97, I_12, J, R)) rfl (az_E.deep (by omega) (re_M_asksSteps (J := J) (R := R)  hx_13 ⟨rfl, rfl⟩)) (fun v s hq => ?_)
        obtain ⟨rfl, rfl⟩ := hq
        show az_E az_F ex 124 226 94 [.ref 73, .retAddr 0, .int v2, .int v3, .int ((v4 * (1103515245 : Int32)) + (12345 : Int32)), .int v5, .int v6, .int v7, .retAddr 0] [] (97, I_12, J, R) _
        refine az_E.sn 6 (pc' := 104) (L' := [.ref 73, .retAddr 0, .int v2, .int v3, .int ((v4 * (1103515245 : Int32)) + (12345 : Int32)), .int v5, .int v6, .int v7, .retAddr 0]) (S' := [.int (I_12 73 6), .int (((v4 * (1103515245 : Int32)) + (12345 : Int32)).toUInt32 >>> ((20 : Int32).toUInt32 &&& Int32.toUInt32 31)).toInt32, .ref 73]) (σ' := (97, I_12, J, R)) rfl ?_
        by_cases hd_14 : (I_12 73 6) = 0
        · rw [if_pos hd_14] at h; cases h
        · rw [if_neg hd_14] at h
          refine az_E.dv (c := (I_12 73 6) = 0) (pc' := 105) (L' := [.ref 73, .retAddr 0, .int v2, .int v3, .int ((v4 * (1103515245 : Int32)) + (12345 : Int32)), .int v5, .int v6, .int v7, .retAddr 0]) (S' := [.int ((((v4 * (1103515245 : Int32)) + (12345 : Int32)).toUInt32 >>> ((20 : Int32).toUInt32 &&& Int32.toUInt32 31)).toInt32 - (((v4 * (1103515245 : Int32)) + (12345 : Int32)).toUInt32 >>> ((20 : Int32).toUInt32 &&& Int32.toUInt32 31)).toInt32 / (I_12 73 6) * (I_12 73 6)), .ref 73]) (σ' := (97, I_12, J, R)) rfl hd_14 ?_
          cases hx_17 : rs_M_armFor I_12 ((((v4 * (1103515245 : Int32)) + (12345 : Int32)).toUInt32 >>> ((20 : Int32).toUInt32 &&& Int32.toUInt32 31)).toInt32 - (((v4 * (1103515245 : Int32)) + (12345 : Int32)).toUInt32 >>> ((20 : Int32).toUInt32 &&& Int32.toUInt32 31)).toInt32 / (I_12 73 6) * (I_12 73 6)) with
          | none => rw [hx_17] at h; cases h
          | some o =>
            rw [hx_17] at h
            obtain ⟨x_15, I_16⟩ := o
            dsimp only at h
            refine az_E.call (d := 123) (k' := 197) (vs := [.ref 73, .int ((((v4 * (1103515245 : Int32)) + (12345 : Int32)).toUInt32 >>> ((20 : Int32).toUInt32 &&& Int32.toUInt32 31)).toInt32 - (((v4 * (1103515245 : Int32)) + (12345 : Int32)).toUInt32 >>> ((20 : Int32).toUInt32 &&& Int32.toUInt32 31)).toInt32 / (I_12 73 6) * (I_12 73 6))]) (pc' := 108) (S' := []) (Q1 := fun v s => v = some (.int x_15) ∧ s = (97, I_16, J, R)) rfl (az_E.deep (by omega) (re_M_armFor (J := J) (R := R)  hx_17 ⟨rfl, rfl⟩)) (fun v s hq => ?_)
            obtain ⟨rfl, rfl⟩ := hq
            show az_E az_F ex 124 226 108 [.ref 73, .retAddr 0, .int v2, .int v3, .int ((v4 * (1103515245 : Int32)) + (12345 : Int32)), .int v5, .int v6, .int v7, .retAddr 0] [.int x_15] (97, I_16, J, R) _
            refine az_E.sn 7 (pc' := 121) (L' := [.ref 73, .retAddr 0, .int v2, .int v3, .int ((v4 * (1103515245 : Int32)) + (12345 : Int32)), .int (v5 + x_15), .int v6, .int v7, .int x_15]) (S' := [.int v6, .int x_15]) (σ' := (97, I_16, J, R)) rfl ?_
            refine az_E.br (c := v6 ≤ x_15) (tt := 129) (ff := 124) (L' := [.ref 73, .retAddr 0, .int v2, .int v3, .int ((v4 * (1103515245 : Int32)) + (12345 : Int32)), .int (v5 + x_15), .int v6, .int v7, .int x_15]) (S' := []) (σ' := (97, I_16, J, R)) rfl (fun hc_18 => ?_) (fun hc_18 => ?_)
            · rw [if_pos hc_18] at h
              refine az_E.sn 4 (pc' := 37) (L' := [.ref 73, .retAddr 0, .int v2, .int v3, .int ((v4 * (1103515245 : Int32)) + (12345 : Int32)), .int (v5 + x_15), .int v6, .int (v7 + (1 : Int32)), .int x_15]) (S' := []) (σ' := (97, I_16, J, R)) rfl ?_
              have h := Option.some.inj h
              subst h
              exact az_E.forget (L := [.ref 73, .retAddr 0, .int v2, .int v3, .int ((v4 * (1103515245 : Int32)) + (12345 : Int32)), .int (v5 + x_15), .int v6, .int (v7 + (1 : Int32)), .retAddr 0]) ⟨rfl, trivial, rfl, rfl, rfl, rfl, rfl, rfl, trivial, trivial⟩ hQ
            · rw [if_neg hc_18] at h
              refine az_E.sn 5 (pc' := 37) (L' := [.ref 73, .retAddr 0, .int v2, .int v3, .int ((v4 * (1103515245 : Int32)) + (12345 : Int32)), .int (v5 + x_15), .int x_15, .int (v7 + (1 : Int32)), .int x_15]) (S' := []) (σ' := (97, I_16, J, R)) rfl ?_
              have h := Option.some.inj h
              subst h
              exact az_E.forget (L := [.ref 73, .retAddr 0, .int v2, .int v3, .int ((v4 * (1103515245 : Int32)) + (12345 : Int32)), .int (v5 + x_15), .int x_15, .int (v7 + (1 : Int32)), .retAddr 0]) ⟨rfl, trivial, rfl, rfl, rfl, rfl, rfl, rfl, trivial, trivial⟩ hQ
set_option maxRecDepth 100000 in
set_option maxHeartbeats 4000000 in
theorem re_M_drawn_37 {ex : az_X} {I : Nat → Nat → Int32} {J : Nat → Nat → Int64} {R : Nat → Nat → Option Nat} {v2 : Int32} {v3 : Int32} {v4 : Int32} {v5 : Int32} {v6 : Int32} {v7 : Int32} {x : Int32 × (Nat → Nat → Int32)} (h : rs_M_drawn_37 I v2 v3 v4 v5 v6 v7 = some x) {Q : Option Value → az_S → Prop} (hQ : Q (some (.int x.1)) (97, x.2, J, R)) : az_E az_F ex 124 226 37 [.ref 73, .retAddr 0, .int v2, .int v3, .int v4, .int v5, .int v6, .int v7, .retAddr 0] [] (97, I, J, R) Q := by
  unfold rs_M_drawn_37 at h
  refine az_lp_E (G := fun s => az_E az_F ex 124 226 37 [.ref 73, .retAddr 0, .int v2, .int v3, .int s.1, .int s.2.1, .int s.2.2.1, .int s.2.2.2.1, .retAddr 0] [] (97, s.2.2.2.2, J, R) Q) (H := fun x => Q (some (.int x.1)) (97, x.2, J, R)) (fun s o hb ho => ?_) _ _ _ h hQ
  exact re_M_drawn_37_b  hb ho
set_option maxRecDepth 100000 in
set_option maxHeartbeats 4000000 in
theorem re_M_drawn {ex : az_X} {I : Nat → Nat → Int32} {J : Nat → Nat → Int64} {R : Nat → Nat → Option Nat} {a1 : Int32} {a2 : Int32} {a3 : Int32} {o : Int32 × (Nat → Nat → Int32)} (h : rs_M_drawn I a1 a2 a3 = some o) {Q : Option Value → az_S → Prop} (hQ : Q (some (.int o.1)) (97, o.2, J, R)) : az_E az_F ex 124 226 0 [.ref 73, .int a1, .int a2, .int a3, .retAddr 0, .retAddr 0, .retAddr 0, .retAddr 0, .retAddr 0] [] (97, I, J, R) Q := by
  unfold rs_M_drawn at h
  refine az_E.sn 4 (pc' := 6) (L' := [.ref 73, .int a1, .int a2, .int a3, .retAddr 0, .retAddr 0, .retAddr 0, .retAddr 0, .retAddr 0]) (S' := [.long (50 : Int64), .long (1 : Int64), .long a2.toInt64]) (σ' := (97, I, J, R)) rfl ?_
  refine az_E.call (d := 123) (k' := 154) (vs := [.long a2.toInt64, .long (1 : Int64), .long (50 : Int64)]) (pc' := 9) (S' := []) rfl ?_ (fun _ _ hq => hq)
  show az_E az_F ex 123 154 0 [.long a2.toInt64, .retAddr 0, .long (1 : Int64), .retAddr 0, .long (50 : Int64), .retAddr 0] [] (97, I, J, R) _
  refine az_E.sn 3 (pc' := 3) (L' := [.long a2.toInt64, .retAddr 0, .long (1 : Int64), .retAddr 0, .long (50 : Int64), .retAddr 0]) (S' := [.int (lg_cmp a2.toInt64 (1 : Int64))]) (σ' := (97, I, J, R)) rfl ?_
  refine az_E.br (c := (lg_cmp a2.toInt64 (1 : Int64)) < 0) (tt := 17) (ff := 6) (L' := [.long a2.toInt64, .retAddr 0, .long (1 : Int64), .retAddr 0, .long (50 : Int64), .retAddr 0]) (S' := []) (σ' := (97, I, J, R)) rfl (fun hc_1 => ?_) (fun hc_1 => ?_)
  · rw [if_pos hc_1] at h
    refine az_E.sn 1 (pc' := 18) (L' := [.long a2.toInt64, .retAddr 0, .long (1 : Int64), .retAddr 0, .long (50 : Int64), .retAddr 0]) (S' := [.int (0 : Int32)]) (σ' := (97, I, J, R)) rfl ?_
    refine az_E.ret (v := some (.int (0 : Int32))) (σ' := (97, I, J, R)) rfl ?_
    show az_E az_F ex 124 226 9 [.ref 73, .int a1, .int a2, .int a3, .retAddr 0, .retAddr 0, .retAddr 0, .retAddr 0, .retAddr 0] [.int (0 : Int32)] (97, I, J, R) _
    refine az_E.br (c := (0 : Int32) = 0) (tt := 22) (ff := 12) (L' := [.ref 73, .int a1, .int a2, .int a3, .retAddr 0, .retAddr 0, .retAddr 0, .retAddr 0, .retAddr 0]) (S' := []) (σ' := (97, I, J, R)) rfl (fun _ => ?_) (fun hn => absurd (by decide) hn)
    refine az_E.sn 1 (pc' := 23) (L' := [.ref 73, .int a1, .int a2, .int a3, .retAddr 0, .retAddr 0, .retAddr 0, .retAddr 0, .retAddr 0]) (S' := [.int (-1 : Int32)]) (σ' := (97, I, J, R)) rfl ?_
    have h := Option.some.inj h
    subst h
    exact az_E.ret (v := some (.int (-1 : Int32))) (σ' := (97, I, J, R)) rfl hQ
  · rw [if_neg hc_1] at h
    refine az_E.sn 3 (pc' := 10) (L' := [.long a2.toInt64, .retAddr 0, .long (1 : Int64), .retAddr 0, .long (50 : Int64), .retAddr 0]) (S' := [.int (lg_cmp a2.toInt64 (50 : Int64))]) (σ' := (97, I, J, R)) rfl ?_
    refine az_E.br (c := 0 < (lg_cmp a2.toInt64 (50 : Int64))) (tt := 17) (ff := 13) (L' := [.long a2.toInt64, .retAddr 0, .long (1 : Int64), .retAddr 0, .long (50 : Int64), .retAddr 0]) (S' := []) (σ' := (97, I, J, R)) rfl (fun hc_2 => ?_) (fun hc_2 => ?_)
    · rw [if_pos hc_2] at h
      refine az_E.sn 1 (pc' := 18) (L' := [.long a2.toInt64, .retAddr 0, .long (1 : Int64), .retAddr 0, .long (50 : Int64), .retAddr 0]) (S' := [.int (0 : Int32)]) (σ' := (97, I, J, R)) rfl ?_
      refine az_E.ret (v := some (.int (0 : Int32))) (σ' := (97, I, J, R)) rfl ?_
      show az_E az_F ex 124 226 9 [.ref 73, .int a1, .int a2, .int a3, .retAddr 0, .retAddr 0, .retAddr 0, .retAddr 0, .retAddr 0] [.int (0 : Int32)] (97, I, J, R) _
      refine az_E.br (c := (0 : Int32) = 0) (tt := 22) (ff := 12) (L' := [.ref 73, .int a1, .int a2, .int a3, .retAddr 0, .retAddr 0, .retAddr 0, .retAddr 0, .retAddr 0]) (S' := []) (σ' := (97, I, J, R)) rfl (fun _ => ?_) (fun hn => absurd (by decide) hn)
      refine az_E.sn 1 (pc' := 23) (L' := [.ref 73, .int a1, .int a2, .int a3, .retAddr 0, .retAddr 0, .retAddr 0, .retAddr 0, .retAddr 0]) (S' := [.int (-1 : Int32)]) (σ' := (97, I, J, R)) rfl ?_
      have h := Option.some.inj h
      subst h
      exact az_E.ret (v := some (.int (-1 : Int32))) (σ' := (97, I, J, R)) rfl hQ
    · rw [if_neg hc_2] at h
      refine az_E.sn 2 (pc' := 18) (L' := [.long a2.toInt64, .retAddr 0, .long (1 : Int64), .retAddr 0, .long (50 : Int64), .retAddr 0]) (S' := [.int (1 : Int32)]) (σ' := (97, I, J, R)) rfl ?_
      refine az_E.ret (v := some (.int (1 : Int32))) (σ' := (97, I, J, R)) rfl ?_
      show az_E az_F ex 124 226 9 [.ref 73, .int a1, .int a2, .int a3, .retAddr 0, .retAddr 0, .retAddr 0, .retAddr 0, .retAddr 0] [.int (1 : Int32)] (97, I, J, R) _
      refine az_E.br (c := (1 : Int32) = 0) (tt := 22) (ff := 12) (L' := [.ref 73, .int a1, .int a2, .int a3, .retAddr 0, .retAddr 0, .retAddr 0, .retAddr 0, .retAddr 0]) (S' := []) (σ' := (97, I, J, R)) rfl (fun hn => absurd hn (by decide)) (fun _ => ?_)
      refine az_E.sn 4 (pc' := 16) (L' := [.ref 73, .int a1, .int a2, .int a3, .retAddr 0, .retAddr 0, .retAddr 0, .retAddr 0, .retAddr 0]) (S' := [.long (1 : Int64), .long (0 : Int64), .long a3.toInt64]) (σ' := (97, I, J, R)) rfl ?_
      refine az_E.call (d := 123) (k' := 154) (vs := [.long a3.toInt64, .long (0 : Int64), .long (1 : Int64)]) (pc' := 19) (S' := []) rfl ?_ (fun _ _ hq => hq)
      show az_E az_F ex 123 154 0 [.long a3.toInt64, .retAddr 0, .long (0 : Int64), .retAddr 0, .long (1 : Int64), .retAddr 0] [] (97, I, J, R) _
      refine az_E.sn 3 (pc' := 3) (L' := [.long a3.toInt64, .retAddr 0, .long (0 : Int64), .retAddr 0, .long (1 : Int64), .retAddr 0]) (S' := [.int (lg_cmp a3.toInt64 (0 : Int64))]) (σ' := (97, I, J, R)) rfl ?_
      refine az_E.br (c := (lg_cmp a3.toInt64 (0 : Int64)) < 0) (tt := 17) (ff := 6) (L' := [.long a3.toInt64, .retAddr 0, .long (0 : Int64), .retAddr 0, .long (1 : Int64), .retAddr 0]) (S' := []) (σ' := (97, I, J, R)) rfl (fun hc_3 => ?_) (fun hc_3 => ?_)
      · rw [if_pos hc_3] at h
        refine az_E.sn 1 (pc' := 18) (L' := [.long a3.toInt64, .retAddr 0, .long (0 : Int64), .retAddr 0, .long (1 : Int64), .retAddr 0]) (S' := [.int (0 : Int32)]) (σ' := (97, I, J, R)) rfl ?_
        refine az_E.ret (v := some (.int (0 : Int32))) (σ' := (97, I, J, R)) rfl ?_
        show az_E az_F ex 124 226 19 [.ref 73, .int a1, .int a2, .int a3, .retAddr 0, .retAddr 0, .retAddr 0, .retAddr 0, .retAddr 0] [.int (0 : Int32)] (97, I, J, R) _
        refine az_E.br (c := (0 : Int32) = 0) (tt := 22) (ff := 24) (L' := [.ref 73, .int a1, .int a2, .int a3, .retAddr 0, .retAddr 0, .retAddr 0, .retAddr 0, .retAddr 0]) (S' := []) (σ' := (97, I, J, R)) rfl (fun _ => ?_) (fun hn => absurd (by decide) hn)
        refine az_E.sn 1 (pc' := 23) (L' := [.ref 73, .int a1, .int a2, .int a3, .retAddr 0, .retAddr 0, .retAddr 0, .retAddr 0, .retAddr 0]) (S' := [.int (-1 : Int32)]) (σ' := (97, I, J, R)) rfl ?_
        have h := Option.some.inj h
        subst h
        exact az_E.ret (v := some (.int (-1 : Int32))) (σ' := (97, I, J, R)) rfl hQ
      · rw [if_neg hc_3] at h
        refine az_E.sn 3 (pc' := 10) (L' := [.long a3.toInt64, .retAddr 0, .long (0 : Int64), .retAddr 0, .long (1 : Int64), .retAddr 0]) (S' := [.int (lg_cmp a3.toInt64 (1 : Int64))]) (σ' := (97, I, J, R)) rfl ?_
        refine az_E.br (c := 0 < (lg_cmp a3.toInt64 (1 : Int64))) (tt := 17) (ff := 13) (L' := [.long a3.toInt64, .retAddr 0, .long (0 : Int64), .retAddr 0, .long (1 : Int64), .retAddr 0]) (S' := []) (σ' := (97, I, J, R)) rfl (fun hc_4 => ?_) (fun hc_4 => ?_)
        · rw [if_pos hc_4] at h
          refine az_E.sn 1 (pc' := 18) (L' := [.long a3.toInt64, .retAddr 0, .long (0 : Int64), .retAddr 0, .long (1 : Int64), .retAddr 0]) (S' := [.int (0 : Int32)]) (σ' := (97, I, J, R)) rfl ?_
          refine az_E.ret (v := some (.int (0 : Int32))) (σ' := (97, I, J, R)) rfl ?_
          show az_E az_F ex 124 226 19 [.ref 73, .int a1, .int a2, .int a3, .retAddr 0, .retAddr 0, .retAddr 0, .retAddr 0, .retAddr 0] [.int (0 : Int32)] (97, I, J, R) _
          refine az_E.br (c := (0 : Int32) = 0) (tt := 22) (ff := 24) (L' := [.ref 73, .int a1, .int a2, .int a3, .retAddr 0, .retAddr 0, .retAddr 0, .retAddr 0, .retAddr 0]) (S' := []) (σ' := (97, I, J, R)) rfl (fun _ => ?_) (fun hn => absurd (by decide) hn)
          refine az_E.sn 1 (pc' := 23) (L' := [.ref 73, .int a1, .int a2, .int a3, .retAddr 0, .retAddr 0, .retAddr 0, .retAddr 0, .retAddr 0]) (S' := [.int (-1 : Int32)]) (σ' := (97, I, J, R)) rfl ?_
          have h := Option.some.inj h
          subst h
          exact az_E.ret (v := some (.int (-1 : Int32))) (σ' := (97, I, J, R)) rfl hQ
        · rw [if_neg hc_4] at h
          refine az_E.sn 2 (pc' := 18) (L' := [.long a3.toInt64, .retAddr 0, .long (0 : Int64), .retAddr 0, .long (1 : Int64), .retAddr 0]) (S' := [.int (1 : Int32)]) (σ' := (97, I, J, R)) rfl ?_
          refine az_E.ret (v := some (.int (1 : Int32))) (σ' := (97, I, J, R)) rfl ?_
          show az_E az_F ex 124 226 19 [.ref 73, .int a1, .int a2, .int a3, .retAddr 0, .retAddr 0, .retAddr 0, .retAddr 0, .retAddr 0] [.int (1 : Int32)] (97, I, J, R) _
          refine az_E.br (c := (1 : Int32) = 0) (tt := 22) (ff := 24) (L' := [.ref 73, .int a1, .int a2, .int a3, .retAddr 0, .retAddr 0, .retAddr 0, .retAddr 0, .retAddr 0]) (S' := []) (σ' := (97, I, J, R)) rfl (fun hn => absurd hn (by decide)) (fun _ => ?_)
          refine az_E.sn 8 (pc' := 37) (L' := [.ref 73, .int a1, .int a2, .int a3, .int a1, .int (0 : Int32), .int (1000000 : Int32), .int (0 : Int32), .retAddr 0]) (S' := []) (σ' := (97, I, J, R)) rfl ?_
          exact az_E.forget (L := [.ref 73, .retAddr 0, .int a2, .int a3, .int a1, .int (0 : Int32), .int (1000000 : Int32), .int (0 : Int32), .retAddr 0]) ⟨rfl, trivial, rfl, rfl, rfl, rfl, rfl, rfl, trivial, trivial⟩ (re_M_drawn_37 (I := I) (J := J) (R := R)  h hQ)
set_option maxRecDepth 100000 in
set_option maxHeartbeats 4000000 in
theorem re_X_goes_16 {ex : az_X} {I : Nat → Nat → Int32} {J : Nat → Nat → Int64} {R : Nat → Nat → Option Nat} {a1 : Int32} {a2 : Int32} (hR_3_2 : R 3 2 = some 16) {o : Int32 × (Nat → Nat → Int32)} (h : rs_X_goes 16 I a1 a2 = some o) {Q : Option Value → az_S → Prop} (hQ : Q (some (.int o.1)) (97, o.2, J, R)) : az_E az_F ex 4 112 0 [.ref 3, .int a1, .int a2, .retAddr 0, .retAddr 0, .retAddr 0] [] (97, I, J, R) Q := by
  unfold rs_X_goes at h
  refine az_E.sn 2 (pc' := 2) (L' := [.ref 3, .int a1, .int a2, .retAddr 0, .retAddr 0, .retAddr 0]) (S' := [.int a1, .ref 3]) (σ' := (97, I, J, R)) rfl ?_
  refine az_E.call (d := 3) (k' := 138) (vs := [.ref 3, .int a1]) (pc' := 5) (S' := []) rfl ?_ (fun _ _ hq => hq)
  show az_E az_F ex 3 138 0 [.ref 3, .int a1] [] (97, I, J, R) _
  refine az_E.sn 7 (pc' := 11) (L' := [.ref 3, .int a1]) (S' := [.int ((I 4 9) - (1 : Int32)), .int (0 : Int32), .int a1]) (σ' := (97, I, J, R)) rfl ?_
  refine az_E.call (d := 2) (k' := 131) (vs := [.int a1, .int (0 : Int32), .int ((I 4 9) - (1 : Int32))]) (pc' := 14) (S' := []) rfl ?_ (fun _ _ hq => hq)
  show az_E az_F ex 2 131 0 [.int a1, .int (0 : Int32), .int ((I 4 9) - (1 : Int32))] [] (97, I, J, R) _
  refine az_E.sn 2 (pc' := 2) (L' := [.int a1, .int (0 : Int32), .int ((I 4 9) - (1 : Int32))]) (S' := [.int (0 : Int32), .int a1]) (σ' := (97, I, J, R)) rfl ?_
  refine az_E.br (c := a1 < (0 : Int32)) (tt := 14) (ff := 5) (L' := [.int a1, .int (0 : Int32), .int ((I 4 9) - (1 : Int32))]) (S' := []) (σ' := (97, I, J, R)) rfl (fun hc_1 => ?_) (fun hc_1 => ?_)
  · rw [if_pos hc_1] at h
    refine az_E.sn 1 (pc' := 15) (L' := [.int a1, .int (0 : Int32), .int ((I 4 9) - (1 : Int32))]) (S' := [.int (0 : Int32)]) (σ' := (97, I, J, R)) rfl ?_
    refine az_E.ret (v := some (.int (0 : Int32))) (σ' := (97, I, J, R)) rfl ?_
    show az_E az_F ex 3 138 14 [.ref 3, .int a1] [.int (0 : Int32)] (97, I, J, R) _
    refine az_E.ret (v := some (.int (0 : Int32))) (σ' := (97, I, J, R)) rfl ?_
    show az_E az_F ex 4 112 5 [.ref 3, .int a1, .int a2, .retAddr 0, .retAddr 0, .retAddr 0] [.int (0 : Int32)] (97, I, J, R) _
    refine az_E.br (c := (0 : Int32) = 0) (tt := 17) (ff := 8) (L' := [.ref 3, .int a1, .int a2, .retAddr 0, .retAddr 0, .retAddr 0]) (S' := []) (σ' := (97, I, J, R)) rfl (fun _ => ?_) (fun hn => absurd (by decide) hn)
    refine az_E.sn 1 (pc' := 18) (L' := [.ref 3, .int a1, .int a2, .retAddr 0, .retAddr 0, .retAddr 0]) (S' := [.int (-1 : Int32)]) (σ' := (97, I, J, R)) rfl ?_
    have h := Option.some.inj h
    subst h
    exact az_E.ret (v := some (.int (-1 : Int32))) (σ' := (97, I, J, R)) rfl hQ
  · rw [if_neg hc_1] at h
    refine az_E.sn 2 (pc' := 7) (L' := [.int a1, .int (0 : Int32), .int ((I 4 9) - (1 : Int32))]) (S' := [.int ((I 4 9) - (1 : Int32)), .int a1]) (σ' := (97, I, J, R)) rfl ?_
    refine az_E.br (c := ((I 4 9) - (1 : Int32)) < a1) (tt := 14) (ff := 10) (L' := [.int a1, .int (0 : Int32), .int ((I 4 9) - (1 : Int32))]) (S' := []) (σ' := (97, I, J, R)) rfl (fun hc_2 => ?_) (fun hc_2 => ?_)
    · rw [if_pos hc_2] at h
      refine az_E.sn 1 (pc' := 15) (L' := [.int a1, .int (0 : Int32), .int ((I 4 9) - (1 : Int32))]) (S' := [.int (0 : Int32)]) (σ' := (97, I, J, R)) rfl ?_
      refine az_E.ret (v := some (.int (0 : Int32))) (σ' := (97, I, J, R)) rfl ?_
      show az_E az_F ex 3 138 14 [.ref 3, .int a1] [.int (0 : Int32)] (97, I, J, R) _
      refine az_E.ret (v := some (.int (0 : Int32))) (σ' := (97, I, J, R)) rfl ?_
      show az_E az_F ex 4 112 5 [.ref 3, .int a1, .int a2, .retAddr 0, .retAddr 0, .retAddr 0] [.int (0 : Int32)] (97, I, J, R) _
      refine az_E.br (c := (0 : Int32) = 0) (tt := 17) (ff := 8) (L' := [.ref 3, .int a1, .int a2, .retAddr 0, .retAddr 0, .retAddr 0]) (S' := []) (σ' := (97, I, J, R)) rfl (fun _ => ?_) (fun hn => absurd (by decide) hn)
      refine az_E.sn 1 (pc' := 18) (L' := [.ref 3, .int a1, .int a2, .retAddr 0, .retAddr 0, .retAddr 0]) (S' := [.int (-1 : Int32)]) (σ' := (97, I, J, R)) rfl ?_
      have h := Option.some.inj h
      subst h
      exact az_E.ret (v := some (.int (-1 : Int32))) (σ' := (97, I, J, R)) rfl hQ
    · rw [if_neg hc_2] at h
      refine az_E.sn 2 (pc' := 15) (L' := [.int a1, .int (0 : Int32), .int ((I 4 9) - (1 : Int32))]) (S' := [.int (1 : Int32)]) (σ' := (97, I, J, R)) rfl ?_
      refine az_E.ret (v := some (.int (1 : Int32))) (σ' := (97, I, J, R)) rfl ?_
      show az_E az_F ex 3 138 14 [.ref 3, .int a1] [.int (1 : Int32)] (97, I, J, R) _
      refine az_E.ret (v := some (.int (1 : Int32))) (σ' := (97, I, J, R)) rfl ?_
      show az_E az_F ex 4 112 5 [.ref 3, .int a1, .int a2, .retAddr 0, .retAddr 0, .retAddr 0] [.int (1 : Int32)] (97, I, J, R) _
      refine az_E.br (c := (1 : Int32) = 0) (tt := 17) (ff := 8) (L' := [.ref 3, .int a1, .int a2, .retAddr 0, .retAddr 0, .retAddr 0]) (S' := []) (σ' := (97, I, J, R)) rfl (fun hn => absurd hn (by decide)) (fun _ => ?_)
      refine az_E.sn 3 (pc' := 11) (L' := [.ref 3, .int a1, .int a2, .retAddr 0, .retAddr 0, .retAddr 0]) (S' := [.int (3 : Int32), .int (0 : Int32), .int a2]) (σ' := (97, I, J, R)) rfl ?_
      refine az_E.call (d := 3) (k' := 131) (vs := [.int a2, .int (0 : Int32), .int (3 : Int32)]) (pc' := 14) (S' := []) rfl ?_ (fun _ _ hq => hq)
      show az_E az_F ex 3 131 0 [.int a2, .int (0 : Int32), .int (3 : Int32)] [] (97, I, J, R) _
      refine az_E.sn 2 (pc' := 2) (L' := [.int a2, .int (0 : Int32), .int (3 : Int32)]) (S' := [.int (0 : Int32), .int a2]) (σ' := (97, I, J, R)) rfl ?_
      refine az_E.br (c := a2 < (0 : Int32)) (tt := 14) (ff := 5) (L' := [.int a2, .int (0 : Int32), .int (3 : Int32)]) (S' := []) (σ' := (97, I, J, R)) rfl (fun hc_3 => ?_) (fun hc_3 => ?_)
      · rw [if_pos hc_3] at h
        refine az_E.sn 1 (pc' := 15) (L' := [.int a2, .int (0 : Int32), .int (3 : Int32)]) (S' := [.int (0 : Int32)]) (σ' := (97, I, J, R)) rfl ?_
        refine az_E.ret (v := some (.int (0 : Int32))) (σ' := (97, I, J, R)) rfl ?_
        show az_E az_F ex 4 112 14 [.ref 3, .int a1, .int a2, .retAddr 0, .retAddr 0, .retAddr 0] [.int (0 : Int32)] (97, I, J, R) _
        refine az_E.br (c := (0 : Int32) = 0) (tt := 17) (ff := 19) (L' := [.ref 3, .int a1, .int a2, .retAddr 0, .retAddr 0, .retAddr 0]) (S' := []) (σ' := (97, I, J, R)) rfl (fun _ => ?_) (fun hn => absurd (by decide) hn)
        refine az_E.sn 1 (pc' := 18) (L' := [.ref 3, .int a1, .int a2, .retAddr 0, .retAddr 0, .retAddr 0]) (S' := [.int (-1 : Int32)]) (σ' := (97, I, J, R)) rfl ?_
        have h := Option.some.inj h
        subst h
        exact az_E.ret (v := some (.int (-1 : Int32))) (σ' := (97, I, J, R)) rfl hQ
      · rw [if_neg hc_3] at h
        refine az_E.sn 2 (pc' := 7) (L' := [.int a2, .int (0 : Int32), .int (3 : Int32)]) (S' := [.int (3 : Int32), .int a2]) (σ' := (97, I, J, R)) rfl ?_
        refine az_E.br (c := (3 : Int32) < a2) (tt := 14) (ff := 10) (L' := [.int a2, .int (0 : Int32), .int (3 : Int32)]) (S' := []) (σ' := (97, I, J, R)) rfl (fun hc_4 => ?_) (fun hc_4 => ?_)
        · rw [if_pos hc_4] at h
          refine az_E.sn 1 (pc' := 15) (L' := [.int a2, .int (0 : Int32), .int (3 : Int32)]) (S' := [.int (0 : Int32)]) (σ' := (97, I, J, R)) rfl ?_
          refine az_E.ret (v := some (.int (0 : Int32))) (σ' := (97, I, J, R)) rfl ?_
          show az_E az_F ex 4 112 14 [.ref 3, .int a1, .int a2, .retAddr 0, .retAddr 0, .retAddr 0] [.int (0 : Int32)] (97, I, J, R) _
          refine az_E.br (c := (0 : Int32) = 0) (tt := 17) (ff := 19) (L' := [.ref 3, .int a1, .int a2, .retAddr 0, .retAddr 0, .retAddr 0]) (S' := []) (σ' := (97, I, J, R)) rfl (fun _ => ?_) (fun hn => absurd (by decide) hn)
          refine az_E.sn 1 (pc' := 18) (L' := [.ref 3, .int a1, .int a2, .retAddr 0, .retAddr 0, .retAddr 0]) (S' := [.int (-1 : Int32)]) (σ' := (97, I, J, R)) rfl ?_
          have h := Option.some.inj h
          subst h
          exact az_E.ret (v := some (.int (-1 : Int32))) (σ' := (97, I, J, R)) rfl hQ
        · rw [if_neg hc_4] at h
          refine az_E.sn 2 (pc' := 15) (L' := [.int a2, .int (0 : Int32), .int (3 : Int32)]) (S' := [.int (1 : Int32)]) (σ' := (97, I, J, R)) rfl ?_
          refine az_E.ret (v := some (.int (1 : Int32))) (σ' := (97, I, J, R)) rfl ?_
          show az_E az_F ex 4 112 14 [.ref 3, .int a1, .int a2, .retAddr 0, .retAddr 0, .retAddr 0] [.int (1 : Int32)] (97, I, J, R) _
          refine az_E.br (c := (1 : Int32) = 0) (tt := 17) (ff := 19) (L' := [.ref 3, .int a1, .int a2, .retAddr 0, .retAddr 0, .retAddr 0]) (S' := []) (σ' := (97, I, J, R)) rfl (fun hn => absurd hn (by decide)) (fun _ => ?_)
          refine az_E.sn 4 (pc' := 27) (L' := [.ref 3, .int a1, .int a2, .retAddr 0, .retAddr 0, .retAddr 0]) (S' := [.int a1, .ref 11]) (σ' := (97, I, J, R)) rfl ?_
          by_cases hc_5 : a1 < 0 ∨ 6 ≤ a1.toNatClampNeg
          · rw [if_pos hc_5] at h; cases h
          · rw [if_neg hc_5] at h
            refine az_E.oi (o := az_ai az_F ex (97, I, J, R) 11 a1) (pc' := 28) (L' := [.ref 3, .int a1, .int a2, .retAddr 0, .retAddr 0, .retAddr 0]) (S' := []) (σ' := (97, I, J, R)) (x := (I 11 a1.toNatClampNeg)) rfl (if_neg hc_5) ?_
            refine az_E.sn 3 (pc' := 31) (L' := [.ref 3, .int a1, .int a2, .int (I 11 a1.toNatClampNeg), .retAddr 0, .retAddr 0]) (S' := [.int a2, .int (I 11 a1.toNatClampNeg)]) (σ' := (97, I, J, R)) rfl ?_
            cases hx_7 : rs_X_sideCell (I 11 a1.toNatClampNeg) a2 with
            | none => rw [hx_7] at h; cases h
            | some x_6 =>
              rw [hx_7] at h
              dsimp only at h
              refine az_E.call (d := 3) (k' := 141) (vs := [.int (I 11 a1.toNatClampNeg), .int a2]) (pc' := 34) (S' := []) (Q1 := fun v s => v = some (.int x_6) ∧ s = (97, I, J, R)) rfl (az_E.deep (by omega) (re_X_sideCell (J := J) (R := R)  hx_7 ⟨rfl, rfl⟩)) (fun v s hq => ?_)
              obtain ⟨rfl, rfl⟩ := hq
              show az_E az_F ex 4 112 34 [.ref 3, .int a1, .int a2, .int (I 11 a1.toNatClampNeg), .retAddr 0, .retAddr 0] [.int x_6] (97, I, J, R) _
              refine az_E.sn 2 (pc' := 38) (L' := [.ref 3, .int a1, .int a2, .int (I 11 a1.toNatClampNeg), .int x_6, .retAddr 0]) (S' := [.int x_6]) (σ' := (97, I, J, R)) rfl ?_
              refine az_E.br (c := 0 ≤ x_6) (tt := 44) (ff := 41) (L' := [.ref 3, .int a1, .int a2, .int (I 11 a1.toNatClampNeg), .int x_6, .retAddr 0]) (S' := []) (σ' := (97, I, J, R)) rfl (fun hc_8 => ?_) (fun hc_8 => ?_)
              · rw [if_pos hc_8] at h
                refine az_E.sn 4 (pc' := 49) (L' := [.ref 3, .int a1, .int a2, .int (I 11 a1.toNatClampNeg), .int x_6, .retAddr 0]) (S' := [.int x_6, .int (I 11 a1.toNatClampNeg), .int a1, .ref 3]) (σ' := (97, I, J, R)) rfl ?_
                cases hx_11 : rs_X_stepMinutes 16 I a1 (I 11 a1.toNatClampNeg) x_6 with
                | none => rw [hx_11] at h; cases h
                | some o =>
                  rw [hx_11] at h
                  obtain ⟨x_9, I_10⟩ := o
                  dsimp only at h
                  refine az_E.call (d := 3) (k' := 145) (vs := [.ref 3, .int a1, .int (I 11 a1.toNatClampNeg), .int x_6]) (pc' := 52) (S' := []) (Q1 := fun v s => v = some (.int x_9) ∧ s = (97, I_10, J, R)) rfl (az_E.deep (by omega) (re_X_stepMinutes_16 (J := J) (R := R) hR_3_2 hx_11 ⟨rfl, rfl⟩)) (fun v s hq => ?_)
                  obtain ⟨rfl, rfl⟩ := hq
                  show az_E az_F ex 4 112 52 [.ref 3, .int a1, .int a2, .int (I 11 a1.toNatClampNeg), .int x_6, .retAddr 0] [.int x_9] (97, I_10, J, R) _
                  refine az_E.sn 6 (pc' := 64) (L' := [.ref 3, .int a1, .int a2, .int (I 11 a1.toNatClampNeg), .int x_6, .int x_9]) (S' := [.int x_6, .int a1, .ref 11]) (σ' := (97, I_10, J, R)) rfl ?_
                  by_cases hc_12 : a1 < 0 ∨ 6 ≤ a1.toNatClampNeg
                  · rw [if_pos hc_12] at h; cases h
                  · rw [if_neg hc_12] at h
                    refine az_E.o (o := az_si az_F (97, I_10, J, R) 11 a1 x_6) (pc' := 65) (L' := [.ref 3, .int a1, .int a2, .int (I 11 a1.toNatClampNeg), .int x_6, .int x_9]) (S' := []) (x := (97, (az_u I_10 11 a1.toNatClampNeg x_6), J, R)) rfl (if_neg hc_12) ?_
                    refine az_E.sn 5 (pc' := 74) (L' := [.ref 3, .int a1, .int a2, .int (I 11 a1.toNatClampNeg), .int x_6, .int x_9]) (S' := [.int a1, .ref 12, .int a1, .ref 12]) (σ' := (97, (az_u I_10 11 a1.toNatClampNeg x_6), J, R)) rfl ?_
                    by_cases hc_13 : a1 < 0 ∨ 6 ≤ a1.toNatClampNeg
                    · rw [if_pos hc_13] at h; cases h
                    · rw [if_neg hc_13] at h
                      refine az_E.oi (o := az_ai az_F ex (97, (az_u I_10 11 a1.toNatClampNeg x_6), J, R) 12 a1) (pc' := 75) (L' := [.ref 3, .int a1, .int a2, .int (I 11 a1.toNatClampNeg), .int x_6, .int x_9]) (S' := [.int a1, .ref 12]) (σ' := (97, (az_u I_10 11 a1.toNatClampNeg x_6), J, R)) (x := (I_10 12 a1.toNatClampNeg)) rfl (if_neg hc_13) ?_
                      refine az_E.sn 2 (pc' := 78) (L' := [.ref 3, .int a1, .int a2, .int (I 11 a1.toNatClampNeg), .int x_6, .int x_9]) (S' := [.int ((I_10 12 a1.toNatClampNeg) + x_9), .int a1, .ref 12]) (σ' := (97, (az_u I_10 11 a1.toNatClampNeg x_6), J, R)) rfl ?_
                      by_cases hc_14 : a1 < 0 ∨ 6 ≤ a1.toNatClampNeg
                      · rw [if_pos hc_14] at h; cases h
                      · rw [if_neg hc_14] at h
                        refine az_E.o (o := az_si az_F (97, (az_u I_10 11 a1.toNatClampNeg x_6), J, R) 12 a1 ((I_10 12 a1.toNatClampNeg) + x_9)) (pc' := 79) (L' := [.ref 3, .int a1, .int a2, .int (I 11 a1.toNatClampNeg), .int x_6, .int x_9]) (S' := []) (x := (97, (az_u (az_u I_10 11 a1.toNatClampNeg x_6) 12 a1.toNatClampNeg ((I_10 12 a1.toNatClampNeg) + x_9)), J, R)) rfl (if_neg hc_14) ?_
                        refine az_E.sn 5 (pc' := 88) (L' := [.ref 3, .int a1, .int a2, .int (I 11 a1.toNatClampNeg), .int x_6, .int x_9]) (S' := [.int (0 : Int32), .ref 13, .int (0 : Int32), .ref 13]) (σ' := (97, (az_u (az_u I_10 11 a1.toNatClampNeg x_6) 12 a1.toNatClampNeg ((I_10 12 a1.toNatClampNeg) + x_9)), J, R)) rfl ?_
                        refine az_E.oi (o := az_ai az_F ex (97, (az_u (az_u I_10 11 a1.toNatClampNeg x_6) 12 a1.toNatClampNeg ((I_10 12 a1.toNatClampNeg) + x_9)), J, R) 13 (0 : Int32)) (pc' := 89) (L' := [.ref 3, .int a1, .int a2, .int (I 11 a1.toNatClampNeg), .int x_6, .int x_9]) (S' := [.int (0 : Int32), .ref 13]) (σ' := (97, (az_u (az_u I_10 11 a1.toNatClampNeg x_6) 12 a1.toNatClampNeg ((I_10 12 a1.toNatClampNeg) + x_9)), J, R)) (x := (I_10 13 0)) rfl rfl ?_
                        refine az_E.sn 2 (pc' := 91) (L' := [.ref 3, .int a1, .int a2, .int (I 11 a1.toNatClampNeg), .int x_6, .int x_9]) (S' := [.int ((I_10 13 0) + (1 : Int32)), .int (0 : Int32), .ref 13]) (σ' := (97, (az_u (az_u I_10 11 a1.toNatClampNeg x_6) 12 a1.toNatClampNeg ((I_10 12 a1.toNatClampNeg) + x_9)), J, R)) rfl ?_
                        refine az_E.o (o := az_si az_F (97, (az_u (az_u I_10 11 a1.toNatClampNeg x_6) 12 a1.toNatClampNeg ((I_10 12 a1.toNatClampNeg) + x_9)), J, R) 13 (0 : Int32) ((I_10 13 0) + (1 : Int32))) (pc' := 92) (L' := [.ref 3, .int a1, .int a2, .int (I 11 a1.toNatClampNeg), .int x_6, .int x_9]) (S' := []) (x := (97, (az_u (az_u (az_u I_10 11 a1.toNatClampNeg x_6) 12 a1.toNatClampNeg ((I_10 12 a1.toNatClampNeg) + x_9)) 13 0 ((I_10 13 0) + (1 : Int32))), J, R)) rfl rfl ?_
                        refine az_E.sn 5 (pc' := 101) (L' := [.ref 3, .int a1, .int a2, .int (I 11 a1.toNatClampNeg), .int x_6, .int x_9]) (S' := [.int (1 : Int32), .ref 13, .int (1 : Int32), .ref 13]) (σ' := (97, (az_u (az_u (az_u I_10 11 a1.toNatClampNeg x_6) 12 a1.toNatClampNeg ((I_10 12 a1.toNatClampNeg) + x_9)) 13 0 ((I_10 13 0) + (1 : Int32))), J, R)) rfl ?_
                        refine az_E.oi (o := az_ai az_F ex (97, (az_u (az_u (az_u I_10 11 a1.toNatClampNeg x_6) 12 a1.toNatClampNeg ((I_10 12 a1.toNatClampNeg) + x_9)) 13 0 ((I_10 13 0) + (1 : Int32))), J, R) 13 (1 : Int32)) (pc' := 102) (L' := [.ref 3, .int a1, .int a2, .int (I 11 a1.toNatClampNeg), .int x_6, .int x_9]) (S' := [.int (1 : Int32), .ref 13]) (σ' := (97, (az_u (az_u (az_u I_10 11 a1.toNatClampNeg x_6) 12 a1.toNatClampNeg ((I_10 12 a1.toNatClampNeg) + x_9)) 13 0 ((I_10 13 0) + (1 : Int32))), J, R)) (x := (I_10 13 1)) rfl rfl ?_
                        refine az_E.sn 2 (pc' := 105) (L' := [.ref 3, .int a1, .int a2, .int (I 11 a1.toNatClampNeg), .int x_6, .int x_9]) (S' := [.int ((I_10 13 1) + x_9), .int (1 : Int32), .ref 13]) (σ' := (97, (az_u (az_u (az_u I_10 11 a1.toNatClampNeg x_6) 12 a1.toNatClampNeg ((I_10 12 a1.toNatClampNeg) + x_9)) 13 0 ((I_10 13 0) + (1 : Int32))), J, R)) rfl ?_
                        refine az_E.o (o := az_si az_F (97, (az_u (az_u (az_u I_10 11 a1.toNatClampNeg x_6) 12 a1.toNatClampNeg ((I_10 12 a1.toNatClampNeg) + x_9)) 13 0 ((I_10 13 0) + (1 : Int32))), J, R) 13 (1 : Int32) ((I_10 13 1) + x_9)) (pc' := 106) (L' := [.ref 3, .int a1, .int a2, .int (I 11 a1.toNatClampNeg), .int x_6, .int x_9]) (S' := []) (x := (97, (az_u (az_u (az_u (az_u I_10 11 a1.toNatClampNeg x_6) 12 a1.toNatClampNeg ((I_10 12 a1.toNatClampNeg) + x_9)) 13 0 ((I_10 13 0) + (1 : Int32))) 13 1 ((I_10 13 1) + x_9)), J, R)) rfl rfl ?_
                        refine az_E.sn 1 (pc' := 108) (L' := [.ref 3, .int a1, .int a2, .int (I 11 a1.toNatClampNeg), .int x_6, .int x_9]) (S' := [.int x_9]) (σ' := (97, (az_u (az_u (az_u (az_u I_10 11 a1.toNatClampNeg x_6) 12 a1.toNatClampNeg ((I_10 12 a1.toNatClampNeg) + x_9)) 13 0 ((I_10 13 0) + (1 : Int32))) 13 1 ((I_10 13 1) + x_9)), J, R)) rfl ?_
                        have h := Option.some.inj h
                        subst h
                        exact az_E.ret (v := some (.int x_9)) (σ' := (97, (az_u (az_u (az_u (az_u I_10 11 a1.toNatClampNeg x_6) 12 a1.toNatClampNeg ((I_10 12 a1.toNatClampNeg) + x_9)) 13 0 ((I_10 13 0) + (1 : Int32))) 13 1 ((I_10 13 1) + x_9)), J, R)) rfl hQ
              · rw [if_neg hc_8] at h
                refine az_E.sn 1 (pc' := 43) (L' := [.ref 3, .int a1, .int a2, .int (I 11 a1.toNatClampNeg), .int x_6, .retAddr 0]) (S' := [.int (-5 : Int32)]) (σ' := (97, I, J, R)) rfl ?_
                have h := Option.some.inj h
                subst h
                exact az_E.ret (v := some (.int (-5 : Int32))) (σ' := (97, I, J, R)) rfl hQ
set_option maxRecDepth 100000 in
set_option maxHeartbeats 4000000 in
theorem re_M_goes {ex : az_X} {I : Nat → Nat → Int32} {J : Nat → Nat → Int64} {R : Nat → Nat → Option Nat} {a1 : Int32} {a2 : Int32} {o : Int32 × (Nat → Nat → Int32)} (h : rs_M_goes I a1 a2 = some o) {Q : Option Value → az_S → Prop} (hQ : Q (some (.int o.1)) (97, o.2, J, R)) : az_E az_F ex 125 227 0 [.ref 73, .int a1, .int a2, .retAddr 0, .retAddr 0] [] (97, I, J, R) Q := by
  unfold rs_M_goes at h
  refine az_E.sn 3 (pc' := 3) (L' := [.ref 73, .int a1, .int a2, .retAddr 0, .retAddr 0]) (S' := [.long a1.toInt64, .ref 73]) (σ' := (97, I, J, R)) rfl ?_
  refine az_E.call (d := 124) (k' := 162) (vs := [.ref 73, .long a1.toInt64]) (pc' := 6) (S' := []) rfl ?_ (fun _ _ hq => hq)
  show az_E az_F ex 124 162 0 [.ref 73, .long a1.toInt64, .retAddr 0] [] (97, I, J, R) _
  refine az_E.sn 7 (pc' := 9) (L' := [.ref 73, .long a1.toInt64, .retAddr 0]) (S' := [.long ((I 73 7) - (1 : Int32)).toInt64, .long (0 : Int64), .long a1.toInt64]) (σ' := (97, I, J, R)) rfl ?_
  refine az_E.call (d := 123) (k' := 154) (vs := [.long a1.toInt64, .long (0 : Int64), .long ((I 73 7) - (1 : Int32)).toInt64]) (pc' := 12) (S' := []) rfl ?_ (fun _ _ hq => hq)
  show az_E az_F ex 123 154 0 [.long a1.toInt64, .retAddr 0, .long (0 : Int64), .retAddr 0, .long ((I 73 7) - (1 : Int32)).toInt64, .retAddr 0] [] (97, I, J, R) _
  refine az_E.sn 3 (pc' := 3) (L' := [.long a1.toInt64, .retAddr 0, .long (0 : Int64), .retAddr 0, .long ((I 73 7) - (1 : Int32)).toInt64, .retAddr 0]) (S' := [.int (lg_cmp a1.toInt64 (0 : Int64))]) (σ' := (97, I, J, R)) rfl ?_
  refine az_E.br (c := (lg_cmp a1.toInt64 (0 : Int64)) < 0) (tt := 17) (ff := 6) (L' := [.long a1.toInt64, .retAddr 0, .long (0 : Int64), .retAddr 0, .long ((I 73 7) - (1 : Int32)).toInt64, .retAddr 0]) (S' := []) (σ' := (97, I, J, R)) rfl (fun hc_1 => ?_) (fun hc_1 => ?_)
  · rw [if_pos hc_1] at h
    refine az_E.sn 1 (pc' := 18) (L' := [.long a1.toInt64, .retAddr 0, .long (0 : Int64), .retAddr 0, .long ((I 73 7) - (1 : Int32)).toInt64, .retAddr 0]) (S' := [.int (0 : Int32)]) (σ' := (97, I, J, R)) rfl ?_
    refine az_E.ret (v := some (.int (0 : Int32))) (σ' := (97, I, J, R)) rfl ?_
    show az_E az_F ex 124 162 12 [.ref 73, .long a1.toInt64, .retAddr 0] [.int (0 : Int32)] (97, I, J, R) _
    refine az_E.ret (v := some (.int (0 : Int32))) (σ' := (97, I, J, R)) rfl ?_
    show az_E az_F ex 125 227 6 [.ref 73, .int a1, .int a2, .retAddr 0, .retAddr 0] [.int (0 : Int32)] (97, I, J, R) _
    refine az_E.br (c := (0 : Int32) = 0) (tt := 21) (ff := 9) (L' := [.ref 73, .int a1, .int a2, .retAddr 0, .retAddr 0]) (S' := []) (σ' := (97, I, J, R)) rfl (fun _ => ?_) (fun hn => absurd (by decide) hn)
    refine az_E.sn 1 (pc' := 22) (L' := [.ref 73, .int a1, .int a2, .retAddr 0, .retAddr 0]) (S' := [.int (-1 : Int32)]) (σ' := (97, I, J, R)) rfl ?_
    have h := Option.some.inj h
    subst h
    exact az_E.ret (v := some (.int (-1 : Int32))) (σ' := (97, I, J, R)) rfl hQ
  · rw [if_neg hc_1] at h
    refine az_E.sn 3 (pc' := 10) (L' := [.long a1.toInt64, .retAddr 0, .long (0 : Int64), .retAddr 0, .long ((I 73 7) - (1 : Int32)).toInt64, .retAddr 0]) (S' := [.int (lg_cmp a1.toInt64 ((I 73 7) - (1 : Int32)).toInt64)]) (σ' := (97, I, J, R)) rfl ?_
    refine az_E.br (c := 0 < (lg_cmp a1.toInt64 ((I 73 7) - (1 : Int32)).toInt64)) (tt := 17) (ff := 13) (L' := [.long a1.toInt64, .retAddr 0, .long (0 : Int64), .retAddr 0, .long ((I 73 7) - (1 : Int32)).toInt64, .retAddr 0]) (S' := []) (σ' := (97, I, J, R)) rfl (fun hc_2 => ?_) (fun hc_2 => ?_)
    · rw [if_pos hc_2] at h
      refine az_E.sn 1 (pc' := 18) (L' := [.long a1.toInt64, .retAddr 0, .long (0 : Int64), .retAddr 0, .long ((I 73 7) - (1 : Int32)).toInt64, .retAddr 0]) (S' := [.int (0 : Int32)]) (σ' := (97, I, J, R)) rfl ?_
      refine az_E.ret (v := some (.int (0 : Int32))) (σ' := (97, I, J, R)) rfl ?_
      show az_E az_F ex 124 162 12 [.ref 73, .long a1.toInt64, .retAddr 0] [.int (0 : Int32)] (97, I, J, R) _
      refine az_E.ret (v := some (.int (0 : Int32))) (σ' := (97, I, J, R)) rfl ?_
      show az_E az_F ex 125 227 6 [.ref 73, .int a1, .int a2, .retAddr 0, .retAddr 0] [.int (0 : Int32)] (97, I, J, R) _
      refine az_E.br (c := (0 : Int32) = 0) (tt := 21) (ff := 9) (L' := [.ref 73, .int a1, .int a2, .retAddr 0, .retAddr 0]) (S' := []) (σ' := (97, I, J, R)) rfl (fun _ => ?_) (fun hn => absurd (by decide) hn)
      refine az_E.sn 1 (pc' := 22) (L' := [.ref 73, .int a1, .int a2, .retAddr 0, .retAddr 0]) (S' := [.int (-1 : Int32)]) (σ' := (97, I, J, R)) rfl ?_
      have h := Option.some.inj h
      subst h
      exact az_E.ret (v := some (.int (-1 : Int32))) (σ' := (97, I, J, R)) rfl hQ
    · rw [if_neg hc_2] at h
      refine az_E.sn 2 (pc' := 18) (L' := [.long a1.toInt64, .retAddr 0, .long (0 : Int64), .retAddr 0, .long ((I 73 7) - (1 : Int32)).toInt64, .retAddr 0]) (S' := [.int (1 : Int32)]) (σ' := (97, I, J, R)) rfl ?_
      refine az_E.ret (v := some (.int (1 : Int32))) (σ' := (97, I, J, R)) rfl ?_
      show az_E az_F ex 124 162 12 [.ref 73, .long a1.toInt64, .retAddr 0] [.int (1 : Int32)] (97, I, J, R) _
      refine az_E.ret (v := some (.int (1 : Int32))) (σ' := (97, I, J, R)) rfl ?_
      show az_E az_F ex 125 227 6 [.ref 73, .int a1, .int a2, .retAddr 0, .retAddr 0] [.int (1 : Int32)] (97, I, J, R) _
      refine az_E.br (c := (1 : Int32) = 0) (tt := 21) (ff := 9) (L' := [.ref 73, .int a1, .int a2, .retAddr 0, .retAddr 0]) (S' := []) (σ' := (97, I, J, R)) rfl (fun hn => absurd hn (by decide)) (fun _ => ?_)
      refine az_E.sn 4 (pc' := 15) (L' := [.ref 73, .int a1, .int a2, .retAddr 0, .retAddr 0]) (S' := [.long (3 : Int64), .long (0 : Int64), .long a2.toInt64]) (σ' := (97, I, J, R)) rfl ?_
      refine az_E.call (d := 124) (k' := 154) (vs := [.long a2.toInt64, .long (0 : Int64), .long (3 : Int64)]) (pc' := 18) (S' := []) rfl ?_ (fun _ _ hq => hq)
      show az_E az_F ex 124 154 0 [.long a2.toInt64, .retAddr 0, .long (0 : Int64), .retAddr 0, .long (3 : Int64), .retAddr 0] [] (97, I, J, R) _
      refine az_E.sn 3 (pc' := 3) (L' := [.long a2.toInt64, .retAddr 0, .long (0 : Int64), .retAddr 0, .long (3 : Int64), .retAddr 0]) (S' := [.int (lg_cmp a2.toInt64 (0 : Int64))]) (σ' := (97, I, J, R)) rfl ?_
      refine az_E.br (c := (lg_cmp a2.toInt64 (0 : Int64)) < 0) (tt := 17) (ff := 6) (L' := [.long a2.toInt64, .retAddr 0, .long (0 : Int64), .retAddr 0, .long (3 : Int64), .retAddr 0]) (S' := []) (σ' := (97, I, J, R)) rfl (fun hc_3 => ?_) (fun hc_3 => ?_)
      · rw [if_pos hc_3] at h
        refine az_E.sn 1 (pc' := 18) (L' := [.long a2.toInt64, .retAddr 0, .long (0 : Int64), .retAddr 0, .long (3 : Int64), .retAddr 0]) (S' := [.int (0 : Int32)]) (σ' := (97, I, J, R)) rfl ?_
        refine az_E.ret (v := some (.int (0 : Int32))) (σ' := (97, I, J, R)) rfl ?_
        show az_E az_F ex 125 227 18 [.ref 73, .int a1, .int a2, .retAddr 0, .retAddr 0] [.int (0 : Int32)] (97, I, J, R) _
        refine az_E.br (c := (0 : Int32) = 0) (tt := 21) (ff := 23) (L' := [.ref 73, .int a1, .int a2, .retAddr 0, .retAddr 0]) (S' := []) (σ' := (97, I, J, R)) rfl (fun _ => ?_) (fun hn => absurd (by decide) hn)
        refine az_E.sn 1 (pc' := 22) (L' := [.ref 73, .int a1, .int a2, .retAddr 0, .retAddr 0]) (S' := [.int (-1 : Int32)]) (σ' := (97, I, J, R)) rfl ?_
        have h := Option.some.inj h
        subst h
        exact az_E.ret (v := some (.int (-1 : Int32))) (σ' := (97, I, J, R)) rfl hQ
      · rw [if_neg hc_3] at h
        refine az_E.sn 3 (pc' := 10) (L' := [.long a2.toInt64, .retAddr 0, .long (0 : Int64), .retAddr 0, .long (3 : Int64), .retAddr 0]) (S' := [.int (lg_cmp a2.toInt64 (3 : Int64))]) (σ' := (97, I, J, R)) rfl ?_
        refine az_E.br (c := 0 < (lg_cmp a2.toInt64 (3 : Int64))) (tt := 17) (ff := 13) (L' := [.long a2.toInt64, .retAddr 0, .long (0 : Int64), .retAddr 0, .long (3 : Int64), .retAddr 0]) (S' := []) (σ' := (97, I, J, R)) rfl (fun hc_4 => ?_) (fun hc_4 => ?_)
        · rw [if_pos hc_4] at h
          refine az_E.sn 1 (pc' := 18) (L' := [.long a2.toInt64, .retAddr 0, .long (0 : Int64), .retAddr 0, .long (3 : Int64), .retAddr 0]) (S' := [.int (0 : Int32)]) (σ' := (97, I, J, R)) rfl ?_
          refine az_E.ret (v := some (.int (0 : Int32))) (σ' := (97, I, J, R)) rfl ?_
          show az_E az_F ex 125 227 18 [.ref 73, .int a1, .int a2, .retAddr 0, .retAddr 0] [.int (0 : Int32)] (97, I, J, R) _
          refine az_E.br (c := (0 : Int32) = 0) (tt := 21) (ff := 23) (L' := [.ref 73, .int a1, .int a2, .retAddr 0, .retAddr 0]) (S' := []) (σ' := (97, I, J, R)) rfl (fun _ => ?_) (fun hn => absurd (by decide) hn)
          refine az_E.sn 1 (pc' := 22) (L' := [.ref 73, .int a1, .int a2, .retAddr 0, .retAddr 0]) (S' := [.int (-1 : Int32)]) (σ' := (97, I, J, R)) rfl ?_
          have h := Option.some.inj h
          subst h
          exact az_E.ret (v := some (.int (-1 : Int32))) (σ' := (97, I, J, R)) rfl hQ
        · rw [if_neg hc_4] at h
          refine az_E.sn 2 (pc' := 18) (L' := [.long a2.toInt64, .retAddr 0, .long (0 : Int64), .retAddr 0, .long (3 : Int64), .retAddr 0]) (S' := [.int (1 : Int32)]) (σ' := (97, I, J, R)) rfl ?_
          refine az_E.ret (v := some (.int (1 : Int32))) (σ' := (97, I, J, R)) rfl ?_
          show az_E az_F ex 125 227 18 [.ref 73, .int a1, .int a2, .retAddr 0, .retAddr 0] [.int (1 : Int32)] (97, I, J, R) _
          refine az_E.br (c := (1 : Int32) = 0) (tt := 21) (ff := 23) (L' := [.ref 73, .int a1, .int a2, .retAddr 0, .retAddr 0]) (S' := []) (σ' := (97, I, J, R)) rfl (fun hn => absurd hn (by decide)) (fun _ => ?_)
          refine az_E.sn 3 (pc' := 28) (L' := [.ref 73, .int a1, .int a2, .retAddr 0, .retAddr 0]) (S' := [.int a1, .ref 78]) (σ' := (97, I, J, R)) rfl ?_
          by_cases hc_5 : a1 < 0 ∨ 6 ≤ a1.toNatClampNeg
          · rw [if_pos hc_5] at h; cases h
          · rw [if_neg hc_5] at h
            refine az_E.oi (o := az_ai az_F ex (97, I, J, R) 78 a1) (pc' := 29) (L' := [.ref 73, .int a1, .int a2, .retAddr 0, .retAddr 0]) (S' := []) (σ' := (97, I, J, R)) (x := (I 78 a1.toNatClampNeg)) rfl (if_neg hc_5) ?_
            refine az_E.sn 1 (pc' := 30) (L' := [.ref 73, .int a1, .int a2, .retAddr 0, .retAddr 0]) (S' := [.int a2, .int (I 78 a1.toNatClampNeg)]) (σ' := (97, I, J, R)) rfl ?_
            cases hx_7 : rs_M_beside (I 78 a1.toNatClampNeg) a2 with
            | none => rw [hx_7] at h; cases h
            | some x_6 =>
              rw [hx_7] at h
              dsimp only at h
              refine az_E.call (d := 124) (k' := 191) (vs := [.int (I 78 a1.toNatClampNeg), .int a2]) (pc' := 33) (S' := []) (Q1 := fun v s => v = some (.int x_6) ∧ s = (97, I, J, R)) rfl (az_E.deep (by omega) (re_M_beside (J := J) (R := R)  hx_7 ⟨rfl, rfl⟩)) (fun v s hq => ?_)
              obtain ⟨rfl, rfl⟩ := hq
              show az_E az_F ex 125 227 33 [.ref 73, .int a1, .int a2, .retAddr 0, .retAddr 0] [.int x_6] (97, I, J, R) _
              refine az_E.sn 2 (pc' := 35) (L' := [.ref 73, .int a1, .int a2, .int x_6, .retAddr 0]) (S' := [.int x_6]) (σ' := (97, I, J, R)) rfl ?_
              refine az_E.br (c := 0 ≤ x_6) (tt := 41) (ff := 38) (L' := [.ref 73, .int a1, .int a2, .int x_6, .retAddr 0]) (S' := []) (σ' := (97, I, J, R)) rfl (fun hc_8 => ?_) (fun hc_8 => ?_)
              · rw [if_pos hc_8] at h
                refine az_E.sn 2 (pc' := 43) (L' := [.ref 73, .int a1, .int a2, .int x_6, .retAddr 0]) (S' := [.int a1, .ref 73]) (σ' := (97, I, J, R)) rfl ?_
                cases hx_10 : rs_M_asksFor I a1 with
                | none => rw [hx_10] at h; cases h
                | some I_9 =>
                  rw [hx_10] at h
                  dsimp only at h
                  refine az_E.call (d := 124) (k' := 190) (vs := [.ref 73, .int a1]) (pc' := 46) (S' := []) (Q1 := fun v s => v = none ∧ s = (97, I_9, J, R)) rfl (az_E.deep (by omega) (re_M_asksFor (J := J) (R := R)  hx_10 ⟨rfl, rfl⟩)) (fun v s hq => ?_)
                  obtain ⟨rfl, rfl⟩ := hq
                  show az_E az_F ex 125 227 46 [.ref 73, .int a1, .int a2, .int x_6, .retAddr 0] [] (97, I_9, J, R) _
                  refine az_E.sn 4 (pc' := 52) (L' := [.ref 73, .int a1, .int a2, .int x_6, .retAddr 0]) (S' := [.int a1, .ref 78, .ref 73]) (σ' := (97, I_9, J, R)) rfl ?_
                  by_cases hc_11 : a1 < 0 ∨ 6 ≤ a1.toNatClampNeg
                  · rw [if_pos hc_11] at h; cases h
                  · rw [if_neg hc_11] at h
                    refine az_E.oi (o := az_ai az_F ex (97, I_9, J, R) 78 a1) (pc' := 53) (L' := [.ref 73, .int a1, .int a2, .int x_6, .retAddr 0]) (S' := [.ref 73]) (σ' := (97, I_9, J, R)) (x := (I_9 78 a1.toNatClampNeg)) rfl (if_neg hc_11) ?_
                    refine az_E.sn 1 (pc' := 54) (L' := [.ref 73, .int a1, .int a2, .int x_6, .retAddr 0]) (S' := [.int x_6, .int (I_9 78 a1.toNatClampNeg), .ref 73]) (σ' := (97, I_9, J, R)) rfl ?_
                    refine az_E.call (d := 124) (k' := 192) (vs := [.ref 73, .int (I_9 78 a1.toNatClampNeg), .int x_6]) (pc' := 57) (S' := []) rfl ?_ (fun _ _ hq => hq)
                    show az_E az_F ex 124 192 0 [.ref 73, .int (I_9 78 a1.toNatClampNeg), .int x_6] [] (97, I_9, J, R) _
                    refine az_E.sn 6 (pc' := 11) (L' := [.ref 73, .int (I_9 78 a1.toNatClampNeg), .int x_6]) (S' := [.int (I_9 78 a1.toNatClampNeg), .ref 74, .int (10 : Int32), .ref 83]) (σ' := (97, I_9, J, R)) rfl ?_
                    by_cases hc_12 : (I_9 78 a1.toNatClampNeg) < 0 ∨ 179 ≤ (I_9 78 a1.toNatClampNeg).toNatClampNeg
                    · rw [if_pos hc_12] at h; cases h
                    · rw [if_neg hc_12] at h
                      refine az_E.oi (o := az_ai az_F ex (97, I_9, J, R) 74 (I_9 78 a1.toNatClampNeg)) (pc' := 12) (L' := [.ref 73, .int (I_9 78 a1.toNatClampNeg), .int x_6]) (S' := [.int (10 : Int32), .ref 83]) (σ' := (97, I_9, J, R)) (x := (I_9 74 (I_9 78 a1.toNatClampNeg).toNatClampNeg)) rfl (if_neg hc_12) ?_
                      refine az_E.sn 4 (pc' := 18) (L' := [.ref 73, .int (I_9 78 a1.toNatClampNeg), .int x_6]) (S' := [.int x_6, .ref 74, .int ((10 : Int32) * (I_9 74 (I_9 78 a1.toNatClampNeg).toNatClampNeg)), .ref 83]) (σ' := (97, I_9, J, R)) rfl ?_
                      by_cases hc_13 : x_6 < 0 ∨ 179 ≤ x_6.toNatClampNeg
                      · rw [if_pos hc_13] at h; cases h
                      · rw [if_neg hc_13] at h
                        refine az_E.oi (o := az_ai az_F ex (97, I_9, J, R) 74 x_6) (pc' := 19) (L' := [.ref 73, .int (I_9 78 a1.toNatClampNeg), .int x_6]) (S' := [.int ((10 : Int32) * (I_9 74 (I_9 78 a1.toNatClampNeg).toNatClampNeg)), .ref 83]) (σ' := (97, I_9, J, R)) (x := (I_9 74 x_6.toNatClampNeg)) rfl (if_neg hc_13) ?_
                        refine az_E.sn 1 (pc' := 20) (L' := [.ref 73, .int (I_9 78 a1.toNatClampNeg), .int x_6]) (S' := [.int (((10 : Int32) * (I_9 74 (I_9 78 a1.toNatClampNeg).toNatClampNeg)) + (I_9 74 x_6.toNatClampNeg)), .ref 83]) (σ' := (97, I_9, J, R)) rfl ?_
                        by_cases hc_14 : (((10 : Int32) * (I_9 74 (I_9 78 a1.toNatClampNeg).toNatClampNeg)) + (I_9 74 x_6.toNatClampNeg)) < 0 ∨ 100 ≤ (((10 : Int32) * (I_9 74 (I_9 78 a1.toNatClampNeg).toNatClampNeg)) + (I_9 74 x_6.toNatClampNeg)).toNatClampNeg
                        · rw [if_pos hc_14] at h; cases h
                        · rw [if_neg hc_14] at h
                          refine az_E.oi (o := az_ai az_F ex (97, I_9, J, R) 83 (((10 : Int32) * (I_9 74 (I_9 78 a1.toNatClampNeg).toNatClampNeg)) + (I_9 74 x_6.toNatClampNeg))) (pc' := 21) (L' := [.ref 73, .int (I_9 78 a1.toNatClampNeg), .int x_6]) (S' := []) (σ' := (97, I_9, J, R)) (x := (I_9 83 (((10 : Int32) * (I_9 74 (I_9 78 a1.toNatClampNeg).toNatClampNeg)) + (I_9 74 x_6.toNatClampNeg)).toNatClampNeg)) rfl (if_neg hc_14) ?_
                          refine az_E.ret (v := some (.int (I_9 83 (((10 : Int32) * (I_9 74 (I_9 78 a1.toNatClampNeg).toNatClampNeg)) + (I_9 74 x_6.toNatClampNeg)).toNatClampNeg))) (σ' := (97, I_9, J, R)) rfl ?_
                          show az_E az_F ex 125 227 57 [.ref 73, .int a1, .int a2, .int x_6, .retAddr 0] [.int (I_9 83 (((10 : Int32) * (I_9 74 (I_9 78 a1.toNatClampNeg).toNatClampNeg)) + (I_9 74 x_6.toNatClampNeg)).toNatClampNeg)] (97, I_9, J, R) _
                          refine az_E.sn 5 (pc' := 65) (L' := [.ref 73, .int a1, .int a2, .int x_6, .int (I_9 83 (((10 : Int32) * (I_9 74 (I_9 78 a1.toNatClampNeg).toNatClampNeg)) + (I_9 74 x_6.toNatClampNeg)).toNatClampNeg)]) (S' := [.int x_6, .int a1, .ref 78]) (σ' := (97, I_9, J, R)) rfl ?_
                          by_cases hc_15 : a1 < 0 ∨ 6 ≤ a1.toNatClampNeg
                          · rw [if_pos hc_15] at h; cases h
                          · rw [if_neg hc_15] at h
                            refine az_E.o (o := az_si az_F (97, I_9, J, R) 78 a1 x_6) (pc' := 66) (L' := [.ref 73, .int a1, .int a2, .int x_6, .int (I_9 83 (((10 : Int32) * (I_9 74 (I_9 78 a1.toNatClampNeg).toNatClampNeg)) + (I_9 74 x_6.toNatClampNeg)).toNatClampNeg)]) (S' := []) (x := (97, (az_u I_9 78 a1.toNatClampNeg x_6), J, R)) rfl (if_neg hc_15) ?_
                            refine az_E.sn 4 (pc' := 72) (L' := [.ref 73, .int a1, .int a2, .int x_6, .int (I_9 83 (((10 : Int32) * (I_9 74 (I_9 78 a1.toNatClampNeg).toNatClampNeg)) + (I_9 74 x_6.toNatClampNeg)).toNatClampNeg)]) (S' := [.int a1, .ref 79, .int a1, .ref 79]) (σ' := (97, (az_u I_9 78 a1.toNatClampNeg x_6), J, R)) rfl ?_
                            by_cases hc_16 : a1 < 0 ∨ 6 ≤ a1.toNatClampNeg
                            · rw [if_pos hc_16] at h; cases h
                            · rw [if_neg hc_16] at h
                              refine az_E.oi (o := az_ai az_F ex (97, (az_u I_9 78 a1.toNatClampNeg x_6), J, R) 79 a1) (pc' := 73) (L' := [.ref 73, .int a1, .int a2, .int x_6, .int (I_9 83 (((10 : Int32) * (I_9 74 (I_9 78 a1.toNatClampNeg).toNatClampNeg)) + (I_9 74 x_6.toNatClampNeg)).toNatClampNeg)]) (S' := [.int a1, .ref 79]) (σ' := (97, (az_u I_9 78 a1.toNatClampNeg x_6), J, R)) (x := (I_9 79 a1.toNatClampNeg)) rfl (if_neg hc_16) ?_
                              refine az_E.sn 2 (pc' := 76) (L' := [.ref 73, .int a1, .int a2, .int x_6, .int (I_9 83 (((10 : Int32) * (I_9 74 (I_9 78 a1.toNatClampNeg).toNatClampNeg)) + (I_9 74 x_6.toNatClampNeg)).toNatClampNeg)]) (S' := [.int ((I_9 79 a1.toNatClampNeg) + (I_9 83 (((10 : Int32) * (I_9 74 (I_9 78 a1.toNatClampNeg).toNatClampNeg)) + (I_9 74 x_6.toNatClampNeg)).toNatClampNeg)), .int a1, .ref 79]) (σ' := (97, (az_u I_9 78 a1.toNatClampNeg x_6), J, R)) rfl ?_
                              by_cases hc_17 : a1 < 0 ∨ 6 ≤ a1.toNatClampNeg
                              · rw [if_pos hc_17] at h; cases h
                              · rw [if_neg hc_17] at h
                                refine az_E.o (o := az_si az_F (97, (az_u I_9 78 a1.toNatClampNeg x_6), J, R) 79 a1 ((I_9 79 a1.toNatClampNeg) + (I_9 83 (((10 : Int32) * (I_9 74 (I_9 78 a1.toNatClampNeg).toNatClampNeg)) + (I_9 74 x_6.toNatClampNeg)).toNatClampNeg))) (pc' := 77) (L' := [.ref 73, .int a1, .int a2, .int x_6, .int (I_9 83 (((10 : Int32) * (I_9 74 (I_9 78 a1.toNatClampNeg).toNatClampNeg)) + (I_9 74 x_6.toNatClampNeg)).toNatClampNeg)]) (S' := []) (x := (97, (az_u (az_u I_9 78 a1.toNatClampNeg x_6) 79 a1.toNatClampNeg ((I_9 79 a1.toNatClampNeg) + (I_9 83 (((10 : Int32) * (I_9 74 (I_9 78 a1.toNatClampNeg).toNatClampNeg)) + (I_9 74 x_6.toNatClampNeg)).toNatClampNeg))), J, R)) rfl (if_neg hc_17) ?_
                                refine az_E.sn 4 (pc' := 83) (L' := [.ref 73, .int a1, .int a2, .int x_6, .int (I_9 83 (((10 : Int32) * (I_9 74 (I_9 78 a1.toNatClampNeg).toNatClampNeg)) + (I_9 74 x_6.toNatClampNeg)).toNatClampNeg)]) (S' := [.int (0 : Int32), .ref 91, .int (0 : Int32), .ref 91]) (σ' := (97, (az_u (az_u I_9 78 a1.toNatClampNeg x_6) 79 a1.toNatClampNeg ((I_9 79 a1.toNatClampNeg) + (I_9 83 (((10 : Int32) * (I_9 74 (I_9 78 a1.toNatClampNeg).toNatClampNeg)) + (I_9 74 x_6.toNatClampNeg)).toNatClampNeg))), J, R)) rfl ?_
                                refine az_E.oi (o := az_ai az_F ex (97, (az_u (az_u I_9 78 a1.toNatClampNeg x_6) 79 a1.toNatClampNeg ((I_9 79 a1.toNatClampNeg) + (I_9 83 (((10 : Int32) * (I_9 74 (I_9 78 a1.toNatClampNeg).toNatClampNeg)) + (I_9 74 x_6.toNatClampNeg)).toNatClampNeg))), J, R) 91 (0 : Int32)) (pc' := 84) (L' := [.ref 73, .int a1, .int a2, .int x_6, .int (I_9 83 (((10 : Int32) * (I_9 74 (I_9 78 a1.toNatClampNeg).toNatClampNeg)) + (I_9 74 x_6.toNatClampNeg)).toNatClampNeg)]) (S' := [.int (0 : Int32), .ref 91]) (σ' := (97, (az_u (az_u I_9 78 a1.toNatClampNeg x_6) 79 a1.toNatClampNeg ((I_9 79 a1.toNatClampNeg) + (I_9 83 (((10 : Int32) * (I_9 74 (I_9 78 a1.toNatClampNeg).toNatClampNeg)) + (I_9 74 x_6.toNatClampNeg)).toNatClampNeg))), J, R)) (x := (I_9 91 0)) rfl rfl ?_
                                refine az_E.sn 2 (pc' := 86) (L' := [.ref 73, .int a1, .int a2, .int x_6, .int (I_9 83 (((10 : Int32) * (I_9 74 (I_9 78 a1.toNatClampNeg).toNatClampNeg)) + (I_9 74 x_6.toNatClampNeg)).toNatClampNeg)]) (S' := [.int ((I_9 91 0) + (1 : Int32)), .int (0 : Int32), .ref 91]) (σ' := (97, (az_u (az_u I_9 78 a1.toNatClampNeg x_6) 79 a1.toNatClampNeg ((I_9 79 a1.toNatClampNeg) + (I_9 83 (((10 : Int32) * (I_9 74 (I_9 78 a1.toNatClampNeg).toNatClampNeg)) + (I_9 74 x_6.toNatClampNeg)).toNatClampNeg))), J, R)) rfl ?_
                                refine az_E.o (o := az_si az_F (97, (az_u (az_u I_9 78 a1.toNatClampNeg x_6) 79 a1.toNatClampNeg ((I_9 79 a1.toNatClampNeg) + (I_9 83 (((10 : Int32) * (I_9 74 (I_9 78 a1.toNatClampNeg).toNatClampNeg)) + (I_9 74 x_6.toNatClampNeg)).toNatClampNeg))), J, R) 91 (0 : Int32) ((I_9 91 0) + (1 : Int32))) (pc' := 87) (L' := [.ref 73, .int a1, .int a2, .int x_6, .int (I_9 83 (((10 : Int32) * (I_9 74 (I_9 78 a1.toNatClampNeg).toNatClampNeg)) + (I_9 74 x_6.toNatClampNeg)).toNatClampNeg)]) (S' := []) (x := (97, (az_u (az_u (az_u I_9 78 a1.toNatClampNeg x_6) 79 a1.toNatClampNeg ((I_9 79 a1.toNatClampNeg) + (I_9 83 (((10 : Int32) * (I_9 74 (I_9 78 a1.toNatClampNeg).toNatClampNeg)) + (I_9 74 x_6.toNatClampNeg)).toNatClampNeg))) 91 0 ((I_9 91 0) + (1 : Int32))), J, R)) rfl rfl ?_
                                refine az_E.sn 4 (pc' := 93) (L' := [.ref 73, .int a1, .int a2, .int x_6, .int (I_9 83 (((10 : Int32) * (I_9 74 (I_9 78 a1.toNatClampNeg).toNatClampNeg)) + (I_9 74 x_6.toNatClampNeg)).toNatClampNeg)]) (S' := [.int (1 : Int32), .ref 91, .int (1 : Int32), .ref 91]) (σ' := (97, (az_u (az_u (az_u I_9 78 a1.toNatClampNeg x_6) 79 a1.toNatClampNeg ((I_9 79 a1.toNatClampNeg) + (I_9 83 (((10 : Int32) * (I_9 74 (I_9 78 a1.toNatClampNeg).toNatClampNeg)) + (I_9 74 x_6.toNatClampNeg)).toNatClampNeg))) 91 0 ((I_9 91 0) + (1 : Int32))), J, R)) rfl ?_
                                refine az_E.oi (o := az_ai az_F ex (97, (az_u (az_u (az_u I_9 78 a1.toNatClampNeg x_6) 79 a1.toNatClampNeg ((I_9 79 a1.toNatClampNeg) + (I_9 83 (((10 : Int32) * (I_9 74 (I_9 78 a1.toNatClampNeg).toNatClampNeg)) + (I_9 74 x_6.toNatClampNeg)).toNatClampNeg))) 91 0 ((I_9 91 0) + (1 : Int32))), J, R) 91 (1 : Int32)) (pc' := 94) (L' := [.ref 73, .int a1, .int a2, .int x_6, .int (I_9 83 (((10 : Int32) * (I_9 74 (I_9 78 a1.toNatClampNeg).toNatClampNeg)) + (I_9 74 x_6.toNatClampNeg)).toNatClampNeg)]) (S' := [.int (1 : Int32), .ref 91]) (σ' := (97, (az_u (az_u (az_u I_9 78 a1.toNatClampNeg x_6) 79 a1.toNatClampNeg ((I_9 79 a1.toNatClampNeg) + (I_9 83 (((10 : Int32) * (I_9 74 (I_9 78 a1.toNatClampNeg).toNatClampNeg)) + (I_9 74 x_6.toNatClampNeg)).toNatClampNeg))) 91 0 ((I_9 91 0) + (1 : Int32))), J, R)) (x := (I_9 91 1)) rfl rfl ?_
                                refine az_E.sn 2 (pc' := 97) (L' := [.ref 73, .int a1, .int a2, .int x_6, .int (I_9 83 (((10 : Int32) * (I_9 74 (I_9 78 a1.toNatClampNeg).toNatClampNeg)) + (I_9 74 x_6.toNatClampNeg)).toNatClampNeg)]) (S' := [.int ((I_9 91 1) + (I_9 83 (((10 : Int32) * (I_9 74 (I_9 78 a1.toNatClampNeg).toNatClampNeg)) + (I_9 74 x_6.toNatClampNeg)).toNatClampNeg)), .int (1 : Int32), .ref 91]) (σ' := (97, (az_u (az_u (az_u I_9 78 a1.toNatClampNeg x_6) 79 a1.toNatClampNeg ((I_9 79 a1.toNatClampNeg) + (I_9 83 (((10 : Int32) * (I_9 74 (I_9 78 a1.toNatClampNeg).toNatClampNeg)) + (I_9 74 x_6.toNatClampNeg)).toNatClampNeg))) 91 0 ((I_9 91 0) + (1 : Int32))), J, R)) rfl ?_
                                refine az_E.o (o := az_si az_F (97, (az_u (az_u (az_u I_9 78 a1.toNatClampNeg x_6) 79 a1.toNatClampNeg ((I_9 79 a1.toNatClampNeg) + (I_9 83 (((10 : Int32) * (I_9 74 (I_9 78 a1.toNatClampNeg).toNatClampNeg)) + (I_9 74 x_6.toNatClampNeg)).toNatClampNeg))) 91 0 ((I_9 91 0) + (1 : Int32))), J, R) 91 (1 : Int32) ((I_9 91 1) + (I_9 83 (((10 : Int32) * (I_9 74 (I_9 78 a1.toNatClampNeg).toNatClampNeg)) + (I_9 74 x_6.toNatClampNeg)).toNatClampNeg))) (pc' := 98) (L' := [.ref 73, .int a1, .int a2, .int x_6, .int (I_9 83 (((10 : Int32) * (I_9 74 (I_9 78 a1.toNatClampNeg).toNatClampNeg)) + (I_9 74 x_6.toNatClampNeg)).toNatClampNeg)]) (S' := []) (x := (97, (az_u (az_u (az_u (az_u I_9 78 a1.toNatClampNeg x_6) 79 a1.toNatClampNeg ((I_9 79 a1.toNatClampNeg) + (I_9 83 (((10 : Int32) * (I_9 74 (I_9 78 a1.toNatClampNeg).toNatClampNeg)) + (I_9 74 x_6.toNatClampNeg)).toNatClampNeg))) 91 0 ((I_9 91 0) + (1 : Int32))) 91 1 ((I_9 91 1) + (I_9 83 (((10 : Int32) * (I_9 74 (I_9 78 a1.toNatClampNeg).toNatClampNeg)) + (I_9 74 x_6.toNatClampNeg)).toNatClampNeg))), J, R)) rfl rfl ?_
                                refine az_E.sn 1 (pc' := 100) (L' := [.ref 73, .int a1, .int a2, .int x_6, .int (I_9 83 (((10 : Int32) * (I_9 74 (I_9 78 a1.toNatClampNeg).toNatClampNeg)) + (I_9 74 x_6.toNatClampNeg)).toNatClampNeg)]) (S' := [.int (I_9 83 (((10 : Int32) * (I_9 74 (I_9 78 a1.toNatClampNeg).toNatClampNeg)) + (I_9 74 x_6.toNatClampNeg)).toNatClampNeg)]) (σ' := (97, (az_u (az_u (az_u (az_u I_9 78 a1.toNatClampNeg x_6) 79 a1.toNatClampNeg ((I_9 79 a1.toNatClampNeg) + (I_9 83 (((10 : Int32) * (I_9 74 (I_9 78 a1.toNatClampNeg).toNatClampNeg)) + (I_9 74 x_6.toNatClampNeg)).toNatClampNeg))) 91 0 ((I_9 91 0) + (1 : Int32))) 91 1 ((I_9 91 1) + (I_9 83 (((10 : Int32) * (I_9 74 (I_9 78 a1.toNatClampNeg).toNatClampNeg)) + (I_9 74 x_6.toNatClampNeg)).toNatClampNeg))), J, R)) rfl ?_
                                have h := Option.some.inj h
                                subst h
                                exact az_E.ret (v := some (.int (I_9 83 (((10 : Int32) * (I_9 74 (I_9 78 a1.toNatClampNeg).toNatClampNeg)) + (I_9 74 x_6.toNatClampNeg)).toNatClampNeg))) (σ' := (97, (az_u (az_u (az_u (az_u I_9 78 a1.toNatClampNeg x_6) 79 a1.toNatClampNeg ((I_9 79 a1.toNatClampNeg) + (I_9 83 (((10 : Int32) * (I_9 74 (I_9 78 a1.toNatClampNeg).toNatClampNeg)) + (I_9 74 x_6.toNatClampNeg)).toNatClampNeg))) 91 0 ((I_9 91 0) + (1 : Int32))) 91 1 ((I_9 91 1) + (I_9 83 (((10 : Int32) * (I_9 74 (I_9 78 a1.toNatClampNeg).toNatClampNeg)) + (I_9 74 x_6.toNatClampNeg)).toNatClampNeg))), J, R)) rfl hQ
              · rw [if_neg hc_8] at h
                refine az_E.sn 1 (pc' := 40) (L' := [.ref 73, .int a1, .int a2, .int x_6, .retAddr 0]) (S' := [.int (-5 : Int32)]) (σ' := (97, I, J, R)) rfl ?_
                have h := Option.some.inj h
                subst h
                exact az_E.ret (v := some (.int (-5 : Int32))) (σ' := (97, I, J, R)) rfl hQ
set_option maxRecDepth 100000 in
set_option maxHeartbeats 4000000 in
theorem re_X_putDown {ex : az_X} {I : Nat → Nat → Int32} {J : Nat → Nat → Int64} {R : Nat → Nat → Option Nat} {a1 : Int32} {o : Int32 × (Nat → Nat → Int32)} (h : rs_X_putDown I a1 = some o) {Q : Option Value → az_S → Prop} (hQ : Q (some (.int o.1)) (97, o.2, J, R)) : az_E az_F ex 2 113 0 [.ref 3, .int a1, .retAddr 0] [] (97, I, J, R) Q := by
  unfold rs_X_putDown at h
  refine az_E.sn 2 (pc' := 2) (L' := [.ref 3, .int a1, .retAddr 0]) (S' := [.int a1, .ref 3]) (σ' := (97, I, J, R)) rfl ?_
  refine az_E.call (d := 1) (k' := 138) (vs := [.ref 3, .int a1]) (pc' := 5) (S' := []) rfl ?_ (fun _ _ hq => hq)
  show az_E az_F ex 1 138 0 [.ref 3, .int a1] [] (97, I, J, R) _
  refine az_E.sn 7 (pc' := 11) (L' := [.ref 3, .int a1]) (S' := [.int ((I 4 9) - (1 : Int32)), .int (0 : Int32), .int a1]) (σ' := (97, I, J, R)) rfl ?_
  refine az_E.call (d := 0) (k' := 131) (vs := [.int a1, .int (0 : Int32), .int ((I 4 9) - (1 : Int32))]) (pc' := 14) (S' := []) rfl ?_ (fun _ _ hq => hq)
  show az_E az_F ex 0 131 0 [.int a1, .int (0 : Int32), .int ((I 4 9) - (1 : Int32))] [] (97, I, J, R) _
  refine az_E.sn 2 (pc' := 2) (L' := [.int a1, .int (0 : Int32), .int ((I 4 9) - (1 : Int32))]) (S' := [.int (0 : Int32), .int a1]) (σ' := (97, I, J, R)) rfl ?_
  refine az_E.br (c := a1 < (0 : Int32)) (tt := 14) (ff := 5) (L' := [.int a1, .int (0 : Int32), .int ((I 4 9) - (1 : Int32))]) (S' := []) (σ' := (97, I, J, R)) rfl (fun hc_1 => ?_) (fun hc_1 => ?_)
  · rw [if_pos hc_1] at h
    refine az_E.sn 1 (pc' := 15) (L' := [.int a1, .int (0 : Int32), .int ((I 4 9) - (1 : Int32))]) (S' := [.int (0 : Int32)]) (σ' := (97, I, J, R)) rfl ?_
    refine az_E.ret (v := some (.int (0 : Int32))) (σ' := (97, I, J, R)) rfl ?_
    show az_E az_F ex 1 138 14 [.ref 3, .int a1] [.int (0 : Int32)] (97, I, J, R) _
    refine az_E.ret (v := some (.int (0 : Int32))) (σ' := (97, I, J, R)) rfl ?_
    show az_E az_F ex 2 113 5 [.ref 3, .int a1, .retAddr 0] [.int (0 : Int32)] (97, I, J, R) _
    refine az_E.br (c := (0 : Int32) = 0) (tt := 8) (ff := 10) (L' := [.ref 3, .int a1, .retAddr 0]) (S' := []) (σ' := (97, I, J, R)) rfl (fun _ => ?_) (fun hn => absurd (by decide) hn)
    refine az_E.sn 1 (pc' := 9) (L' := [.ref 3, .int a1, .retAddr 0]) (S' := [.int (-1 : Int32)]) (σ' := (97, I, J, R)) rfl ?_
    have h := Option.some.inj h
    subst h
    exact az_E.ret (v := some (.int (-1 : Int32))) (σ' := (97, I, J, R)) rfl hQ
  · rw [if_neg hc_1] at h
    refine az_E.sn 2 (pc' := 7) (L' := [.int a1, .int (0 : Int32), .int ((I 4 9) - (1 : Int32))]) (S' := [.int ((I 4 9) - (1 : Int32)), .int a1]) (σ' := (97, I, J, R)) rfl ?_
    refine az_E.br (c := ((I 4 9) - (1 : Int32)) < a1) (tt := 14) (ff := 10) (L' := [.int a1, .int (0 : Int32), .int ((I 4 9) - (1 : Int32))]) (S' := []) (σ' := (97, I, J, R)) rfl (fun hc_2 => ?_) (fun hc_2 => ?_)
    · rw [if_pos hc_2] at h
      refine az_E.sn 1 (pc' := 15) (L' := [.int a1, .int (0 : Int32), .int ((I 4 9) - (1 : Int32))]) (S' := [.int (0 : Int32)]) (σ' := (97, I, J, R)) rfl ?_
      refine az_E.ret (v := some (.int (0 : Int32))) (σ' := (97, I, J, R)) rfl ?_
      show az_E az_F ex 1 138 14 [.ref 3, .int a1] [.int (0 : Int32)] (97, I, J, R) _
      refine az_E.ret (v := some (.int (0 : Int32))) (σ' := (97, I, J, R)) rfl ?_
      show az_E az_F ex 2 113 5 [.ref 3, .int a1, .retAddr 0] [.int (0 : Int32)] (97, I, J, R) _
      refine az_E.br (c := (0 : Int32) = 0) (tt := 8) (ff := 10) (L' := [.ref 3, .int a1, .retAddr 0]) (S' := []) (σ' := (97, I, J, R)) rfl (fun _ => ?_) (fun hn => absurd (by decide) hn)
      refine az_E.sn 1 (pc' := 9) (L' := [.ref 3, .int a1, .retAddr 0]) (S' := [.int (-1 : Int32)]) (σ' := (97, I, J, R)) rfl ?_
      have h := Option.some.inj h
      subst h
      exact az_E.ret (v := some (.int (-1 : Int32))) (σ' := (97, I, J, R)) rfl hQ
    · rw [if_neg hc_2] at h
      refine az_E.sn 2 (pc' := 15) (L' := [.int a1, .int (0 : Int32), .int ((I 4 9) - (1 : Int32))]) (S' := [.int (1 : Int32)]) (σ' := (97, I, J, R)) rfl ?_
      refine az_E.ret (v := some (.int (1 : Int32))) (σ' := (97, I, J, R)) rfl ?_
      show az_E az_F ex 1 138 14 [.ref 3, .int a1] [.int (1 : Int32)] (97, I, J, R) _
      refine az_E.ret (v := some (.int (1 : Int32))) (σ' := (97, I, J, R)) rfl ?_
      show az_E az_F ex 2 113 5 [.ref 3, .int a1, .retAddr 0] [.int (1 : Int32)] (97, I, J, R) _
      refine az_E.br (c := (1 : Int32) = 0) (tt := 8) (ff := 10) (L' := [.ref 3, .int a1, .retAddr 0]) (S' := []) (σ' := (97, I, J, R)) rfl (fun hn => absurd hn (by decide)) (fun _ => ?_)
      refine az_E.sn 4 (pc' := 18) (L' := [.ref 3, .int a1, .retAddr 0]) (S' := [.int a1, .ref 9]) (σ' := (97, I, J, R)) rfl ?_
      by_cases hc_3 : a1 < 0 ∨ 6 ≤ a1.toNatClampNeg
      · rw [if_pos hc_3] at h; cases h
      · rw [if_neg hc_3] at h
        refine az_E.oi (o := az_ai az_F ex (97, I, J, R) 9 a1) (pc' := 19) (L' := [.ref 3, .int a1, .retAddr 0]) (S' := []) (σ' := (97, I, J, R)) (x := (I 9 a1.toNatClampNeg)) rfl (if_neg hc_3) ?_
        refine az_E.sn 6 (pc' := 29) (L' := [.ref 3, .int a1, .int (I 9 a1.toNatClampNeg)]) (S' := [.int (0 : Int32), .int a1, .ref 9]) (σ' := (97, I, J, R)) rfl ?_
        by_cases hc_4 : a1 < 0 ∨ 6 ≤ a1.toNatClampNeg
        · rw [if_pos hc_4] at h; cases h
        · rw [if_neg hc_4] at h
          refine az_E.o (o := az_si az_F (97, I, J, R) 9 a1 (0 : Int32)) (pc' := 30) (L' := [.ref 3, .int a1, .int (I 9 a1.toNatClampNeg)]) (S' := []) (x := (97, (az_u I 9 a1.toNatClampNeg (0 : Int32)), J, R)) rfl (if_neg hc_4) ?_
          refine az_E.sn 1 (pc' := 31) (L' := [.ref 3, .int a1, .int (I 9 a1.toNatClampNeg)]) (S' := [.int (I 9 a1.toNatClampNeg)]) (σ' := (97, (az_u I 9 a1.toNatClampNeg (0 : Int32)), J, R)) rfl ?_
          refine az_E.br (c := (I 9 a1.toNatClampNeg) ≤ 0) (tt := 47) (ff := 34) (L' := [.ref 3, .int a1, .int (I 9 a1.toNatClampNeg)]) (S' := []) (σ' := (97, (az_u I 9 a1.toNatClampNeg (0 : Int32)), J, R)) rfl (fun hc_5 => ?_) (fun hc_5 => ?_)
          · rw [if_pos hc_5] at h
            refine az_E.sn 1 (pc' := 48) (L' := [.ref 3, .int a1, .int (I 9 a1.toNatClampNeg)]) (S' := [.int (I 9 a1.toNatClampNeg)]) (σ' := (97, (az_u I 9 a1.toNatClampNeg (0 : Int32)), J, R)) rfl ?_
            have h := Option.some.inj h
            subst h
            exact az_E.ret (v := some (.int (I 9 a1.toNatClampNeg))) (σ' := (97, (az_u I 9 a1.toNatClampNeg (0 : Int32)), J, R)) rfl hQ
          · rw [if_neg hc_5] at h
            refine az_E.sn 5 (pc' := 43) (L' := [.ref 3, .int a1, .int (I 9 a1.toNatClampNeg)]) (S' := [.int (2 : Int32), .ref 13, .int (2 : Int32), .ref 13]) (σ' := (97, (az_u I 9 a1.toNatClampNeg (0 : Int32)), J, R)) rfl ?_
            refine az_E.oi (o := az_ai az_F ex (97, (az_u I 9 a1.toNatClampNeg (0 : Int32)), J, R) 13 (2 : Int32)) (pc' := 44) (L' := [.ref 3, .int a1, .int (I 9 a1.toNatClampNeg)]) (S' := [.int (2 : Int32), .ref 13]) (σ' := (97, (az_u I 9 a1.toNatClampNeg (0 : Int32)), J, R)) (x := (I 13 2)) rfl rfl ?_
            refine az_E.sn 2 (pc' := 46) (L' := [.ref 3, .int a1, .int (I 9 a1.toNatClampNeg)]) (S' := [.int ((I 13 2) + (1 : Int32)), .int (2 : Int32), .ref 13]) (σ' := (97, (az_u I 9 a1.toNatClampNeg (0 : Int32)), J, R)) rfl ?_
            refine az_E.o (o := az_si az_F (97, (az_u I 9 a1.toNatClampNeg (0 : Int32)), J, R) 13 (2 : Int32) ((I 13 2) + (1 : Int32))) (pc' := 47) (L' := [.ref 3, .int a1, .int (I 9 a1.toNatClampNeg)]) (S' := []) (x := (97, (az_u (az_u I 9 a1.toNatClampNeg (0 : Int32)) 13 2 ((I 13 2) + (1 : Int32))), J, R)) rfl rfl ?_
            refine az_E.sn 1 (pc' := 48) (L' := [.ref 3, .int a1, .int (I 9 a1.toNatClampNeg)]) (S' := [.int (I 9 a1.toNatClampNeg)]) (σ' := (97, (az_u (az_u I 9 a1.toNatClampNeg (0 : Int32)) 13 2 ((I 13 2) + (1 : Int32))), J, R)) rfl ?_
            have h := Option.some.inj h
            subst h
            exact az_E.ret (v := some (.int (I 9 a1.toNatClampNeg))) (σ' := (97, (az_u (az_u I 9 a1.toNatClampNeg (0 : Int32)) 13 2 ((I 13 2) + (1 : Int32))), J, R)) rfl hQ
set_option maxRecDepth 100000 in
set_option maxHeartbeats 4000000 in
theorem re_M_putDown_49 {ex : az_X} {I : Nat → Nat → Int32} {J : Nat → Nat → Int64} {R : Nat → Nat → Option Nat} {v2 : Int32} {s0 : Int32} {s1 : Int32} {s2 : Int32} {x : Int32 × (Nat → Nat → Int32)} (h : rs_M_putDown_49 I v2 s0 s1 s2 = some x) {Q : Option Value → az_S → Prop} (hQ : Q (some (.int x.1)) (97, x.2, J, R)) : az_E az_F ex 2 228 49 [.retAddr 0, .retAddr 0, .int v2] [.int s0, .int s1, .int s2, .ref 91] (97, I, J, R) Q := by
  unfold rs_M_putDown_49 at h
  refine az_E.sn 1 (pc' := 50) (L' := [.retAddr 0, .retAddr 0, .int v2]) (S' := [.int (s1 + s0), .int s2, .ref 91]) (σ' := (97, I, J, R)) rfl ?_
  by_cases hc_7 : s2 < 0 ∨ 4 ≤ s2.toNatClampNeg
  · rw [if_pos hc_7] at h; cases h
  · rw [if_neg hc_7] at h
    refine az_E.o (o := az_si az_F (97, I, J, R) 91 s2 (s1 + s0)) (pc' := 51) (L' := [.retAddr 0, .retAddr 0, .int v2]) (S' := []) (x := (97, (az_u I 91 s2.toNatClampNeg (s1 + s0)), J, R)) rfl (if_neg hc_7) ?_
    refine az_E.sn 1 (pc' := 52) (L' := [.retAddr 0, .retAddr 0, .int v2]) (S' := [.int v2]) (σ' := (97, (az_u I 91 s2.toNatClampNeg (s1 + s0)), J, R)) rfl ?_
    have h := Option.some.inj h
    subst h
    exact az_E.ret (v := some (.int v2)) (σ' := (97, (az_u I 91 s2.toNatClampNeg (s1 + s0)), J, R)) rfl hQ
set_option maxRecDepth 100000 in
set_option maxHeartbeats 4000000 in
theorem re_M_putDown {ex : az_X} {I : Nat → Nat → Int32} {J : Nat → Nat → Int64} {R : Nat → Nat → Option Nat} {a1 : Int32} {o : Int32 × (Nat → Nat → Int32)} (h : rs_M_putDown I a1 = some o) {Q : Option Value → az_S → Prop} (hQ : Q (some (.int o.1)) (97, o.2, J, R)) : az_E az_F ex 2 228 0 [.ref 73, .int a1, .retAddr 0] [] (97, I, J, R) Q := by
  unfold rs_M_putDown at h
  refine az_E.sn 3 (pc' := 3) (L' := [.ref 73, .int a1, .retAddr 0]) (S' := [.long a1.toInt64, .ref 73]) (σ' := (97, I, J, R)) rfl ?_
  refine az_E.call (d := 1) (k' := 162) (vs := [.ref 73, .long a1.toInt64]) (pc' := 6) (S' := []) rfl ?_ (fun _ _ hq => hq)
  show az_E az_F ex 1 162 0 [.ref 73, .long a1.toInt64, .retAddr 0] [] (97, I, J, R) _
  refine az_E.sn 7 (pc' := 9) (L' := [.ref 73, .long a1.toInt64, .retAddr 0]) (S' := [.long ((I 73 7) - (1 : Int32)).toInt64, .long (0 : Int64), .long a1.toInt64]) (σ' := (97, I, J, R)) rfl ?_
  refine az_E.call (d := 0) (k' := 154) (vs := [.long a1.toInt64, .long (0 : Int64), .long ((I 73 7) - (1 : Int32)).toInt64]) (pc' := 12) (S' := []) rfl ?_ (fun _ _ hq => hq)
  show az_E az_F ex 0 154 0 [.long a1.toInt64, .retAddr 0, .long (0 : Int64), .retAddr 0, .long ((I 73 7) - (1 : Int32)).toInt64, .retAddr 0] [] (97, I, J, R) _
  refine az_E.sn 3 (pc' := 3) (L' := [.long a1.toInt64, .retAddr 0, .long (0 : Int64), .retAddr 0, .long ((I 73 7) - (1 : Int32)).toInt64, .retAddr 0]) (S' := [.int (lg_cmp a1.toInt64 (0 : Int64))]) (σ' := (97, I, J, R)) rfl ?_
  refine az_E.br (c := (lg_cmp a1.toInt64 (0 : Int64)) < 0) (tt := 17) (ff := 6) (L' := [.long a1.toInt64, .retAddr 0, .long (0 : Int64), .retAddr 0, .long ((I 73 7) - (1 : Int32)).toInt64, .retAddr 0]) (S' := []) (σ' := (97, I, J, R)) rfl (fun hc_1 => ?_) (fun hc_1 => ?_)
  · rw [if_pos hc_1] at h
    refine az_E.sn 1 (pc' := 18) (L' := [.long a1.toInt64, .retAddr 0, .long (0 : Int64), .retAddr 0, .long ((I 73 7) - (1 : Int32)).toInt64, .retAddr 0]) (S' := [.int (0 : Int32)]) (σ' := (97, I, J, R)) rfl ?_
    refine az_E.ret (v := some (.int (0 : Int32))) (σ' := (97, I, J, R)) rfl ?_
    show az_E az_F ex 1 162 12 [.ref 73, .long a1.toInt64, .retAddr 0] [.int (0 : Int32)] (97, I, J, R) _
    refine az_E.ret (v := some (.int (0 : Int32))) (σ' := (97, I, J, R)) rfl ?_
    show az_E az_F ex 2 228 6 [.ref 73, .int a1, .retAddr 0] [.int (0 : Int32)] (97, I, J, R) _
    refine az_E.br (c := (0 : Int32) = 0) (tt := 9) (ff := 11) (L' := [.ref 73, .int a1, .retAddr 0]) (S' := []) (σ' := (97, I, J, R)) rfl (fun _ => ?_) (fun hn => absurd (by decide) hn)
    refine az_E.sn 1 (pc' := 10) (L' := [.ref 73, .int a1, .retAddr 0]) (S' := [.int (-1 : Int32)]) (σ' := (97, I, J, R)) rfl ?_
    have h := Option.some.inj h
    subst h
    exact az_E.ret (v := some (.int (-1 : Int32))) (σ' := (97, I, J, R)) rfl hQ
  · rw [if_neg hc_1] at h
    refine az_E.sn 3 (pc' := 10) (L' := [.long a1.toInt64, .retAddr 0, .long (0 : Int64), .retAddr 0, .long ((I 73 7) - (1 : Int32)).toInt64, .retAddr 0]) (S' := [.int (lg_cmp a1.toInt64 ((I 73 7) - (1 : Int32)).toInt64)]) (σ' := (97, I, J, R)) rfl ?_
    refine az_E.br (c := 0 < (lg_cmp a1.toInt64 ((I 73 7) - (1 : Int32)).toInt64)) (tt := 17) (ff := 13) (L' := [.long a1.toInt64, .retAddr 0, .long (0 : Int64), .retAddr 0, .long ((I 73 7) - (1 : Int32)).toInt64, .retAddr 0]) (S' := []) (σ' := (97, I, J, R)) rfl (fun hc_2 => ?_) (fun hc_2 => ?_)
    · rw [if_pos hc_2] at h
      refine az_E.sn 1 (pc' := 18) (L' := [.long a1.toInt64, .retAddr 0, .long (0 : Int64), .retAddr 0, .long ((I 73 7) - (1 : Int32)).toInt64, .retAddr 0]) (S' := [.int (0 : Int32)]) (σ' := (97, I, J, R)) rfl ?_
      refine az_E.ret (v := some (.int (0 : Int32))) (σ' := (97, I, J, R)) rfl ?_
      show az_E az_F ex 1 162 12 [.ref 73, .long a1.toInt64, .retAddr 0] [.int (0 : Int32)] (97, I, J, R) _
      refine az_E.ret (v := some (.int (0 : Int32))) (σ' := (97, I, J, R)) rfl ?_
      show az_E az_F ex 2 228 6 [.ref 73, .int a1, .retAddr 0] [.int (0 : Int32)] (97, I, J, R) _
      refine az_E.br (c := (0 : Int32) = 0) (tt := 9) (ff := 11) (L' := [.ref 73, .int a1, .retAddr 0]) (S' := []) (σ' := (97, I, J, R)) rfl (fun _ => ?_) (fun hn => absurd (by decide) hn)
      refine az_E.sn 1 (pc' := 10) (L' := [.ref 73, .int a1, .retAddr 0]) (S' := [.int (-1 : Int32)]) (σ' := (97, I, J, R)) rfl ?_
      have h := Option.some.inj h
      subst h
      exact az_E.ret (v := some (.int (-1 : Int32))) (σ' := (97, I, J, R)) rfl hQ
    · rw [if_neg hc_2] at h
      refine az_E.sn 2 (pc' := 18) (L' := [.long a1.toInt64, .retAddr 0, .long (0 : Int64), .retAddr 0, .long ((I 73 7) - (1 : Int32)).toInt64, .retAddr 0]) (S' := [.int (1 : Int32)]) (σ' := (97, I, J, R)) rfl ?_
      refine az_E.ret (v := some (.int (1 : Int32))) (σ' := (97, I, J, R)) rfl ?_
      show az_E az_F ex 1 162 12 [.ref 73, .long a1.toInt64, .retAddr 0] [.int (1 : Int32)] (97, I, J, R) _
      refine az_E.ret (v := some (.int (1 : Int32))) (σ' := (97, I, J, R)) rfl ?_
      show az_E az_F ex 2 228 6 [.ref 73, .int a1, .retAddr 0] [.int (1 : Int32)] (97, I, J, R) _
      refine az_E.br (c := (1 : Int32) = 0) (tt := 9) (ff := 11) (L' := [.ref 73, .int a1, .retAddr 0]) (S' := []) (σ' := (97, I, J, R)) rfl (fun hn => absurd hn (by decide)) (fun _ => ?_)
      refine az_E.sn 5 (pc' := 20) (L' := [.ref 73, .int a1, .retAddr 0]) (S' := [.int ((166 : Int32) + a1), .ref 74]) (σ' := (97, I, J, R)) rfl ?_
      by_cases hc_3 : ((166 : Int32) + a1) < 0 ∨ 179 ≤ ((166 : Int32) + a1).toNatClampNeg
      · rw [if_pos hc_3] at h; cases h
      · rw [if_neg hc_3] at h
        refine az_E.oi (o := az_ai az_F ex (97, I, J, R) 74 ((166 : Int32) + a1)) (pc' := 21) (L' := [.ref 73, .int a1, .retAddr 0]) (S' := []) (σ' := (97, I, J, R)) (x := (I 74 ((166 : Int32) + a1).toNatClampNeg)) rfl (if_neg hc_3) ?_
        refine az_E.sn 7 (pc' := 32) (L' := [.ref 73, .int a1, .int (I 74 ((166 : Int32) + a1).toNatClampNeg)]) (S' := [.int (0 : Int32), .int ((166 : Int32) + a1), .ref 74]) (σ' := (97, I, J, R)) rfl ?_
        by_cases hc_4 : ((166 : Int32) + a1) < 0 ∨ 179 ≤ ((166 : Int32) + a1).toNatClampNeg
        · rw [if_pos hc_4] at h; cases h
        · rw [if_neg hc_4] at h
          refine az_E.o (o := az_si az_F (97, I, J, R) 74 ((166 : Int32) + a1) (0 : Int32)) (pc' := 33) (L' := [.ref 73, .int a1, .int (I 74 ((166 : Int32) + a1).toNatClampNeg)]) (S' := []) (x := (97, (az_u I 74 ((166 : Int32) + a1).toNatClampNeg (0 : Int32)), J, R)) rfl (if_neg hc_4) ?_
          refine az_E.sn 4 (pc' := 39) (L' := [.ref 73, .int a1, .int (I 74 ((166 : Int32) + a1).toNatClampNeg)]) (S' := [.int (2 : Int32), .ref 91, .int (2 : Int32), .ref 91]) (σ' := (97, (az_u I 74 ((166 : Int32) + a1).toNatClampNeg (0 : Int32)), J, R)) rfl ?_
          refine az_E.oi (o := az_ai az_F ex (97, (az_u I 74 ((166 : Int32) + a1).toNatClampNeg (0 : Int32)), J, R) 91 (2 : Int32)) (pc' := 40) (L' := [.ref 73, .int a1, .int (I 74 ((166 : Int32) + a1).toNatClampNeg)]) (S' := [.int (2 : Int32), .ref 91]) (σ' := (97, (az_u I 74 ((166 : Int32) + a1).toNatClampNeg (0 : Int32)), J, R)) (x := (I 91 2)) rfl rfl ?_
          refine az_E.sn 1 (pc' := 41) (L' := [.ref 73, .int a1, .int (I 74 ((166 : Int32) + a1).toNatClampNeg)]) (S' := [.int (I 74 ((166 : Int32) + a1).toNatClampNeg), .int (I 91 2), .int (2 : Int32), .ref 91]) (σ' := (97, (az_u I 74 ((166 : Int32) + a1).toNatClampNeg (0 : Int32)), J, R)) rfl ?_
          refine az_E.br (c := (I 74 ((166 : Int32) + a1).toNatClampNeg) ≤ 0) (tt := 48) (ff := 44) (L' := [.ref 73, .int a1, .int (I 74 ((166 : Int32) + a1).toNatClampNeg)]) (S' := [.int (I 91 2), .int (2 : Int32), .ref 91]) (σ' := (97, (az_u I 74 ((166 : Int32) + a1).toNatClampNeg (0 : Int32)), J, R)) rfl (fun hc_6 => ?_) (fun hc_6 => ?_)
          · rw [if_pos hc_6] at h
            refine az_E.sn 1 (pc' := 49) (L' := [.ref 73, .int a1, .int (I 74 ((166 : Int32) + a1).toNatClampNeg)]) (S' := [.int (0 : Int32), .int (I 91 2), .int (2 : Int32), .ref 91]) (σ' := (97, (az_u I 74 ((166 : Int32) + a1).toNatClampNeg (0 : Int32)), J, R)) rfl ?_
            exact az_E.forget (L := [.retAddr 0, .retAddr 0, .int (I 74 ((166 : Int32) + a1).toNatClampNeg)]) ⟨trivial, trivial, rfl, trivial⟩ (re_M_putDown_49 (I := (az_u I 74 ((166 : Int32) + a1).toNatClampNeg (0 : Int32))) (J := J) (R := R)  h hQ)
          · rw [if_neg hc_6] at h
            refine az_E.sn 2 (pc' := 49) (L' := [.ref 73, .int a1, .int (I 74 ((166 : Int32) + a1).toNatClampNeg)]) (S' := [.int (1 : Int32), .int (I 91 2), .int (2 : Int32), .ref 91]) (σ' := (97, (az_u I 74 ((166 : Int32) + a1).toNatClampNeg (0 : Int32)), J, R)) rfl ?_
            exact az_E.forget (L := [.retAddr 0, .retAddr 0, .int (I 74 ((166 : Int32) + a1).toNatClampNeg)]) ⟨trivial, trivial, rfl, trivial⟩ (re_M_putDown_49 (I := (az_u I 74 ((166 : Int32) + a1).toNatClampNeg (0 : Int32))) (J := J) (R := R)  h hQ)
set_option maxRecDepth 100000 in
set_option maxHeartbeats 4000000 in
theorem re_X_takes {ex : az_X} {I : Nat → Nat → Int32} {J : Nat → Nat → Int64} {R : Nat → Nat → Option Nat} {a1 : Int32} {a2 : Int32} {o : Int32 × (Nat → Nat → Int32)} (h : rs_X_takes I a1 a2 = some o) {Q : Option Value → az_S → Prop} (hQ : Q (some (.int o.1)) (97, o.2, J, R)) : az_E az_F ex 2 114 0 [.ref 3, .int a1, .int a2] [] (97, I, J, R) Q := by
  unfold rs_X_takes at h
  refine az_E.sn 2 (pc' := 2) (L' := [.ref 3, .int a1, .int a2]) (S' := [.int a1, .ref 3]) (σ' := (97, I, J, R)) rfl ?_
  refine az_E.call (d := 1) (k' := 138) (vs := [.ref 3, .int a1]) (pc' := 5) (S' := []) rfl ?_ (fun _ _ hq => hq)
  show az_E az_F ex 1 138 0 [.ref 3, .int a1] [] (97, I, J, R) _
  refine az_E.sn 7 (pc' := 11) (L' := [.ref 3, .int a1]) (S' := [.int ((I 4 9) - (1 : Int32)), .int (0 : Int32), .int a1]) (σ' := (97, I, J, R)) rfl ?_
  refine az_E.call (d := 0) (k' := 131) (vs := [.int a1, .int (0 : Int32), .int ((I 4 9) - (1 : Int32))]) (pc' := 14) (S' := []) rfl ?_ (fun _ _ hq => hq)
  show az_E az_F ex 0 131 0 [.int a1, .int (0 : Int32), .int ((I 4 9) - (1 : Int32))] [] (97, I, J, R) _
  refine az_E.sn 2 (pc' := 2) (L' := [.int a1, .int (0 : Int32), .int ((I 4 9) - (1 : Int32))]) (S' := [.int (0 : Int32), .int a1]) (σ' := (97, I, J, R)) rfl ?_
  refine az_E.br (c := a1 < (0 : Int32)) (tt := 14) (ff := 5) (L' := [.int a1, .int (0 : Int32), .int ((I 4 9) - (1 : Int32))]) (S' := []) (σ' := (97, I, J, R)) rfl (fun hc_1 => ?_) (fun hc_1 => ?_)
  · rw [if_pos hc_1] at h
    refine az_E.sn 1 (pc' := 15) (L' := [.int a1, .int (0 : Int32), .int ((I 4 9) - (1 : Int32))]) (S' := [.int (0 : Int32)]) (σ' := (97, I, J, R)) rfl ?_
    refine az_E.ret (v := some (.int (0 : Int32))) (σ' := (97, I, J, R)) rfl ?_
    show az_E az_F ex 1 138 14 [.ref 3, .int a1] [.int (0 : Int32)] (97, I, J, R) _
    refine az_E.ret (v := some (.int (0 : Int32))) (σ' := (97, I, J, R)) rfl ?_
    show az_E az_F ex 2 114 5 [.ref 3, .int a1, .int a2] [.int (0 : Int32)] (97, I, J, R) _
    refine az_E.br (c := (0 : Int32) = 0) (tt := 18) (ff := 8) (L' := [.ref 3, .int a1, .int a2]) (S' := []) (σ' := (97, I, J, R)) rfl (fun _ => ?_) (fun hn => absurd (by decide) hn)
    refine az_E.sn 1 (pc' := 19) (L' := [.ref 3, .int a1, .int a2]) (S' := [.int (-1 : Int32)]) (σ' := (97, I, J, R)) rfl ?_
    have h := Option.some.inj h
    subst h
    exact az_E.ret (v := some (.int (-1 : Int32))) (σ' := (97, I, J, R)) rfl hQ
  · rw [if_neg hc_1] at h
    refine az_E.sn 2 (pc' := 7) (L' := [.int a1, .int (0 : Int32), .int ((I 4 9) - (1 : Int32))]) (S' := [.int ((I 4 9) - (1 : Int32)), .int a1]) (σ' := (97, I, J, R)) rfl ?_
    refine az_E.br (c := ((I 4 9) - (1 : Int32)) < a1) (tt := 14) (ff := 10) (L' := [.int a1, .int (0 : Int32), .int ((I 4 9) - (1 : Int32))]) (S' := []) (σ' := (97, I, J, R)) rfl (fun hc_2 => ?_) (fun hc_2 => ?_)
    · rw [if_pos hc_2] at h
      refine az_E.sn 1 (pc' := 15) (L' := [.int a1, .int (0 : Int32), .int ((I 4 9) - (1 : Int32))]) (S' := [.int (0 : Int32)]) (σ' := (97, I, J, R)) rfl ?_
      refine az_E.ret (v := some (.int (0 : Int32))) (σ' := (97, I, J, R)) rfl ?_
      show az_E az_F ex 1 138 14 [.ref 3, .int a1] [.int (0 : Int32)] (97, I, J, R) _
      refine az_E.ret (v := some (.int (0 : Int32))) (σ' := (97, I, J, R)) rfl ?_
      show az_E az_F ex 2 114 5 [.ref 3, .int a1, .int a2] [.int (0 : Int32)] (97, I, J, R) _
      refine az_E.br (c := (0 : Int32) = 0) (tt := 18) (ff := 8) (L' := [.ref 3, .int a1, .int a2]) (S' := []) (σ' := (97, I, J, R)) rfl (fun _ => ?_) (fun hn => absurd (by decide) hn)
      refine az_E.sn 1 (pc' := 19) (L' := [.ref 3, .int a1, .int a2]) (S' := [.int (-1 : Int32)]) (σ' := (97, I, J, R)) rfl ?_
      have h := Option.some.inj h
      subst h
      exact az_E.ret (v := some (.int (-1 : Int32))) (σ' := (97, I, J, R)) rfl hQ
    · rw [if_neg hc_2] at h
      refine az_E.sn 2 (pc' := 15) (L' := [.int a1, .int (0 : Int32), .int ((I 4 9) - (1 : Int32))]) (S' := [.int (1 : Int32)]) (σ' := (97, I, J, R)) rfl ?_
      refine az_E.ret (v := some (.int (1 : Int32))) (σ' := (97, I, J, R)) rfl ?_
      show az_E az_F ex 1 138 14 [.ref 3, .int a1] [.int (1 : Int32)] (97, I, J, R) _
      refine az_E.ret (v := some (.int (1 : Int32))) (σ' := (97, I, J, R)) rfl ?_
      show az_E az_F ex 2 114 5 [.ref 3, .int a1, .int a2] [.int (1 : Int32)] (97, I, J, R) _
      refine az_E.br (c := (1 : Int32) = 0) (tt := 18) (ff := 8) (L' := [.ref 3, .int a1, .int a2]) (S' := []) (σ' := (97, I, J, R)) rfl (fun hn => absurd hn (by decide)) (fun _ => ?_)
      refine az_E.sn 3 (pc' := 12) (L' := [.ref 3, .int a1, .int a2]) (S' := [.int (9 : Int32), .int (1 : Int32), .int a2]) (σ' := (97, I, J, R)) rfl ?_
      refine az_E.call (d := 1) (k' := 131) (vs := [.int a2, .int (1 : Int32), .int (9 : Int32)]) (pc' := 15) (S' := []) rfl ?_ (fun _ _ hq => hq)
      show az_E az_F ex 1 131 0 [.int a2, .int (1 : Int32), .int (9 : Int32)] [] (97, I, J, R) _
      refine az_E.sn 2 (pc' := 2) (L' := [.int a2, .int (1 : Int32), .int (9 : Int32)]) (S' := [.int (1 : Int32), .int a2]) (σ' := (97, I, J, R)) rfl ?_
      refine az_E.br (c := a2 < (1 : Int32)) (tt := 14) (ff := 5) (L' := [.int a2, .int (1 : Int32), .int (9 : Int32)]) (S' := []) (σ' := (97, I, J, R)) rfl (fun hc_3 => ?_) (fun hc_3 => ?_)
      · rw [if_pos hc_3] at h
        refine az_E.sn 1 (pc' := 15) (L' := [.int a2, .int (1 : Int32), .int (9 : Int32)]) (S' := [.int (0 : Int32)]) (σ' := (97, I, J, R)) rfl ?_
        refine az_E.ret (v := some (.int (0 : Int32))) (σ' := (97, I, J, R)) rfl ?_
        show az_E az_F ex 2 114 15 [.ref 3, .int a1, .int a2] [.int (0 : Int32)] (97, I, J, R) _
        refine az_E.br (c := (0 : Int32) = 0) (tt := 18) (ff := 20) (L' := [.ref 3, .int a1, .int a2]) (S' := []) (σ' := (97, I, J, R)) rfl (fun _ => ?_) (fun hn => absurd (by decide) hn)
        refine az_E.sn 1 (pc' := 19) (L' := [.ref 3, .int a1, .int a2]) (S' := [.int (-1 : Int32)]) (σ' := (97, I, J, R)) rfl ?_
        have h := Option.some.inj h
        subst h
        exact az_E.ret (v := some (.int (-1 : Int32))) (σ' := (97, I, J, R)) rfl hQ
      · rw [if_neg hc_3] at h
        refine az_E.sn 2 (pc' := 7) (L' := [.int a2, .int (1 : Int32), .int (9 : Int32)]) (S' := [.int (9 : Int32), .int a2]) (σ' := (97, I, J, R)) rfl ?_
        refine az_E.br (c := (9 : Int32) < a2) (tt := 14) (ff := 10) (L' := [.int a2, .int (1 : Int32), .int (9 : Int32)]) (S' := []) (σ' := (97, I, J, R)) rfl (fun hc_4 => ?_) (fun hc_4 => ?_)
        · rw [if_pos hc_4] at h
          refine az_E.sn 1 (pc' := 15) (L' := [.int a2, .int (1 : Int32), .int (9 : Int32)]) (S' := [.int (0 : Int32)]) (σ' := (97, I, J, R)) rfl ?_
          refine az_E.ret (v := some (.int (0 : Int32))) (σ' := (97, I, J, R)) rfl ?_
          show az_E az_F ex 2 114 15 [.ref 3, .int a1, .int a2] [.int (0 : Int32)] (97, I, J, R) _
          refine az_E.br (c := (0 : Int32) = 0) (tt := 18) (ff := 20) (L' := [.ref 3, .int a1, .int a2]) (S' := []) (σ' := (97, I, J, R)) rfl (fun _ => ?_) (fun hn => absurd (by decide) hn)
          refine az_E.sn 1 (pc' := 19) (L' := [.ref 3, .int a1, .int a2]) (S' := [.int (-1 : Int32)]) (σ' := (97, I, J, R)) rfl ?_
          have h := Option.some.inj h
          subst h
          exact az_E.ret (v := some (.int (-1 : Int32))) (σ' := (97, I, J, R)) rfl hQ
        · rw [if_neg hc_4] at h
          refine az_E.sn 2 (pc' := 15) (L' := [.int a2, .int (1 : Int32), .int (9 : Int32)]) (S' := [.int (1 : Int32)]) (σ' := (97, I, J, R)) rfl ?_
          refine az_E.ret (v := some (.int (1 : Int32))) (σ' := (97, I, J, R)) rfl ?_
          show az_E az_F ex 2 114 15 [.ref 3, .int a1, .int a2] [.int (1 : Int32)] (97, I, J, R) _
          refine az_E.br (c := (1 : Int32) = 0) (tt := 18) (ff := 20) (L' := [.ref 3, .int a1, .int a2]) (S' := []) (σ' := (97, I, J, R)) rfl (fun hn => absurd hn (by decide)) (fun _ => ?_)
          refine az_E.sn 4 (pc' := 28) (L' := [.ref 3, .int a1, .int a2]) (S' := [.int a1, .ref 9]) (σ' := (97, I, J, R)) rfl ?_
          by_cases hc_5 : a1 < 0 ∨ 6 ≤ a1.toNatClampNeg
          · rw [if_pos hc_5] at h; cases h
          · rw [if_neg hc_5] at h
            refine az_E.oi (o := az_ai az_F ex (97, I, J, R) 9 a1) (pc' := 29) (L' := [.ref 3, .int a1, .int a2]) (S' := []) (σ' := (97, I, J, R)) (x := (I 9 a1.toNatClampNeg)) rfl (if_neg hc_5) ?_
            refine az_E.br (c := (I 9 a1.toNatClampNeg) ≤ 0) (tt := 35) (ff := 32) (L' := [.ref 3, .int a1, .int a2]) (S' := []) (σ' := (97, I, J, R)) rfl (fun hc_6 => ?_) (fun hc_6 => ?_)
            · rw [if_pos hc_6] at h
              refine az_E.sn 5 (pc' := 44) (L' := [.ref 3, .int a1, .int a2]) (S' := [.int a2, .int a1, .ref 9]) (σ' := (97, I, J, R)) rfl ?_
              by_cases hc_7 : a1 < 0 ∨ 6 ≤ a1.toNatClampNeg
              · rw [if_pos hc_7] at h; cases h
              · rw [if_neg hc_7] at h
                refine az_E.o (o := az_si az_F (97, I, J, R) 9 a1 a2) (pc' := 45) (L' := [.ref 3, .int a1, .int a2]) (S' := []) (x := (97, (az_u I 9 a1.toNatClampNeg a2), J, R)) rfl (if_neg hc_7) ?_
                refine az_E.sn 1 (pc' := 46) (L' := [.ref 3, .int a1, .int a2]) (S' := [.int (1 : Int32)]) (σ' := (97, (az_u I 9 a1.toNatClampNeg a2), J, R)) rfl ?_
                have h := Option.some.inj h
                subst h
                exact az_E.ret (v := some (.int (1 : Int32))) (σ' := (97, (az_u I 9 a1.toNatClampNeg a2), J, R)) rfl hQ
            · rw [if_neg hc_6] at h
              refine az_E.sn 1 (pc' := 34) (L' := [.ref 3, .int a1, .int a2]) (S' := [.int (-5 : Int32)]) (σ' := (97, I, J, R)) rfl ?_
              have h := Option.some.inj h
              subst h
              exact az_E.ret (v := some (.int (-5 : Int32))) (σ' := (97, I, J, R)) rfl hQ
set_option maxRecDepth 100000 in
set_option maxHeartbeats 4000000 in
theorem re_M_takes {ex : az_X} {I : Nat → Nat → Int32} {J : Nat → Nat → Int64} {R : Nat → Nat → Option Nat} {a1 : Int32} {a2 : Int32} {o : Int32 × (Nat → Nat → Int32)} (h : rs_M_takes I a1 a2 = some o) {Q : Option Value → az_S → Prop} (hQ : Q (some (.int o.1)) (97, o.2, J, R)) : az_E az_F ex 2 229 0 [.ref 73, .int a1, .int a2] [] (97, I, J, R) Q := by
  unfold rs_M_takes at h
  refine az_E.sn 3 (pc' := 3) (L' := [.ref 73, .int a1, .int a2]) (S' := [.long a1.toInt64, .ref 73]) (σ' := (97, I, J, R)) rfl ?_
  refine az_E.call (d := 1) (k' := 162) (vs := [.ref 73, .long a1.toInt64]) (pc' := 6) (S' := []) rfl ?_ (fun _ _ hq => hq)
  show az_E az_F ex 1 162 0 [.ref 73, .long a1.toInt64, .retAddr 0] [] (97, I, J, R) _
  refine az_E.sn 7 (pc' := 9) (L' := [.ref 73, .long a1.toInt64, .retAddr 0]) (S' := [.long ((I 73 7) - (1 : Int32)).toInt64, .long (0 : Int64), .long a1.toInt64]) (σ' := (97, I, J, R)) rfl ?_
  refine az_E.call (d := 0) (k' := 154) (vs := [.long a1.toInt64, .long (0 : Int64), .long ((I 73 7) - (1 : Int32)).toInt64]) (pc' := 12) (S' := []) rfl ?_ (fun _ _ hq => hq)
  show az_E az_F ex 0 154 0 [.long a1.toInt64, .retAddr 0, .long (0 : Int64), .retAddr 0, .long ((I 73 7) - (1 : Int32)).toInt64, .retAddr 0] [] (97, I, J, R) _
  refine az_E.sn 3 (pc' := 3) (L' := [.long a1.toInt64, .retAddr 0, .long (0 : Int64), .retAddr 0, .long ((I 73 7) - (1 : Int32)).toInt64, .retAddr 0]) (S' := [.int (lg_cmp a1.toInt64 (0 : Int64))]) (σ' := (97, I, J, R)) rfl ?_
  refine az_E.br (c := (lg_cmp a1.toInt64 (0 : Int64)) < 0) (tt := 17) (ff := 6) (L' := [.long a1.toInt64, .retAddr 0, .long (0 : Int64), .retAddr 0, .long ((I 73 7) - (1 : Int32)).toInt64, .retAddr 0]) (S' := []) (σ' := (97, I, J, R)) rfl (fun hc_1 => ?_) (fun hc_1 => ?_)
  · rw [if_pos hc_1] at h
    refine az_E.sn 1 (pc' := 18) (L' := [.long a1.toInt64, .retAddr 0, .long (0 : Int64), .retAddr 0, .long ((I 73 7) - (1 : Int32)).toInt64, .retAddr 0]) (S' := [.int (0 : Int32)]) (σ' := (97, I, J, R)) rfl ?_
    refine az_E.ret (v := some (.int (0 : Int32))) (σ' := (97, I, J, R)) rfl ?_
    show az_E az_F ex 1 162 12 [.ref 73, .long a1.toInt64, .retAddr 0] [.int (0 : Int32)] (97, I, J, R) _
    refine az_E.ret (v := some (.int (0 : Int32))) (σ' := (97, I, J, R)) rfl ?_
    show az_E az_F ex 2 229 6 [.ref 73, .int a1, .int a2] [.int (0 : Int32)] (97, I, J, R) _
    refine az_E.br (c := (0 : Int32) = 0) (tt := 21) (ff := 9) (L' := [.ref 73, .int a1, .int a2]) (S' := []) (σ' := (97, I, J, R)) rfl (fun _ => ?_) (fun hn => absurd (by decide) hn)
    refine az_E.sn 1 (pc' := 22) (L' := [.ref 73, .int a1, .int a2]) (S' := [.int (-1 : Int32)]) (σ' := (97, I, J, R)) rfl ?_
    have h := Option.some.inj h
    subst h
    exact az_E.ret (v := some (.int (-1 : Int32))) (σ' := (97, I, J, R)) rfl hQ
  · rw [if_neg hc_1] at h
    refine az_E.sn 3 (pc' := 10) (L' := [.long a1.toInt64, .retAddr 0, .long (0 : Int64), .retAddr 0, .long ((I 73 7) - (1 : Int32)).toInt64, .retAddr 0]) (S' := [.int (lg_cmp a1.toInt64 ((I 73 7) - (1 : Int32)).toInt64)]) (σ' := (97, I, J, R)) rfl ?_
    refine az_E.br (c := 0 < (lg_cmp a1.toInt64 ((I 73 7) - (1 : Int32)).toInt64)) (tt := 17) (ff := 13) (L' := [.long a1.toInt64, .retAddr 0, .long (0 : Int64), .retAddr 0, .long ((I 73 7) - (1 : Int32)).toInt64, .retAddr 0]) (S' := []) (σ' := (97, I, J, R)) rfl (fun hc_2 => ?_) (fun hc_2 => ?_)
    · rw [if_pos hc_2] at h
      refine az_E.sn 1 (pc' := 18) (L' := [.long a1.toInt64, .retAddr 0, .long (0 : Int64), .retAddr 0, .long ((I 73 7) - (1 : Int32)).toInt64, .retAddr 0]) (S' := [.int (0 : Int32)]) (σ' := (97, I, J, R)) rfl ?_
      refine az_E.ret (v := some (.int (0 : Int32))) (σ' := (97, I, J, R)) rfl ?_
      show az_E az_F ex 1 162 12 [.ref 73, .long a1.toInt64, .retAddr 0] [.int (0 : Int32)] (97, I, J, R) _
      refine az_E.ret (v := some (.int (0 : Int32))) (σ' := (97, I, J, R)) rfl ?_
      show az_E az_F ex 2 229 6 [.ref 73, .int a1, .int a2] [.int (0 : Int32)] (97, I, J, R) _
      refine az_E.br (c := (0 : Int32) = 0) (tt := 21) (ff := 9) (L' := [.ref 73, .int a1, .int a2]) (S' := []) (σ' := (97, I, J, R)) rfl (fun _ => ?_) (fun hn => absurd (by decide) hn)
      refine az_E.sn 1 (pc' := 22) (L' := [.ref 73, .int a1, .int a2]) (S' := [.int (-1 : Int32)]) (σ' := (97, I, J, R)) rfl ?_
      have h := Option.some.inj h
      subst h
      exact az_E.ret (v := some (.int (-1 : Int32))) (σ' := (97, I, J, R)) rfl hQ
    · rw [if_neg hc_2] at h
      refine az_E.sn 2 (pc' := 18) (L' := [.long a1.toInt64, .retAddr 0, .long (0 : Int64), .retAddr 0, .long ((I 73 7) - (1 : Int32)).toInt64, .retAddr 0]) (S' := [.int (1 : Int32)]) (σ' := (97, I, J, R)) rfl ?_
      refine az_E.ret (v := some (.int (1 : Int32))) (σ' := (97, I, J, R)) rfl ?_
      show az_E az_F ex 1 162 12 [.ref 73, .long a1.toInt64, .retAddr 0] [.int (1 : Int32)] (97, I, J, R) _
      refine az_E.ret (v := some (.int (1 : Int32))) (σ' := (97, I, J, R)) rfl ?_
      show az_E az_F ex 2 229 6 [.ref 73, .int a1, .int a2] [.int (1 : Int32)] (97, I, J, R) _
      refine az_E.br (c := (1 : Int32) = 0) (tt := 21) (ff := 9) (L' := [.ref 73, .int a1, .int a2]) (S' := []) (σ' := (97, I, J, R)) rfl (fun hn => absurd hn (by decide)) (fun _ => ?_)
      refine az_E.sn 4 (pc' := 15) (L' := [.ref 73, .int a1, .int a2]) (S' := [.long (9 : Int64), .long (1 : Int64), .long a2.toInt64]) (σ' := (97, I, J, R)) rfl ?_
      refine az_E.call (d := 1) (k' := 154) (vs := [.long a2.toInt64, .long (1 : Int64), .long (9 : Int64)]) (pc' := 18) (S' := []) rfl ?_ (fun _ _ hq => hq)
      show az_E az_F ex 1 154 0 [.long a2.toInt64, .retAddr 0, .long (1 : Int64), .retAddr 0, .long (9 : Int64), .retAddr 0] [] (97, I, J, R) _
      refine az_E.sn 3 (pc' := 3) (L' := [.long a2.toInt64, .retAddr 0, .long (1 : Int64), .retAddr 0, .long (9 : Int64), .retAddr 0]) (S' := [.int (lg_cmp a2.toInt64 (1 : Int64))]) (σ' := (97, I, J, R)) rfl ?_
      refine az_E.br (c := (lg_cmp a2.toInt64 (1 : Int64)) < 0) (tt := 17) (ff := 6) (L' := [.long a2.toInt64, .retAddr 0, .long (1 : Int64), .retAddr 0, .long (9 : Int64), .retAddr 0]) (S' := []) (σ' := (97, I, J, R)) rfl (fun hc_3 => ?_) (fun hc_3 => ?_)
      · rw [if_pos hc_3] at h
        refine az_E.sn 1 (pc' := 18) (L' := [.long a2.toInt64, .retAddr 0, .long (1 : Int64), .retAddr 0, .long (9 : Int64), .retAddr 0]) (S' := [.int (0 : Int32)]) (σ' := (97, I, J, R)) rfl ?_
        refine az_E.ret (v := some (.int (0 : Int32))) (σ' := (97, I, J, R)) rfl ?_
        show az_E az_F ex 2 229 18 [.ref 73, .int a1, .int a2] [.int (0 : Int32)] (97, I, J, R) _
        refine az_E.br (c := (0 : Int32) = 0) (tt := 21) (ff := 23) (L' := [.ref 73, .int a1, .int a2]) (S' := []) (σ' := (97, I, J, R)) rfl (fun _ => ?_) (fun hn => absurd (by decide) hn)
        refine az_E.sn 1 (pc' := 22) (L' := [.ref 73, .int a1, .int a2]) (S' := [.int (-1 : Int32)]) (σ' := (97, I, J, R)) rfl ?_
        have h := Option.some.inj h
        subst h
        exact az_E.ret (v := some (.int (-1 : Int32))) (σ' := (97, I, J, R)) rfl hQ
      · rw [if_neg hc_3] at h
        refine az_E.sn 3 (pc' := 10) (L' := [.long a2.toInt64, .retAddr 0, .long (1 : Int64), .retAddr 0, .long (9 : Int64), .retAddr 0]) (S' := [.int (lg_cmp a2.toInt64 (9 : Int64))]) (σ' := (97, I, J, R)) rfl ?_
        refine az_E.br (c := 0 < (lg_cmp a2.toInt64 (9 : Int64))) (tt := 17) (ff := 13) (L' := [.long a2.toInt64, .retAddr 0, .long (1 : Int64), .retAddr 0, .long (9 : Int64), .retAddr 0]) (S' := []) (σ' := (97, I, J, R)) rfl (fun hc_4 => ?_) (fun hc_4 => ?_)
        · rw [if_pos hc_4] at h
          refine az_E.sn 1 (pc' := 18) (L' := [.long a2.toInt64, .retAddr 0, .long (1 : Int64), .retAddr 0, .long (9 : Int64), .retAddr 0]) (S' := [.int (0 : Int32)]) (σ' := (97, I, J, R)) rfl ?_
          refine az_E.ret (v := some (.int (0 : Int32))) (σ' := (97, I, J, R)) rfl ?_
          show az_E az_F ex 2 229 18 [.ref 73, .int a1, .int a2] [.int (0 : Int32)] (97, I, J, R) _
          refine az_E.br (c := (0 : Int32) = 0) (tt := 21) (ff := 23) (L' := [.ref 73, .int a1, .int a2]) (S' := []) (σ' := (97, I, J, R)) rfl (fun _ => ?_) (fun hn => absurd (by decide) hn)
          refine az_E.sn 1 (pc' := 22) (L' := [.ref 73, .int a1, .int a2]) (S' := [.int (-1 : Int32)]) (σ' := (97, I, J, R)) rfl ?_
          have h := Option.some.inj h
          subst h
          exact az_E.ret (v := some (.int (-1 : Int32))) (σ' := (97, I, J, R)) rfl hQ
        · rw [if_neg hc_4] at h
          refine az_E.sn 2 (pc' := 18) (L' := [.long a2.toInt64, .retAddr 0, .long (1 : Int64), .retAddr 0, .long (9 : Int64), .retAddr 0]) (S' := [.int (1 : Int32)]) (σ' := (97, I, J, R)) rfl ?_
          refine az_E.ret (v := some (.int (1 : Int32))) (σ' := (97, I, J, R)) rfl ?_
          show az_E az_F ex 2 229 18 [.ref 73, .int a1, .int a2] [.int (1 : Int32)] (97, I, J, R) _
          refine az_E.br (c := (1 : Int32) = 0) (tt := 21) (ff := 23) (L' := [.ref 73, .int a1, .int a2]) (S' := []) (σ' := (97, I, J, R)) rfl (fun hn => absurd hn (by decide)) (fun _ => ?_)
          refine az_E.sn 5 (pc' := 32) (L' := [.ref 73, .int a1, .int a2]) (S' := [.int ((166 : Int32) + a1), .ref 74]) (σ' := (97, I, J, R)) rfl ?_
          by_cases hc_5 : ((166 : Int32) + a1) < 0 ∨ 179 ≤ ((166 : Int32) + a1).toNatClampNeg
          · rw [if_pos hc_5] at h; cases h
          · rw [if_neg hc_5] at h
            refine az_E.oi (o := az_ai az_F ex (97, I, J, R) 74 ((166 : Int32) + a1)) (pc' := 33) (L' := [.ref 73, .int a1, .int a2]) (S' := []) (σ' := (97, I, J, R)) (x := (I 74 ((166 : Int32) + a1).toNatClampNeg)) rfl (if_neg hc_5) ?_
            refine az_E.br (c := (I 74 ((166 : Int32) + a1).toNatClampNeg) ≤ 0) (tt := 39) (ff := 36) (L' := [.ref 73, .int a1, .int a2]) (S' := []) (σ' := (97, I, J, R)) rfl (fun hc_6 => ?_) (fun hc_6 => ?_)
            · rw [if_pos hc_6] at h
              refine az_E.sn 6 (pc' := 49) (L' := [.ref 73, .int a1, .int a2]) (S' := [.int a2, .int ((166 : Int32) + a1), .ref 74]) (σ' := (97, I, J, R)) rfl ?_
              by_cases hc_7 : ((166 : Int32) + a1) < 0 ∨ 179 ≤ ((166 : Int32) + a1).toNatClampNeg
              · rw [if_pos hc_7] at h; cases h
              · rw [if_neg hc_7] at h
                refine az_E.o (o := az_si az_F (97, I, J, R) 74 ((166 : Int32) + a1) a2) (pc' := 50) (L' := [.ref 73, .int a1, .int a2]) (S' := []) (x := (97, (az_u I 74 ((166 : Int32) + a1).toNatClampNeg a2), J, R)) rfl (if_neg hc_7) ?_
                refine az_E.sn 1 (pc' := 51) (L' := [.ref 73, .int a1, .int a2]) (S' := [.int (1 : Int32)]) (σ' := (97, (az_u I 74 ((166 : Int32) + a1).toNatClampNeg a2), J, R)) rfl ?_
                have h := Option.some.inj h
                subst h
                exact az_E.ret (v := some (.int (1 : Int32))) (σ' := (97, (az_u I 74 ((166 : Int32) + a1).toNatClampNeg a2), J, R)) rfl hQ
            · rw [if_neg hc_6] at h
              refine az_E.sn 1 (pc' := 38) (L' := [.ref 73, .int a1, .int a2]) (S' := [.int (-5 : Int32)]) (σ' := (97, I, J, R)) rfl ?_
              have h := Option.some.inj h
              subst h
              exact az_E.ret (v := some (.int (-5 : Int32))) (σ' := (97, I, J, R)) rfl hQ
set_option maxRecDepth 100000 in
set_option maxHeartbeats 4000000 in
theorem re_X_cheer {ex : az_X} {I : Nat → Nat → Int32} {J : Nat → Nat → Int64} {R : Nat → Nat → Option Nat} {a1 : Int32} {o : Int32 × (Nat → Nat → Int32)} (h : rs_X_cheer I a1 = some o) {Q : Option Value → az_S → Prop} (hQ : Q (some (.int o.1)) (97, o.2, J, R)) : az_E az_F ex 2 115 0 [.ref 3, .int a1] [] (97, I, J, R) Q := by
  unfold rs_X_cheer at h
  refine az_E.sn 2 (pc' := 2) (L' := [.ref 3, .int a1]) (S' := [.int a1, .ref 3]) (σ' := (97, I, J, R)) rfl ?_
  refine az_E.call (d := 1) (k' := 138) (vs := [.ref 3, .int a1]) (pc' := 5) (S' := []) rfl ?_ (fun _ _ hq => hq)
  show az_E az_F ex 1 138 0 [.ref 3, .int a1] [] (97, I, J, R) _
  refine az_E.sn 7 (pc' := 11) (L' := [.ref 3, .int a1]) (S' := [.int ((I 4 9) - (1 : Int32)), .int (0 : Int32), .int a1]) (σ' := (97, I, J, R)) rfl ?_
  refine az_E.call (d := 0) (k' := 131) (vs := [.int a1, .int (0 : Int32), .int ((I 4 9) - (1 : Int32))]) (pc' := 14) (S' := []) rfl ?_ (fun _ _ hq => hq)
  show az_E az_F ex 0 131 0 [.int a1, .int (0 : Int32), .int ((I 4 9) - (1 : Int32))] [] (97, I, J, R) _
  refine az_E.sn 2 (pc' := 2) (L' := [.int a1, .int (0 : Int32), .int ((I 4 9) - (1 : Int32))]) (S' := [.int (0 : Int32), .int a1]) (σ' := (97, I, J, R)) rfl ?_
  refine az_E.br (c := a1 < (0 : Int32)) (tt := 14) (ff := 5) (L' := [.int a1, .int (0 : Int32), .int ((I 4 9) - (1 : Int32))]) (S' := []) (σ' := (97, I, J, R)) rfl (fun hc_1 => ?_) (fun hc_1 => ?_)
  · rw [if_pos hc_1] at h
    refine az_E.sn 1 (pc' := 15) (L' := [.int a1, .int (0 : Int32), .int ((I 4 9) - (1 : Int32))]) (S' := [.int (0 : Int32)]) (σ' := (97, I, J, R)) rfl ?_
    refine az_E.ret (v := some (.int (0 : Int32))) (σ' := (97, I, J, R)) rfl ?_
    show az_E az_F ex 1 138 14 [.ref 3, .int a1] [.int (0 : Int32)] (97, I, J, R) _
    refine az_E.ret (v := some (.int (0 : Int32))) (σ' := (97, I, J, R)) rfl ?_
    show az_E az_F ex 2 115 5 [.ref 3, .int a1] [.int (0 : Int32)] (97, I, J, R) _
    refine az_E.br (c := (0 : Int32) = 0) (tt := 8) (ff := 11) (L' := [.ref 3, .int a1]) (S' := []) (σ' := (97, I, J, R)) rfl (fun _ => ?_) (fun hn => absurd (by decide) hn)
    refine az_E.sn 1 (pc' := 10) (L' := [.ref 3, .int a1]) (S' := [.int (-2000000000 : Int32)]) (σ' := (97, I, J, R)) rfl ?_
    have h := Option.some.inj h
    subst h
    exact az_E.ret (v := some (.int (-2000000000 : Int32))) (σ' := (97, I, J, R)) rfl hQ
  · rw [if_neg hc_1] at h
    refine az_E.sn 2 (pc' := 7) (L' := [.int a1, .int (0 : Int32), .int ((I 4 9) - (1 : Int32))]) (S' := [.int ((I 4 9) - (1 : Int32)), .int a1]) (σ' := (97, I, J, R)) rfl ?_
    refine az_E.br (c := ((I 4 9) - (1 : Int32)) < a1) (tt := 14) (ff := 10) (L' := [.int a1, .int (0 : Int32), .int ((I 4 9) - (1 : Int32))]) (S' := []) (σ' := (97, I, J, R)) rfl (fun hc_2 => ?_) (fun hc_2 => ?_)
    · rw [if_pos hc_2] at h
      refine az_E.sn 1 (pc' := 15) (L' := [.int a1, .int (0 : Int32), .int ((I 4 9) - (1 : Int32))]) (S' := [.int (0 : Int32)]) (σ' := (97, I, J, R)) rfl ?_
      refine az_E.ret (v := some (.int (0 : Int32))) (σ' := (97, I, J, R)) rfl ?_
      show az_E az_F ex 1 138 14 [.ref 3, .int a1] [.int (0 : Int32)] (97, I, J, R) _
      refine az_E.ret (v := some (.int (0 : Int32))) (σ' := (97, I, J, R)) rfl ?_
      show az_E az_F ex 2 115 5 [.ref 3, .int a1] [.int (0 : Int32)] (97, I, J, R) _
      refine az_E.br (c := (0 : Int32) = 0) (tt := 8) (ff := 11) (L' := [.ref 3, .int a1]) (S' := []) (σ' := (97, I, J, R)) rfl (fun _ => ?_) (fun hn => absurd (by decide) hn)
      refine az_E.sn 1 (pc' := 10) (L' := [.ref 3, .int a1]) (S' := [.int (-2000000000 : Int32)]) (σ' := (97, I, J, R)) rfl ?_
      have h := Option.some.inj h
      subst h
      exact az_E.ret (v := some (.int (-2000000000 : Int32))) (σ' := (97, I, J, R)) rfl hQ
    · rw [if_neg hc_2] at h
      refine az_E.sn 2 (pc' := 15) (L' := [.int a1, .int (0 : Int32), .int ((I 4 9) - (1 : Int32))]) (S' := [.int (1 : Int32)]) (σ' := (97, I, J, R)) rfl ?_
      refine az_E.ret (v := some (.int (1 : Int32))) (σ' := (97, I, J, R)) rfl ?_
      show az_E az_F ex 1 138 14 [.ref 3, .int a1] [.int (1 : Int32)] (97, I, J, R) _
      refine az_E.ret (v := some (.int (1 : Int32))) (σ' := (97, I, J, R)) rfl ?_
      show az_E az_F ex 2 115 5 [.ref 3, .int a1] [.int (1 : Int32)] (97, I, J, R) _
      refine az_E.br (c := (1 : Int32) = 0) (tt := 8) (ff := 11) (L' := [.ref 3, .int a1]) (S' := []) (σ' := (97, I, J, R)) rfl (fun hn => absurd hn (by decide)) (fun _ => ?_)
      refine az_E.sn 9 (pc' := 29) (L' := [.ref 3, .int a1]) (S' := [.int a1, .ref 8, .int (9 : Int32), .int a1, .ref 8]) (σ' := (97, I, J, R)) rfl ?_
      by_cases hc_3 : a1 < 0 ∨ 6 ≤ a1.toNatClampNeg
      · rw [if_pos hc_3] at h; cases h
      · rw [if_neg hc_3] at h
        refine az_E.oi (o := az_ai az_F ex (97, I, J, R) 8 a1) (pc' := 30) (L' := [.ref 3, .int a1]) (S' := [.int (9 : Int32), .int a1, .ref 8]) (σ' := (97, I, J, R)) (x := (I 8 a1.toNatClampNeg)) rfl (if_neg hc_3) ?_
        refine az_E.sn 3 (pc' := 35) (L' := [.ref 3, .int a1]) (S' := [.int (if ((I 8 a1.toNatClampNeg) + (1 : Int32)) < (9 : Int32) then ((I 8 a1.toNatClampNeg) + (1 : Int32)) else (9 : Int32)), .int a1, .ref 8]) (σ' := (97, I, J, R)) rfl ?_
        by_cases hc_4 : a1 < 0 ∨ 6 ≤ a1.toNatClampNeg
        · rw [if_pos hc_4] at h; cases h
        · rw [if_neg hc_4] at h
          refine az_E.o (o := az_si az_F (97, I, J, R) 8 a1 (if ((I 8 a1.toNatClampNeg) + (1 : Int32)) < (9 : Int32) then ((I 8 a1.toNatClampNeg) + (1 : Int32)) else (9 : Int32))) (pc' := 36) (L' := [.ref 3, .int a1]) (S' := []) (x := (97, (az_u I 8 a1.toNatClampNeg (if ((I 8 a1.toNatClampNeg) + (1 : Int32)) < (9 : Int32) then ((I 8 a1.toNatClampNeg) + (1 : Int32)) else (9 : Int32))), J, R)) rfl (if_neg hc_4) ?_
          refine az_E.sn 5 (pc' := 45) (L' := [.ref 3, .int a1]) (S' := [.int (3 : Int32), .ref 13, .int (3 : Int32), .ref 13]) (σ' := (97, (az_u I 8 a1.toNatClampNeg (if ((I 8 a1.toNatClampNeg) + (1 : Int32)) < (9 : Int32) then ((I 8 a1.toNatClampNeg) + (1 : Int32)) else (9 : Int32))), J, R)) rfl ?_
          refine az_E.oi (o := az_ai az_F ex (97, (az_u I 8 a1.toNatClampNeg (if ((I 8 a1.toNatClampNeg) + (1 : Int32)) < (9 : Int32) then ((I 8 a1.toNatClampNeg) + (1 : Int32)) else (9 : Int32))), J, R) 13 (3 : Int32)) (pc' := 46) (L' := [.ref 3, .int a1]) (S' := [.int (3 : Int32), .ref 13]) (σ' := (97, (az_u I 8 a1.toNatClampNeg (if ((I 8 a1.toNatClampNeg) + (1 : Int32)) < (9 : Int32) then ((I 8 a1.toNatClampNeg) + (1 : Int32)) else (9 : Int32))), J, R)) (x := (I 13 3)) rfl rfl ?_
          refine az_E.sn 2 (pc' := 48) (L' := [.ref 3, .int a1]) (S' := [.int ((I 13 3) + (1 : Int32)), .int (3 : Int32), .ref 13]) (σ' := (97, (az_u I 8 a1.toNatClampNeg (if ((I 8 a1.toNatClampNeg) + (1 : Int32)) < (9 : Int32) then ((I 8 a1.toNatClampNeg) + (1 : Int32)) else (9 : Int32))), J, R)) rfl ?_
          refine az_E.o (o := az_si az_F (97, (az_u I 8 a1.toNatClampNeg (if ((I 8 a1.toNatClampNeg) + (1 : Int32)) < (9 : Int32) then ((I 8 a1.toNatClampNeg) + (1 : Int32)) else (9 : Int32))), J, R) 13 (3 : Int32) ((I 13 3) + (1 : Int32))) (pc' := 49) (L' := [.ref 3, .int a1]) (S' := []) (x := (97, (az_u (az_u I 8 a1.toNatClampNeg (if ((I 8 a1.toNatClampNeg) + (1 : Int32)) < (9 : Int32) then ((I 8 a1.toNatClampNeg) + (1 : Int32)) else (9 : Int32))) 13 3 ((I 13 3) + (1 : Int32))), J, R)) rfl rfl ?_
          refine az_E.sn 4 (pc' := 57) (L' := [.ref 3, .int a1]) (S' := [.int a1, .ref 8]) (σ' := (97, (az_u (az_u I 8 a1.toNatClampNeg (if ((I 8 a1.toNatClampNeg) + (1 : Int32)) < (9 : Int32) then ((I 8 a1.toNatClampNeg) + (1 : Int32)) else (9 : Int32))) 13 3 ((I 13 3) + (1 : Int32))), J, R)) rfl ?_
          by_cases hc_7 : a1 < 0 ∨ 6 ≤ a1.toNatClampNeg
          · rw [if_pos hc_7] at h; cases h
          · rw [if_neg hc_7] at h
            refine az_E.oi (o := az_ai az_F ex (97, (az_u (az_u I 8 a1.toNatClampNeg (if ((I 8 a1.toNatClampNeg) + (1 : Int32)) < (9 : Int32) then ((I 8 a1.toNatClampNeg) + (1 : Int32)) else (9 : Int32))) 13 3 ((I 13 3) + (1 : Int32))), J, R) 8 a1) (pc' := 58) (L' := [.ref 3, .int a1]) (S' := []) (σ' := (97, (az_u (az_u I 8 a1.toNatClampNeg (if ((I 8 a1.toNatClampNeg) + (1 : Int32)) < (9 : Int32) then ((I 8 a1.toNatClampNeg) + (1 : Int32)) else (9 : Int32))) 13 3 ((I 13 3) + (1 : Int32))), J, R)) (x := ((az_u I 8 a1.toNatClampNeg (if ((I 8 a1.toNatClampNeg) + (1 : Int32)) < (9 : Int32) then ((I 8 a1.toNatClampNeg) + (1 : Int32)) else (9 : Int32))) 8 a1.toNatClampNeg)) rfl (if_neg hc_7) ?_
            have h := Option.some.inj h
            subst h
            exact az_E.ret (v := some (.int ((az_u I 8 a1.toNatClampNeg (if ((I 8 a1.toNatClampNeg) + (1 : Int32)) < (9 : Int32) then ((I 8 a1.toNatClampNeg) + (1 : Int32)) else (9 : Int32))) 8 a1.toNatClampNeg))) (σ' := (97, (az_u (az_u I 8 a1.toNatClampNeg (if ((I 8 a1.toNatClampNeg) + (1 : Int32)) < (9 : Int32) then ((I 8 a1.toNatClampNeg) + (1 : Int32)) else (9 : Int32))) 13 3 ((I 13 3) + (1 : Int32))), J, R)) rfl hQ
set_option maxRecDepth 100000 in
set_option maxHeartbeats 4000000 in
theorem re_M_cheer_43 {ex : az_X} {I : Nat → Nat → Int32} {J : Nat → Nat → Int64} {R : Nat → Nat → Option Nat} {v1 : Int32} {s0 : Int32} {s1 : Int32} {s2 : Int32} {x : Int32 × (Nat → Nat → Int32)} (h : rs_M_cheer_43 I v1 s0 s1 s2 = some x) {Q : Option Value → az_S → Prop} (hQ : Q (some (.int x.1)) (97, x.2, J, R)) : az_E az_F ex 2 230 43 [.ref 73, .int v1] [.int s0, .int s1, .int s2, .ref 74] (97, I, J, R) Q := by
  unfold rs_M_cheer_43 at h
  refine az_E.sn 1 (pc' := 44) (L' := [.ref 73, .int v1]) (S' := [.int (s1 + s0), .int s2, .ref 74]) (σ' := (97, I, J, R)) rfl ?_
  by_cases hc_6 : s2 < 0 ∨ 179 ≤ s2.toNatClampNeg
  · rw [if_pos hc_6] at h; cases h
  · rw [if_neg hc_6] at h
    refine az_E.o (o := az_si az_F (97, I, J, R) 74 s2 (s1 + s0)) (pc' := 45) (L' := [.ref 73, .int v1]) (S' := []) (x := (97, (az_u I 74 s2.toNatClampNeg (s1 + s0)), J, R)) rfl (if_neg hc_6) ?_
    refine az_E.sn 4 (pc' := 51) (L' := [.ref 73, .int v1]) (S' := [.int (3 : Int32), .ref 91, .int (3 : Int32), .ref 91]) (σ' := (97, (az_u I 74 s2.toNatClampNeg (s1 + s0)), J, R)) rfl ?_
    refine az_E.oi (o := az_ai az_F ex (97, (az_u I 74 s2.toNatClampNeg (s1 + s0)), J, R) 91 (3 : Int32)) (pc' := 52) (L' := [.ref 73, .int v1]) (S' := [.int (3 : Int32), .ref 91]) (σ' := (97, (az_u I 74 s2.toNatClampNeg (s1 + s0)), J, R)) (x := (I 91 3)) rfl rfl ?_
    refine az_E.sn 2 (pc' := 54) (L' := [.ref 73, .int v1]) (S' := [.int ((I 91 3) + (1 : Int32)), .int (3 : Int32), .ref 91]) (σ' := (97, (az_u I 74 s2.toNatClampNeg (s1 + s0)), J, R)) rfl ?_
    refine az_E.o (o := az_si az_F (97, (az_u I 74 s2.toNatClampNeg (s1 + s0)), J, R) 91 (3 : Int32) ((I 91 3) + (1 : Int32))) (pc' := 55) (L' := [.ref 73, .int v1]) (S' := []) (x := (97, (az_u (az_u I 74 s2.toNatClampNeg (s1 + s0)) 91 3 ((I 91 3) + (1 : Int32))), J, R)) rfl rfl ?_
    refine az_E.sn 5 (pc' := 64) (L' := [.ref 73, .int v1]) (S' := [.int ((160 : Int32) + v1), .ref 74]) (σ' := (97, (az_u (az_u I 74 s2.toNatClampNeg (s1 + s0)) 91 3 ((I 91 3) + (1 : Int32))), J, R)) rfl ?_
    by_cases hc_9 : ((160 : Int32) + v1) < 0 ∨ 179 ≤ ((160 : Int32) + v1).toNatClampNeg
    · rw [if_pos hc_9] at h; cases h
    · rw [if_neg hc_9] at h
      refine az_E.oi (o := az_ai az_F ex (97, (az_u (az_u I 74 s2.toNatClampNeg (s1 + s0)) 91 3 ((I 91 3) + (1 : Int32))), J, R) 74 ((160 : Int32) + v1)) (pc' := 65) (L' := [.ref 73, .int v1]) (S' := []) (σ' := (97, (az_u (az_u I 74 s2.toNatClampNeg (s1 + s0)) 91 3 ((I 91 3) + (1 : Int32))), J, R)) (x := ((az_u I 74 s2.toNatClampNeg (s1 + s0)) 74 ((160 : Int32) + v1).toNatClampNeg)) rfl (if_neg hc_9) ?_
      have h := Option.some.inj h
      subst h
      exact az_E.ret (v := some (.int ((az_u I 74 s2.toNatClampNeg (s1 + s0)) 74 ((160 : Int32) + v1).toNatClampNeg))) (σ' := (97, (az_u (az_u I 74 s2.toNatClampNeg (s1 + s0)) 91 3 ((I 91 3) + (1 : Int32))), J, R)) rfl hQ
set_option maxRecDepth 100000 in
set_option maxHeartbeats 4000000 in
theorem re_M_cheer {ex : az_X} {I : Nat → Nat → Int32} {J : Nat → Nat → Int64} {R : Nat → Nat → Option Nat} {a1 : Int32} {o : Int32 × (Nat → Nat → Int32)} (h : rs_M_cheer I a1 = some o) {Q : Option Value → az_S → Prop} (hQ : Q (some (.int o.1)) (97, o.2, J, R)) : az_E az_F ex 2 230 0 [.ref 73, .int a1] [] (97, I, J, R) Q := by
  unfold rs_M_cheer at h
  refine az_E.sn 3 (pc' := 3) (L' := [.ref 73, .int a1]) (S' := [.long a1.toInt64, .ref 73]) (σ' := (97, I, J, R)) rfl ?_
  refine az_E.call (d := 1) (k' := 162) (vs := [.ref 73, .long a1.toInt64]) (pc' := 6) (S' := []) rfl ?_ (fun _ _ hq => hq)
  show az_E az_F ex 1 162 0 [.ref 73, .long a1.toInt64, .retAddr 0] [] (97, I, J, R) _
  refine az_E.sn 7 (pc' := 9) (L' := [.ref 73, .long a1.toInt64, .retAddr 0]) (S' := [.long ((I 73 7) - (1 : Int32)).toInt64, .long (0 : Int64), .long a1.toInt64]) (σ' := (97, I, J, R)) rfl ?_
  refine az_E.call (d := 0) (k' := 154) (vs := [.long a1.toInt64, .long (0 : Int64), .long ((I 73 7) - (1 : Int32)).toInt64]) (pc' := 12) (S' := []) rfl ?_ (fun _ _ hq => hq)
  show az_E az_F ex 0 154 0 [.long a1.toInt64, .retAddr 0, .long (0 : Int64), .retAddr 0, .long ((I 73 7) - (1 : Int32)).toInt64, .retAddr 0] [] (97, I, J, R) _
  refine az_E.sn 3 (pc' := 3) (L' := [.long a1.toInt64, .retAddr 0, .long (0 : Int64), .retAddr 0, .long ((I 73 7) - (1 : Int32)).toInt64, .retAddr 0]) (S' := [.int (lg_cmp a1.toInt64 (0 : Int64))]) (σ' := (97, I, J, R)) rfl ?_
  refine az_E.br (c := (lg_cmp a1.toInt64 (0 : Int64)) < 0) (tt := 17) (ff := 6) (L' := [.long a1.toInt64, .retAddr 0, .long (0 : Int64), .retAddr 0, .long ((I 73 7) - (1 : Int32)).toInt64, .retAddr 0]) (S' := []) (σ' := (97, I, J, R)) rfl (fun hc_1 => ?_) (fun hc_1 => ?_)
  · rw [if_pos hc_1] at h
    refine az_E.sn 1 (pc' := 18) (L' := [.long a1.toInt64, .retAddr 0, .long (0 : Int64), .retAddr 0, .long ((I 73 7) - (1 : Int32)).toInt64, .retAddr 0]) (S' := [.int (0 : Int32)]) (σ' := (97, I, J, R)) rfl ?_
    refine az_E.ret (v := some (.int (0 : Int32))) (σ' := (97, I, J, R)) rfl ?_
    show az_E az_F ex 1 162 12 [.ref 73, .long a1.toInt64, .retAddr 0] [.int (0 : Int32)] (97, I, J, R) _
    refine az_E.ret (v := some (.int (0 : Int32))) (σ' := (97, I, J, R)) rfl ?_
    show az_E az_F ex 2 230 6 [.ref 73, .int a1] [.int (0 : Int32)] (97, I, J, R) _
    refine az_E.br (c := (0 : Int32) = 0) (tt := 9) (ff := 12) (L' := [.ref 73, .int a1]) (S' := []) (σ' := (97, I, J, R)) rfl (fun _ => ?_) (fun hn => absurd (by decide) hn)
    refine az_E.sn 1 (pc' := 11) (L' := [.ref 73, .int a1]) (S' := [.int (-2000000000 : Int32)]) (σ' := (97, I, J, R)) rfl ?_
    have h := Option.some.inj h
    subst h
    exact az_E.ret (v := some (.int (-2000000000 : Int32))) (σ' := (97, I, J, R)) rfl hQ
  · rw [if_neg hc_1] at h
    refine az_E.sn 3 (pc' := 10) (L' := [.long a1.toInt64, .retAddr 0, .long (0 : Int64), .retAddr 0, .long ((I 73 7) - (1 : Int32)).toInt64, .retAddr 0]) (S' := [.int (lg_cmp a1.toInt64 ((I 73 7) - (1 : Int32)).toInt64)]) (σ' := (97, I, J, R)) rfl ?_
    refine az_E.br (c := 0 < (lg_cmp a1.toInt64 ((I 73 7) - (1 : Int32)).toInt64)) (tt := 17) (ff := 13) (L' := [.long a1.toInt64, .retAddr 0, .long (0 : Int64), .retAddr 0, .long ((I 73 7) - (1 : Int32)).toInt64, .retAddr 0]) (S' := []) (σ' := (97, I, J, R)) rfl (fun hc_2 => ?_) (fun hc_2 => ?_)
    · rw [if_pos hc_2] at h
      refine az_E.sn 1 (pc' := 18) (L' := [.long a1.toInt64, .retAddr 0, .long (0 : Int64), .retAddr 0, .long ((I 73 7) - (1 : Int32)).toInt64, .retAddr 0]) (S' := [.int (0 : Int32)]) (σ' := (97, I, J, R)) rfl ?_
      refine az_E.ret (v := some (.int (0 : Int32))) (σ' := (97, I, J, R)) rfl ?_
      show az_E az_F ex 1 162 12 [.ref 73, .long a1.toInt64, .retAddr 0] [.int (0 : Int32)] (97, I, J, R) _
      refine az_E.ret (v := some (.int (0 : Int32))) (σ' := (97, I, J, R)) rfl ?_
      show az_E az_F ex 2 230 6 [.ref 73, .int a1] [.int (0 : Int32)] (97, I, J, R) _
      refine az_E.br (c := (0 : Int32) = 0) (tt := 9) (ff := 12) (L' := [.ref 73, .int a1]) (S' := []) (σ' := (97, I, J, R)) rfl (fun _ => ?_) (fun hn => absurd (by decide) hn)
      refine az_E.sn 1 (pc' := 11) (L' := [.ref 73, .int a1]) (S' := [.int (-2000000000 : Int32)]) (σ' := (97, I, J, R)) rfl ?_
      have h := Option.some.inj h
      subst h
      exact az_E.ret (v := some (.int (-2000000000 : Int32))) (σ' := (97, I, J, R)) rfl hQ
    · rw [if_neg hc_2] at h
      refine az_E.sn 2 (pc' := 18) (L' := [.long a1.toInt64, .retAddr 0, .long (0 : Int64), .retAddr 0, .long ((I 73 7) - (1 : Int32)).toInt64, .retAddr 0]) (S' := [.int (1 : Int32)]) (σ' := (97, I, J, R)) rfl ?_
      refine az_E.ret (v := some (.int (1 : Int32))) (σ' := (97, I, J, R)) rfl ?_
      show az_E az_F ex 1 162 12 [.ref 73, .long a1.toInt64, .retAddr 0] [.int (1 : Int32)] (97, I, J, R) _
      refine az_E.ret (v := some (.int (1 : Int32))) (σ' := (97, I, J, R)) rfl ?_
      show az_E az_F ex 2 230 6 [.ref 73, .int a1] [.int (1 : Int32)] (97, I, J, R) _
      refine az_E.br (c := (1 : Int32) = 0) (tt := 9) (ff := 12) (L' := [.ref 73, .int a1]) (S' := []) (σ' := (97, I, J, R)) rfl (fun hn => absurd hn (by decide)) (fun _ => ?_)
      refine az_E.sn 6 (pc' := 22) (L' := [.ref 73, .int a1]) (S' := [.int ((160 : Int32) + a1), .ref 74, .int ((160 : Int32) + a1), .ref 74]) (σ' := (97, I, J, R)) rfl ?_
      by_cases hc_3 : ((160 : Int32) + a1) < 0 ∨ 179 ≤ ((160 : Int32) + a1).toNatClampNeg
      · rw [if_pos hc_3] at h; cases h
      · rw [if_neg hc_3] at h
        refine az_E.oi (o := az_ai az_F ex (97, I, J, R) 74 ((160 : Int32) + a1)) (pc' := 23) (L' := [.ref 73, .int a1]) (S' := [.int ((160 : Int32) + a1), .ref 74]) (σ' := (97, I, J, R)) (x := (I 74 ((160 : Int32) + a1).toNatClampNeg)) rfl (if_neg hc_3) ?_
        refine az_E.sn 5 (pc' := 32) (L' := [.ref 73, .int a1]) (S' := [.int ((160 : Int32) + a1), .ref 74, .int (I 74 ((160 : Int32) + a1).toNatClampNeg), .int ((160 : Int32) + a1), .ref 74]) (σ' := (97, I, J, R)) rfl ?_
        by_cases hc_4 : ((160 : Int32) + a1) < 0 ∨ 179 ≤ ((160 : Int32) + a1).toNatClampNeg
        · rw [if_pos hc_4] at h; cases h
        · rw [if_neg hc_4] at h
          refine az_E.oi (o := az_ai az_F ex (97, I, J, R) 74 ((160 : Int32) + a1)) (pc' := 33) (L' := [.ref 73, .int a1]) (S' := [.int (I 74 ((160 : Int32) + a1).toNatClampNeg), .int ((160 : Int32) + a1), .ref 74]) (σ' := (97, I, J, R)) (x := (I 74 ((160 : Int32) + a1).toNatClampNeg)) rfl (if_neg hc_4) ?_
          refine az_E.sn 1 (pc' := 35) (L' := [.ref 73, .int a1]) (S' := [.int (9 : Int32), .int (I 74 ((160 : Int32) + a1).toNatClampNeg), .int (I 74 ((160 : Int32) + a1).toNatClampNeg), .int ((160 : Int32) + a1), .ref 74]) (σ' := (97, I, J, R)) rfl ?_
          refine az_E.br (c := (9 : Int32) ≤ (I 74 ((160 : Int32) + a1).toNatClampNeg)) (tt := 42) (ff := 38) (L' := [.ref 73, .int a1]) (S' := [.int (I 74 ((160 : Int32) + a1).toNatClampNeg), .int ((160 : Int32) + a1), .ref 74]) (σ' := (97, I, J, R)) rfl (fun hc_5 => ?_) (fun hc_5 => ?_)
          · rw [if_pos hc_5] at h
            refine az_E.sn 1 (pc' := 43) (L' := [.ref 73, .int a1]) (S' := [.int (0 : Int32), .int (I 74 ((160 : Int32) + a1).toNatClampNeg), .int ((160 : Int32) + a1), .ref 74]) (σ' := (97, I, J, R)) rfl ?_
            exact az_E.forget (L := [.ref 73, .int a1]) ⟨rfl, rfl, trivial⟩ (re_M_cheer_43 (I := I) (J := J) (R := R)  h hQ)
          · rw [if_neg hc_5] at h
            refine az_E.sn 2 (pc' := 43) (L' := [.ref 73, .int a1]) (S' := [.int (1 : Int32), .int (I 74 ((160 : Int32) + a1).toNatClampNeg), .int ((160 : Int32) + a1), .ref 74]) (σ' := (97, I, J, R)) rfl ?_
            exact az_E.forget (L := [.ref 73, .int a1]) ⟨rfl, rfl, trivial⟩ (re_M_cheer_43 (I := I) (J := J) (R := R)  h hQ)
set_option maxRecDepth 100000 in
set_option maxHeartbeats 4000000 in
theorem re_X_led {ex : az_X} {I : Nat → Nat → Int32} {J : Nat → Nat → Int64} {R : Nat → Nat → Option Nat} {a1 : Int32} {o : Int32} (h : rs_X_led I a1 = some o) {Q : Option Value → az_S → Prop} (hQ : Q (some (.int o)) (97, I, J, R)) : az_E az_F ex 1 116 0 [.ref 3, .int a1] [] (97, I, J, R) Q := by
  unfold rs_X_led at h
  refine az_E.sn 3 (pc' := 3) (L' := [.ref 3, .int a1]) (S' := [.int (3 : Int32), .int (0 : Int32), .int a1]) (σ' := (97, I, J, R)) rfl ?_
  refine az_E.call (d := 0) (k' := 131) (vs := [.int a1, .int (0 : Int32), .int (3 : Int32)]) (pc' := 6) (S' := []) rfl ?_ (fun _ _ hq => hq)
  show az_E az_F ex 0 131 0 [.int a1, .int (0 : Int32), .int (3 : Int32)] [] (97, I, J, R) _
  refine az_E.sn 2 (pc' := 2) (L' := [.int a1, .int (0 : Int32), .int (3 : Int32)]) (S' := [.int (0 : Int32), .int a1]) (σ' := (97, I, J, R)) rfl ?_
  refine az_E.br (c := a1 < (0 : Int32)) (tt := 14) (ff := 5) (L' := [.int a1, .int (0 : Int32), .int (3 : Int32)]) (S' := []) (σ' := (97, I, J, R)) rfl (fun hc_1 => ?_) (fun hc_1 => ?_)
  · rw [if_pos hc_1] at h
    refine az_E.sn 1 (pc' := 15) (L' := [.int a1, .int (0 : Int32), .int (3 : Int32)]) (S' := [.int (0 : Int32)]) (σ' := (97, I, J, R)) rfl ?_
    refine az_E.ret (v := some (.int (0 : Int32))) (σ' := (97, I, J, R)) rfl ?_
    show az_E az_F ex 1 116 6 [.ref 3, .int a1] [.int (0 : Int32)] (97, I, J, R) _
    refine az_E.br (c := (0 : Int32) = 0) (tt := 21) (ff := 9) (L' := [.ref 3, .int a1]) (S' := []) (σ' := (97, I, J, R)) rfl (fun _ => ?_) (fun hn => absurd (by decide) hn)
    refine az_E.sn 1 (pc' := 22) (L' := [.ref 3, .int a1]) (S' := [.int (-1 : Int32)]) (σ' := (97, I, J, R)) rfl ?_
    have h := Option.some.inj h
    subst h
    exact az_E.ret (v := some (.int (-1 : Int32))) (σ' := (97, I, J, R)) rfl hQ
  · rw [if_neg hc_1] at h
    refine az_E.sn 2 (pc' := 7) (L' := [.int a1, .int (0 : Int32), .int (3 : Int32)]) (S' := [.int (3 : Int32), .int a1]) (σ' := (97, I, J, R)) rfl ?_
    refine az_E.br (c := (3 : Int32) < a1) (tt := 14) (ff := 10) (L' := [.int a1, .int (0 : Int32), .int (3 : Int32)]) (S' := []) (σ' := (97, I, J, R)) rfl (fun hc_2 => ?_) (fun hc_2 => ?_)
    · rw [if_pos hc_2] at h
      refine az_E.sn 1 (pc' := 15) (L' := [.int a1, .int (0 : Int32), .int (3 : Int32)]) (S' := [.int (0 : Int32)]) (σ' := (97, I, J, R)) rfl ?_
      refine az_E.ret (v := some (.int (0 : Int32))) (σ' := (97, I, J, R)) rfl ?_
      show az_E az_F ex 1 116 6 [.ref 3, .int a1] [.int (0 : Int32)] (97, I, J, R) _
      refine az_E.br (c := (0 : Int32) = 0) (tt := 21) (ff := 9) (L' := [.ref 3, .int a1]) (S' := []) (σ' := (97, I, J, R)) rfl (fun _ => ?_) (fun hn => absurd (by decide) hn)
      refine az_E.sn 1 (pc' := 22) (L' := [.ref 3, .int a1]) (S' := [.int (-1 : Int32)]) (σ' := (97, I, J, R)) rfl ?_
      have h := Option.some.inj h
      subst h
      exact az_E.ret (v := some (.int (-1 : Int32))) (σ' := (97, I, J, R)) rfl hQ
    · rw [if_neg hc_2] at h
      refine az_E.sn 2 (pc' := 15) (L' := [.int a1, .int (0 : Int32), .int (3 : Int32)]) (S' := [.int (1 : Int32)]) (σ' := (97, I, J, R)) rfl ?_
      refine az_E.ret (v := some (.int (1 : Int32))) (σ' := (97, I, J, R)) rfl ?_
      show az_E az_F ex 1 116 6 [.ref 3, .int a1] [.int (1 : Int32)] (97, I, J, R) _
      refine az_E.br (c := (1 : Int32) = 0) (tt := 21) (ff := 9) (L' := [.ref 3, .int a1]) (S' := []) (σ' := (97, I, J, R)) rfl (fun hn => absurd hn (by decide)) (fun _ => ?_)
      refine az_E.sn 4 (pc' := 17) (L' := [.ref 3, .int a1]) (S' := [.int a1, .ref 13]) (σ' := (97, I, J, R)) rfl ?_
      by_cases hc_3 : a1 < 0 ∨ 4 ≤ a1.toNatClampNeg
      · rw [if_pos hc_3] at h; cases h
      · rw [if_neg hc_3] at h
        refine az_E.oi (o := az_ai az_F ex (97, I, J, R) 13 a1) (pc' := 18) (L' := [.ref 3, .int a1]) (S' := []) (σ' := (97, I, J, R)) (x := (I 13 a1.toNatClampNeg)) rfl (if_neg hc_3) ?_
        refine az_E.sn 1 (pc' := 22) (L' := [.ref 3, .int a1]) (S' := [.int (I 13 a1.toNatClampNeg)]) (σ' := (97, I, J, R)) rfl ?_
        have h := Option.some.inj h
        subst h
        exact az_E.ret (v := some (.int (I 13 a1.toNatClampNeg))) (σ' := (97, I, J, R)) rfl hQ
set_option maxRecDepth 100000 in
set_option maxHeartbeats 4000000 in
theorem re_M_led {ex : az_X} {I : Nat → Nat → Int32} {J : Nat → Nat → Int64} {R : Nat → Nat → Option Nat} {a1 : Int32} {o : Int32} (h : rs_M_led I a1 = some o) {Q : Option Value → az_S → Prop} (hQ : Q (some (.int o)) (97, I, J, R)) : az_E az_F ex 1 231 0 [.ref 73, .int a1] [] (97, I, J, R) Q := by
  unfold rs_M_led at h
  refine az_E.sn 4 (pc' := 6) (L' := [.ref 73, .int a1]) (S' := [.long (3 : Int64), .long (0 : Int64), .long a1.toInt64]) (σ' := (97, I, J, R)) rfl ?_
  refine az_E.call (d := 0) (k' := 154) (vs := [.long a1.toInt64, .long (0 : Int64), .long (3 : Int64)]) (pc' := 9) (S' := []) rfl ?_ (fun _ _ hq => hq)
  show az_E az_F ex 0 154 0 [.long a1.toInt64, .retAddr 0, .long (0 : Int64), .retAddr 0, .long (3 : Int64), .retAddr 0] [] (97, I, J, R) _
  refine az_E.sn 3 (pc' := 3) (L' := [.long a1.toInt64, .retAddr 0, .long (0 : Int64), .retAddr 0, .long (3 : Int64), .retAddr 0]) (S' := [.int (lg_cmp a1.toInt64 (0 : Int64))]) (σ' := (97, I, J, R)) rfl ?_
  refine az_E.br (c := (lg_cmp a1.toInt64 (0 : Int64)) < 0) (tt := 17) (ff := 6) (L' := [.long a1.toInt64, .retAddr 0, .long (0 : Int64), .retAddr 0, .long (3 : Int64), .retAddr 0]) (S' := []) (σ' := (97, I, J, R)) rfl (fun hc_1 => ?_) (fun hc_1 => ?_)
  · rw [if_pos hc_1] at h
    refine az_E.sn 1 (pc' := 18) (L' := [.long a1.toInt64, .retAddr 0, .long (0 : Int64), .retAddr 0, .long (3 : Int64), .retAddr 0]) (S' := [.int (0 : Int32)]) (σ' := (97, I, J, R)) rfl ?_
    refine az_E.ret (v := some (.int (0 : Int32))) (σ' := (97, I, J, R)) rfl ?_
    show az_E az_F ex 1 231 9 [.ref 73, .int a1] [.int (0 : Int32)] (97, I, J, R) _
    refine az_E.br (c := (0 : Int32) = 0) (tt := 21) (ff := 12) (L' := [.ref 73, .int a1]) (S' := []) (σ' := (97, I, J, R)) rfl (fun _ => ?_) (fun hn => absurd (by decide) hn)
    refine az_E.sn 1 (pc' := 22) (L' := [.ref 73, .int a1]) (S' := [.int (-1 : Int32)]) (σ' := (97, I, J, R)) rfl ?_
    have h := Option.some.inj h
    subst h
    exact az_E.ret (v := some (.int (-1 : Int32))) (σ' := (97, I, J, R)) rfl hQ
  · rw [if_neg hc_1] at h
    refine az_E.sn 3 (pc' := 10) (L' := [.long a1.toInt64, .retAddr 0, .long (0 : Int64), .retAddr 0, .long (3 : Int64), .retAddr 0]) (S' := [.int (lg_cmp a1.toInt64 (3 : Int64))]) (σ' := (97, I, J, R)) rfl ?_
    refine az_E.br (c := 0 < (lg_cmp a1.toInt64 (3 : Int64))) (tt := 17) (ff := 13) (L' := [.long a1.toInt64, .retAddr 0, .long (0 : Int64), .retAddr 0, .long (3 : Int64), .retAddr 0]) (S' := []) (σ' := (97, I, J, R)) rfl (fun hc_2 => ?_) (fun hc_2 => ?_)
    · rw [if_pos hc_2] at h
      refine az_E.sn 1 (pc' := 18) (L' := [.long a1.toInt64, .retAddr 0, .long (0 : Int64), .retAddr 0, .long (3 : Int64), .retAddr 0]) (S' := [.int (0 : Int32)]) (σ' := (97, I, J, R)) rfl ?_
      refine az_E.ret (v := some (.int (0 : Int32))) (σ' := (97, I, J, R)) rfl ?_
      show az_E az_F ex 1 231 9 [.ref 73, .int a1] [.int (0 : Int32)] (97, I, J, R) _
      refine az_E.br (c := (0 : Int32) = 0) (tt := 21) (ff := 12) (L' := [.ref 73, .int a1]) (S' := []) (σ' := (97, I, J, R)) rfl (fun _ => ?_) (fun hn => absurd (by decide) hn)
      refine az_E.sn 1 (pc' := 22) (L' := [.ref 73, .int a1]) (S' := [.int (-1 : Int32)]) (σ' := (97, I, J, R)) rfl ?_
      have h := Option.some.inj h
      subst h
      exact az_E.ret (v := some (.int (-1 : Int32))) (σ' := (97, I, J, R)) rfl hQ
    · rw [if_neg hc_2] at h
      refine az_E.sn 2 (pc' := 18) (L' := [.long a1.toInt64, .retAddr 0, .long (0 : Int64), .retAddr 0, .long (3 : Int64), .retAddr 0]) (S' := [.int (1 : Int32)]) (σ' := (97, I, J, R)) rfl ?_
      refine az_E.ret (v := some (.int (1 : Int32))) (σ' := (97, I, J, R)) rfl ?_
      show az_E az_F ex 1 231 9 [.ref 73, .int a1] [.int (1 : Int32)] (97, I, J, R) _
      refine az_E.br (c := (1 : Int32) = 0) (tt := 21) (ff := 12) (L' := [.ref 73, .int a1]) (S' := []) (σ' := (97, I, J, R)) rfl (fun hn => absurd hn (by decide)) (fun _ => ?_)
      refine az_E.sn 3 (pc' := 17) (L' := [.ref 73, .int a1]) (S' := [.int a1, .ref 91]) (σ' := (97, I, J, R)) rfl ?_
      by_cases hc_3 : a1 < 0 ∨ 4 ≤ a1.toNatClampNeg
      · rw [if_pos hc_3] at h; cases h
      · rw [if_neg hc_3] at h
        refine az_E.oi (o := az_ai az_F ex (97, I, J, R) 91 a1) (pc' := 18) (L' := [.ref 73, .int a1]) (S' := []) (σ' := (97, I, J, R)) (x := (I 91 a1.toNatClampNeg)) rfl (if_neg hc_3) ?_
        refine az_E.sn 1 (pc' := 22) (L' := [.ref 73, .int a1]) (S' := [.int (I 91 a1.toNatClampNeg)]) (σ' := (97, I, J, R)) rfl ?_
        have h := Option.some.inj h
        subst h
        exact az_E.ret (v := some (.int (I 91 a1.toNatClampNeg))) (σ' := (97, I, J, R)) rfl hQ
set_option maxRecDepth 100000 in
set_option maxHeartbeats 4000000 in
theorem re_Kp_take {ex : az_X} {I : Nat → Nat → Int32} {J : Nat → Nat → Int64} {R : Nat → Nat → Option Nat} {o : (Nat → Nat → Int32)} (h : rs_Kp_take I = some o) {Q : Option Value → az_S → Prop} (hQ : Q none (97, o, J, R)) : az_E az_F ex 1 24 0 [.ref 49, .ref 4] [] (97, I, J, R) Q := by
  unfold rs_Kp_take at h
  refine az_E.sn 15 (pc' := 27) (L' := [.ref 49, .ref 4]) (S' := [.int (I 4 9), .int (0 : Int32), .ref 50, .int (0 : Int32), .ref 11]) (σ' := (97, (az_u (az_u I 49 0 (1 : Int32)) 49 1 (I 4 9)), J, R)) rfl ?_
  by_cases hc_1 : (0 : Int32) < 0 ∨ (0 : Int32) < 0 ∨ (I 4 9) < 0 ∨ 6 < (0 : Int32).toNatClampNeg + (I 4 9).toNatClampNeg ∨ 6 < (0 : Int32).toNatClampNeg + (I 4 9).toNatClampNeg
  · rw [if_pos hc_1] at h; cases h
  · rw [if_neg hc_1] at h
    refine az_E.o (o := az_cp az_F (97, (az_u (az_u I 49 0 (1 : Int32)) 49 1 (I 4 9)), J, R) 11 (0 : Int32) 50 (0 : Int32) (I 4 9)) (pc' := 30) (L' := [.ref 49, .ref 4]) (S' := []) (x := (97, (az_ur (az_u (az_u I 49 0 (1 : Int32)) 49 1 (I 4 9)) 50 (va_cpy ((az_u (az_u I 49 0 (1 : Int32)) 49 1 (I 4 9)) 11) ((az_u (az_u I 49 0 (1 : Int32)) 49 1 (I 4 9)) 50) 0 0 (I 4 9).toNatClampNeg)), J, R)) rfl (if_neg hc_1) ?_
    refine az_E.sn 8 (pc' := 44) (L' := [.ref 49, .ref 4]) (S' := [.int (I 4 9), .int (0 : Int32), .ref 51, .int (0 : Int32), .ref 8]) (σ' := (97, (az_ur (az_u (az_u I 49 0 (1 : Int32)) 49 1 (I 4 9)) 50 (va_cpy ((az_u (az_u I 49 0 (1 : Int32)) 49 1 (I 4 9)) 11) ((az_u (az_u I 49 0 (1 : Int32)) 49 1 (I 4 9)) 50) 0 0 (I 4 9).toNatClampNeg)), J, R)) rfl ?_
    by_cases hc_2 : (0 : Int32) < 0 ∨ (0 : Int32) < 0 ∨ (I 4 9) < 0 ∨ 6 < (0 : Int32).toNatClampNeg + (I 4 9).toNatClampNeg ∨ 6 < (0 : Int32).toNatClampNeg + (I 4 9).toNatClampNeg
    · rw [if_pos hc_2] at h; cases h
    · rw [if_neg hc_2] at h
      refine az_E.o (o := az_cp az_F (97, (az_ur (az_u (az_u I 49 0 (1 : Int32)) 49 1 (I 4 9)) 50 (va_cpy ((az_u (az_u I 49 0 (1 : Int32)) 49 1 (I 4 9)) 11) ((az_u (az_u I 49 0 (1 : Int32)) 49 1 (I 4 9)) 50) 0 0 (I 4 9).toNatClampNeg)), J, R) 8 (0 : Int32) 51 (0 : Int32) (I 4 9)) (pc' := 47) (L' := [.ref 49, .ref 4]) (S' := []) (x := (97, (az_ur (az_ur (az_u (az_u I 49 0 (1 : Int32)) 49 1 (I 4 9)) 50 (va_cpy ((az_u (az_u I 49 0 (1 : Int32)) 49 1 (I 4 9)) 11) ((az_u (az_u I 49 0 (1 : Int32)) 49 1 (I 4 9)) 50) 0 0 (I 4 9).toNatClampNeg)) 51 (va_cpy ((az_ur (az_u (az_u I 49 0 (1 : Int32)) 49 1 (I 4 9)) 50 (va_cpy ((az_u (az_u I 49 0 (1 : Int32)) 49 1 (I 4 9)) 11) ((az_u (az_u I 49 0 (1 : Int32)) 49 1 (I 4 9)) 50) 0 0 (I 4 9).toNatClampNeg)) 8) ((az_ur (az_u (az_u I 49 0 (1 : Int32)) 49 1 (I 4 9)) 50 (va_cpy ((az_u (az_u I 49 0 (1 : Int32)) 49 1 (I 4 9)) 11) ((az_u (az_u I 49 0 (1 : Int32)) 49 1 (I 4 9)) 50) 0 0 (I 4 9).toNatClampNeg)) 51) 0 0 (I 4 9).toNatClampNeg)), J, R)) rfl (if_neg hc_2) ?_
      refine az_E.sn 8 (pc' := 61) (L' := [.ref 49, .ref 4]) (S' := [.int (I 4 9), .int (0 : Int32), .ref 52, .int (0 : Int32), .ref 9]) (σ' := (97, (az_ur (az_ur (az_u (az_u I 49 0 (1 : Int32)) 49 1 (I 4 9)) 50 (va_cpy ((az_u (az_u I 49 0 (1 : Int32)) 49 1 (I 4 9)) 11) ((az_u (az_u I 49 0 (1 : Int32)) 49 1 (I 4 9)) 50) 0 0 (I 4 9).toNatClampNeg)) 51 (va_cpy ((az_ur (az_u (az_u I 49 0 (1 : Int32)) 49 1 (I 4 9)) 50 (va_cpy ((az_u (az_u I 49 0 (1 : Int32)) 49 1 (I 4 9)) 11) ((az_u (az_u I 49 0 (1 : Int32)) 49 1 (I 4 9)) 50) 0 0 (I 4 9).toNatClampNeg)) 8) ((az_ur (az_u (az_u I 49 0 (1 : Int32)) 49 1 (I 4 9)) 50 (va_cpy ((az_u (az_u I 49 0 (1 : Int32)) 49 1 (I 4 9)) 11) ((az_u (az_u I 49 0 (1 : Int32)) 49 1 (I 4 9)) 50) 0 0 (I 4 9).toNatClampNeg)) 51) 0 0 (I 4 9).toNatClampNeg)), J, R)) rfl ?_
      by_cases hc_3 : (0 : Int32) < 0 ∨ (0 : Int32) < 0 ∨ (I 4 9) < 0 ∨ 6 < (0 : Int32).toNatClampNeg + (I 4 9).toNatClampNeg ∨ 6 < (0 : Int32).toNatClampNeg + (I 4 9).toNatClampNeg
      · rw [if_pos hc_3] at h; cases h
      · rw [if_neg hc_3] at h
        refine az_E.o (o := az_cp az_F (97, (az_ur (az_ur (az_u (az_u I 49 0 (1 : Int32)) 49 1 (I 4 9)) 50 (va_cpy ((az_u (az_u I 49 0 (1 : Int32)) 49 1 (I 4 9)) 11) ((az_u (az_u I 49 0 (1 : Int32)) 49 1 (I 4 9)) 50) 0 0 (I 4 9).toNatClampNeg)) 51 (va_cpy ((az_ur (az_u (az_u I 49 0 (1 : Int32)) 49 1 (I 4 9)) 50 (va_cpy ((az_u (az_u I 49 0 (1 : Int32)) 49 1 (I 4 9)) 11) ((az_u (az_u I 49 0 (1 : Int32)) 49 1 (I 4 9)) 50) 0 0 (I 4 9).toNatClampNeg)) 8) ((az_ur (az_u (az_u I 49 0 (1 : Int32)) 49 1 (I 4 9)) 50 (va_cpy ((az_u (az_u I 49 0 (1 : Int32)) 49 1 (I 4 9)) 11) ((az_u (az_u I 49 0 (1 : Int32)) 49 1 (I 4 9)) 50) 0 0 (I 4 9).toNatClampNeg)) 51) 0 0 (I 4 9).toNatClampNeg)), J, R) 9 (0 : Int32) 52 (0 : Int32) (I 4 9)) (pc' := 64) (L' := [.ref 49, .ref 4]) (S' := []) (x := (97, (az_ur (az_ur (az_ur (az_u (az_u I 49 0 (1 : Int32)) 49 1 (I 4 9)) 50 (va_cpy ((az_u (az_u I 49 0 (1 : Int32)) 49 1 (I 4 9)) 11) ((az_u (az_u I 49 0 (1 : Int32)) 49 1 (I 4 9)) 50) 0 0 (I 4 9).toNatClampNeg)) 51 (va_cpy ((az_ur (az_u (az_u I 49 0 (1 : Int32)) 49 1 (I 4 9)) 50 (va_cpy ((az_u (az_u I 49 0 (1 : Int32)) 49 1 (I 4 9)) 11) ((az_u (az_u I 49 0 (1 : Int32)) 49 1 (I 4 9)) 50) 0 0 (I 4 9).toNatClampNeg)) 8) ((az_ur (az_u (az_u I 49 0 (1 : Int32)) 49 1 (I 4 9)) 50 (va_cpy ((az_u (az_u I 49 0 (1 : Int32)) 49 1 (I 4 9)) 11) ((az_u (az_u I 49 0 (1 : Int32)) 49 1 (I 4 9)) 50) 0 0 (I 4 9).toNatClampNeg)) 51) 0 0 (I 4 9).toNatClampNeg)) 52 (va_cpy ((az_ur (az_ur (az_u (az_u I 49 0 (1 : Int32)) 49 1 (I 4 9)) 50 (va_cpy ((az_u (az_u I 49 0 (1 : Int32)) 49 1 (I 4 9)) 11) ((az_u (az_u I 49 0 (1 : Int32)) 49 1 (I 4 9)) 50) 0 0 (I 4 9).toNatClampNeg)) 51 (va_cpy ((az_ur (az_u (az_u I 49 0 (1 : Int32)) 49 1 (I 4 9)) 50 (va_cpy ((az_u (az_u I 49 0 (1 : Int32)) 49 1 (I 4 9)) 11) ((az_u (az_u I 49 0 (1 : Int32)) 49 1 (I 4 9)) 50) 0 0 (I 4 9).toNatClampNeg)) 8) ((az_ur (az_u (az_u I 49 0 (1 : Int32)) 49 1 (I 4 9)) 50 (va_cpy ((az_u (az_u I 49 0 (1 : Int32)) 49 1 (I 4 9)) 11) ((az_u (az_u I 49 0 (1 : Int32)) 49 1 (I 4 9)) 50) 0 0 (I 4 9).toNatClampNeg)) 51) 0 0 (I 4 9).toNatClampNeg)) 9) ((az_ur (az_ur (az_u (az_u I 49 0 (1 : Int32)) 49 1 (I 4 9)) 50 (va_cpy ((az_u (az_u I 49 0 (1 : Int32)) 49 1 (I 4 9)) 11) ((az_u (az_u I 49 0 (1 : Int32)) 49 1 (I 4 9)) 50) 0 0 (I 4 9).toNatClampNeg)) 51 (va_cpy ((az_ur (az_u (az_u I 49 0 (1 : Int32)) 49 1 (I 4 9)) 50 (va_cpy ((az_u (az_u I 49 0 (1 : Int32)) 49 1 (I 4 9)) 11) ((az_u (az_u I 49 0 (1 : Int32)) 49 1 (I 4 9)) 50) 0 0 (I 4 9).toNatClampNeg)) 8) ((az_ur (az_u (az_u I 49 0 (1 : Int32)) 49 1 (I 4 9)) 50 (va_cpy ((az_u (az_u I 49 0 (1 : Int32)) 49 1 (I 4 9)) 11) ((az_u (az_u I 49 0 (1 : Int32)) 49 1 (I 4 9)) 50) 0 0 (I 4 9).toNatClampNeg)) 51) 0 0 (I 4 9).toNatClampNeg)) 52) 0 0 (I 4 9).toNatClampNeg)), J, R)) rfl (if_neg hc_3) ?_
        refine az_E.sn 8 (pc' := 78) (L' := [.ref 49, .ref 4]) (S' := [.int (I 4 9), .int (0 : Int32), .ref 53, .int (0 : Int32), .ref 12]) (σ' := (97, (az_ur (az_ur (az_ur (az_u (az_u I 49 0 (1 : Int32)) 49 1 (I 4 9)) 50 (va_cpy ((az_u (az_u I 49 0 (1 : Int32)) 49 1 (I 4 9)) 11) ((az_u (az_u I 49 0 (1 : Int32)) 49 1 (I 4 9)) 50) 0 0 (I 4 9).toNatClampNeg)) 51 (va_cpy ((az_ur (az_u (az_u I 49 0 (1 : Int32)) 49 1 (I 4 9)) 50 (va_cpy ((az_u (az_u I 49 0 (1 : Int32)) 49 1 (I 4 9)) 11) ((az_u (az_u I 49 0 (1 : Int32)) 49 1 (I 4 9)) 50) 0 0 (I 4 9).toNatClampNeg)) 8) ((az_ur (az_u (az_u I 49 0 (1 : Int32)) 49 1 (I 4 9)) 50 (va_cpy ((az_u (az_u I 49 0 (1 : Int32)) 49 1 (I 4 9)) 11) ((az_u (az_u I 49 0 (1 : Int32)) 49 1 (I 4 9)) 50) 0 0 (I 4 9).toNatClampNeg)) 51) 0 0 (I 4 9).toNatClampNeg)) 52 (va_cpy ((az_ur (az_ur (az_u (az_u I 49 0 (1 : Int32)) 49 1 (I 4 9)) 50 (va_cpy ((az_u (az_u I 49 0 (1 : Int32)) 49 1 (I 4 9)) 11) ((az_u (az_u I 49 0 (1 : Int32)) 49 1 (I 4 9)) 50) 0 0 (I 4 9).toNatClampNeg)) 51 (va_cpy ((az_ur (az_u (az_u I 49 0 (1 : Int32)) 49 1 (I 4 9)) 50 (va_cpy ((az_u (az_u I 49 0 (1 : Int32)) 49 1 (I 4 9)) 11) ((az_u (az_u I 49 0 (1 : Int32)) 49 1 (I 4 9)) 50) 0 0 (I 4 9).toNatClampNeg)) 8) ((az_ur (az_u (az_u I 49 0 (1 : Int32)) 49 1 (I 4 9)) 50 (va_cpy ((az_u (az_u I 49 0 (1 : Int32)) 49 1 (I 4 9)) 11) ((az_u (az_u I 49 0 (1 : Int32)) 49 1 (I 4 9)) 50) 0 0 (I 4 9).toNatClampNeg)) 51) 0 0 (I 4 9).toNatClampNeg)) 9) ((az_ur (az_ur (az_u (az_u I 49 0 (1 : Int32)) 49 1 (I 4 9)) 50 (va_cpy ((az_u (az_u I 49 0 (1 : Int32)) 49 1 (I 4 9)) 11) ((az_u (az_u I 49 0 (1 : Int32)) 49 1 (I 4 9)) 50) 0 0 (I 4 9).toNatClampNeg)) 51 (va_cpy ((az_ur (az_u (az_u I 49 0 (1 : Int32)) 49 1 (I 4 9)) 50 (va_cpy ((az_u (az_u I 49 0 (1 : Int32)) 49 1 (I 4 9)) 11) ((az_u (az_u I 49 0 (1 : Int32)) 49 1 (I 4 9)) 50) 0 0 (I 4 9).toNatClampNeg)) 8) ((az_ur (az_u (az_u I 49 0 (1 : Int32)) 49 1 (I 4 9)) 50 (va_cpy ((az_u (az_u I 49 0 (1 : Int32)) 49 1 (I 4 9)) 11) ((az_u (az_u I 49 0 (1 : Int32)) 49 1 (I 4 9)) 50) 0 0 (I 4 9).toNatClampNeg)) 51) 0 0 (I 4 9).toNatClampNeg)) 52) 0 0 (I 4 9).toNatClampNeg)), J, R)) rfl ?_
        by_cases hc_4 : (0 : Int32) < 0 ∨ (0 : Int32) < 0 ∨ (I 4 9) < 0 ∨ 6 < (0 : Int32).toNatClampNeg + (I 4 9).toNatClampNeg ∨ 6 < (0 : Int32).toNatClampNeg + (I 4 9).toNatClampNeg
        · rw [if_pos hc_4] at h; cases h
        · rw [if_neg hc_4] at h
          refine az_E.o (o := az_cp az_F (97, (az_ur (az_ur (az_ur (az_u (az_u I 49 0 (1 : Int32)) 49 1 (I 4 9)) 50 (va_cpy ((az_u (az_u I 49 0 (1 : Int32)) 49 1 (I 4 9)) 11) ((az_u (az_u I 49 0 (1 : Int32)) 49 1 (I 4 9)) 50) 0 0 (I 4 9).toNatClampNeg)) 51 (va_cpy ((az_ur (az_u (az_u I 49 0 (1 : Int32)) 49 1 (I 4 9)) 50 (va_cpy ((az_u (az_u I 49 0 (1 : Int32)) 49 1 (I 4 9)) 11) ((az_u (az_u I 49 0 (1 : Int32)) 49 1 (I 4 9)) 50) 0 0 (I 4 9).toNatClampNeg)) 8) ((az_ur (az_u (az_u I 49 0 (1 : Int32)) 49 1 (I 4 9)) 50 (va_cpy ((az_u (az_u I 49 0 (1 : Int32)) 49 1 (I 4 9)) 11) ((az_u (az_u I 49 0 (1 : Int32)) 49 1 (I 4 9)) 50) 0 0 (I 4 9).toNatClampNeg)) 51) 0 0 (I 4 9).toNatClampNeg)) 52 (va_cpy ((az_ur (az_ur (az_u (az_u I 49 0 (1 : Int32)) 49 1 (I 4 9)) 50 (va_cpy ((az_u (az_u I 49 0 (1 : Int32)) 49 1 (I 4 9)) 11) ((az_u (az_u I 49 0 (1 : Int32)) 49 1 (I 4 9)) 50) 0 0 (I 4 9).toNatClampNeg)) 51 (va_cpy ((az_ur (az_u (az_u I 49 0 (1 : Int32)) 49 1 (I 4 9)) 50 (va_cpy ((az_u (az_u I 49 0 (1 : Int32)) 49 1 (I 4 9)) 11) ((az_u (az_u I 49 0 (1 : Int32)) 49 1 (I 4 9)) 50) 0 0 (I 4 9).toNatClampNeg)) 8) ((az_ur (az_u (az_u I 49 0 (1 : Int32)) 49 1 (I 4 9)) 50 (va_cpy ((az_u (az_u I 49 0 (1 : Int32)) 49 1 (I 4 9)) 11) ((az_u (az_u I 49 0 (1 : Int32)) 49 1 (I 4 9)) 50) 0 0 (I 4 9).toNatClampNeg)) 51) 0 0 (I 4 9).toNatClampNeg)) 9) ((az_ur (az_ur (az_u (az_u I 49 0 (1 : Int32)) 49 1 (I 4 9)) 50 (va_cpy ((az_u (az_u I 49 0 (1 : Int32)) 49 1 (I 4 9)) 11) ((az_u (az_u I 49 0 (1 : Int32)) 49 1 (I 4 9)) 50) 0 0 (I 4 9).toNatClampNeg)) 51 (va_cpy ((az_ur (az_u (az_u I 49 0 (1 : Int32)) 49 1 (I 4 9)) 50 (va_cpy ((az_u (az_u I 49 0 (1 : Int32)) 49 1 (I 4 9)) 11) ((az_u (az_u I 49 0 (1 : Int32)) 49 1 (I 4 9)) 50) 0 0 (I 4 9).toNatClampNeg)) 8) ((az_ur (az_u (az_u I 49 0 (1 : Int32)) 49 1 (I 4 9)) 50 (va_cpy ((az_u (az_u I 49 0 (1 : Int32)) 49 1 (I 4 9)) 11) ((az_u (az_u I 49 0 (1 : Int32)) 49 1 (I 4 9)) 50) 0 0 (I 4 9).toNatClampNeg)) 51) 0 0 (I 4 9).toNatClampNeg)) 52) 0 0 (I 4 9).toNatClampNeg)), J, R) 12 (0 : Int32) 53 (0 : Int32) (I 4 9)) (pc' := 81) (L' := [.ref 49, .ref 4]) (S' := []) (x := (97, (az_ur (az_ur (az_ur (az_ur (az_u (az_u I 49 0 (1 : Int32)) 49 1 (I 4 9)) 50 (va_cpy ((az_u (az_u I 49 0 (1 : Int32)) 49 1 (I 4 9)) 11) ((az_u (az_u I 49 0 (1 : Int32)) 49 1 (I 4 9)) 50) 0 0 (I 4 9).toNatClampNeg)) 51 (va_cpy ((az_ur (az_u (az_u I 49 0 (1 : Int32)) 49 1 (I 4 9)) 50 (va_cpy ((az_u (az_u I 49 0 (1 : Int32)) 49 1 (I 4 9)) 11) ((az_u (az_u I 49 0 (1 : Int32)) 49 1 (I 4 9)) 50) 0 0 (I 4 9).toNatClampNeg)) 8) ((az_ur (az_u (az_u I 49 0 (1 : Int32)) 49 1 (I 4 9)) 50 (va_cpy ((az_u (az_u I 49 0 (1 : Int32)) 49 1 (I 4 9)) 11) ((az_u (az_u I 49 0 (1 : Int32)) 49 1 (I 4 9)) 50) 0 0 (I 4 9).toNatClampNeg)) 51) 0 0 (I 4 9).toNatClampNeg)) 52 (va_cpy ((az_ur (az_ur (az_u (az_u I 49 0 (1 : Int32)) 49 1 (I 4 9)) 50 (va_cpy ((az_u (az_u I 49 0 (1 : Int32)) 49 1 (I 4 9)) 11) ((az_u (az_u I 49 0 (1 : Int32)) 49 1 (I 4 9)) 50) 0 0 (I 4 9).toNatClampNeg)) 51 (va_cpy ((az_ur (az_u (az_u I 49 0 (1 : Int32)) 49 1 (I 4 9)) 50 (va_cpy ((az_u (az_u I 49 0 (1 : Int32)) 49 1 (I 4 9)) 11) ((az_u (az_u I 49 0 (1 : Int32)) 49 1 (I 4 9)) 50) 0 0 (I 4 9).toNatClampNeg)) 8) ((az_ur (az_u (az_u I 49 0 (1 : Int32)) 49 1 (I 4 9)) 50 (va_cpy ((az_u (az_u I 49 0 (1 : Int32)) 49 1 (I 4 9)) 11) ((az_u (az_u I 49 0 (1 : Int32)) 49 1 (I 4 9)) 50) 0 0 (I 4 9).toNatClampNeg)) 51) 0 0 (I 4 9).toNatClampNeg)) 9) ((az_ur (az_ur (az_u (az_u I 49 0 (1 : Int32)) 49 1 (I 4 9)) 50 (va_cpy ((az_u (az_u I 49 0 (1 : Int32)) 49 1 (I 4 9)) 11) ((az_u (az_u I 49 0 (1 : Int32)) 49 1 (I 4 9)) 50) 0 0 (I 4 9).toNatClampNeg)) 51 (va_cpy ((az_ur (az_u (az_u I 49 0 (1 : Int32)) 49 1 (I 4 9)) 50 (va_cpy ((az_u (az_u I 49 0 (1 : Int32)) 49 1 (I 4 9)) 11) ((az_u (az_u I 49 0 (1 : Int32)) 49 1 (I 4 9)) 50) 0 0 (I 4 9).toNatClampNeg)) 8) ((az_ur (az_u (az_u I 49 0 (1 : Int32)) 49 1 (I 4 9)) 50 (va_cpy ((az_u (az_u I 49 0 (1 : Int32)) 49 1 (I 4 9)) 11) ((az_u (az_u I 49 0 (1 : Int32)) 49 1 (I 4 9)) 50) 0 0 (I 4 9).toNatClampNeg)) 51) 0 0 (I 4 9).toNatClampNeg)) 52) 0 0 (I 4 9).toNatClampNeg)) 53 (va_cpy ((az_ur (az_ur (az_ur (az_u (az_u I 49 0 (1 : Int32)) 49 1 (I 4 9)) 50 (va_cpy ((az_u (az_u I 49 0 (1 : Int32)) 49 1 (I 4 9)) 11) ((az_u (az_u I 49 0 (1 : Int32)) 49 1 (I 4 9)) 50) 0 0 (I 4 9).toNatClampNeg)) 51 (va_cpy ((az_ur (az_u (az_u I 49 0 (1 : Int32)) 49 1 (I 4 9)) 50 (va_cpy ((az_u (az_u I 49 0 (1 : Int32)) 49 1 (I 4 9)) 11) ((az_u (az_u I 49 0 (1 : Int32)) 49 1 (I 4 9)) 50) 0 0 (I 4 9).toNatClampNeg)) 8) ((az_ur (az_u (az_u I 49 0 (1 : Int32)) 49 1 (I 4 9)) 50 (va_cpy ((az_u (az_u I 49 0 (1 : Int32)) 49 1 (I 4 9)) 11) ((az_u (az_u I 49 0 (1 : Int32)) 49 1 (I 4 9)) 50) 0 0 (I 4 9).toNatClampNeg)) 51) 0 0 (I 4 9).toNatClampNeg)) 52 (va_cpy ((az_ur (az_ur (az_u (az_u I 49 0 (1 : Int32)) 49 1 (I 4 9)) 50 (va_cpy ((az_u (az_u I 49 0 (1 : Int32)) 49 1 (I 4 9)) 11) ((az_u (az_u I 49 0 (1 : Int32)) 49 1 (I 4 9)) 50) 0 0 (I 4 9).toNatClampNeg)) 51 (va_cpy ((az_ur (az_u (az_u I 49 0 (1 : Int32)) 49 1 (I 4 9)) 50 (va_cpy ((az_u (az_u I 49 0 (1 : Int32)) 49 1 (I 4 9)) 11) ((az_u (az_u I 49 0 (1 : Int32)) 49 1 (I 4 9)) 50) 0 0 (I 4 9).toNatClampNeg)) 8) ((az_ur (az_u (az_u I 49 0 (1 : Int32)) 49 1 (I 4 9)) 50 (va_cpy ((az_u (az_u I 49 0 (1 : Int32)) 49 1 (I 4 9)) 11) ((az_u (az_u I 49 0 (1 : Int32)) 49 1 (I 4 9)) 50) 0 0 (I 4 9).toNatClampNeg)) 51) 0 0 (I 4 9).toNatClampNeg)) 9) ((az_ur (az_ur (az_u (az_u I 49 0 (1 : Int32)) 49 1 (I 4 9)) 50 (va_cpy ((az_u (az_u I 49 0 (1 : Int32)) 49 1 (I 4 9)) 11) ((az_u (az_u I 49 0 (1 : Int32)) 49 1 (I 4 9)) 50) 0 0 (I 4 9).toNatClampNeg)) 51 (va_cpy ((az_ur (az_u (az_u I 49 0 (1 : Int32)) 49 1 (I 4 9)) 50 (va_cpy ((az_u (az_u I 49 0 (1 : Int32)) 49 1 (I 4 9)) 11) ((az_u (az_u I 49 0 (1 : Int32)) 49 1 (I 4 9)) 50) 0 0 (I 4 9).toNatClampNeg)) 8) ((az_ur (az_u (az_u I 49 0 (1 : Int32)) 49 1 (I 4 9)) 50 (va_cpy ((az_u (az_u I 49 0 (1 : Int32)) 49 1 (I 4 9)) 11) ((az_u (az_u I 49 0 (1 : Int32)) 49 1 (I 4 9)) 50) 0 0 (I 4 9).toNatClampNeg)) 51) 0 0 (I 4 9).toNatClampNeg)) 52) 0 0 (I 4 9).toNatClampNeg)) 12) ((az_ur (az_ur (az_ur (az_u (az_u I 49 0 (1 : Int32)) 49 1 (I 4 9)) 50 (va_cpy ((az_u (az_u I 49 0 (1 : Int32)) 49 1 (I 4 9)) 11) ((az_u (az_u I 49 0 (1 : Int32)) 49 1 (I 4 9)) 50) 0 0 (I 4 9).toNatClampNeg)) 51 (va_cpy ((az_ur (az_u (az_u I 49 0 (1 : Int32)) 49 1 (I 4 9)) 50 (va_cpy ((az_u (az_u I 49 0 (1 : Int32)) 49 1 (I 4 9)) 11) ((az_u (az_u I 49 0 (1 : Int32)) 49 1 (I 4 9)) 50) 0 0 (I 4 9).toNatClampNeg)) 8) ((az_ur (az_u (az_u I 49 0 (1 : Int32)) 49 1 (I 4 9)) 50 (va_cpy ((az_u (az_u I 49 0 (1 : Int32)) 49 1 (I 4 9)) 11) ((az_u (az_u I 49 0 (1 : Int32)) 49 1 (I 4 9)) 50) 0 0 (I 4 9).toNatClampNeg)) 51) 0 0 (I 4 9).toNatClampNeg)) 52 (va_cpy ((az_ur (az_ur (az_u (az_u I 49 0 (1 : Int32)) 49 1 (I 4 9)) 50 (va_cpy ((az_u (az_u I 49 0 (1 : Int32)) 49 1 (I 4 9)) 11) ((az_u (az_u I 49 0 (1 : Int32)) 49 1 (I 4 9)) 50) 0 0 (I 4 9).toNatClampNeg)) 51 (va_cpy ((az_ur (az_u (az_u I 49 0 (1 : Int32)) 49 1 (I 4 9)) 50 (va_cpy ((az_u (az_u I 49 0 (1 : Int32)) 49 1 (I 4 9)) 11) ((az_u (az_u I 49 0 (1 : Int32)) 49 1 (I 4 9)) 50) 0 0 (I 4 9).toNatClampNeg)) 8) ((az_ur (az_u (az_u I 49 0 (1 : Int32)) 49 1 (I 4 9)) 50 (va_cpy ((az_u (az_u I 49 0 (1 : Int32)) 49 1 (I 4 9)) 11) ((az_u (az_u I 49 0 (1 : Int32)) 49 1 (I 4 9)) 50) 0 0 (I 4 9).toNatClampNeg)) 51) 0 0 (I 4 9).toNatClampNeg)) 9) ((az_ur (az_ur (az_u (az_u I 49 0 (1 : Int32)) 49 1 (I 4 9)) 50 (va_cpy ((az_u (az_u I 49 0 (1 : Int32)) 49 1 (I 4 9)) 11) ((az_u (az_u I 49 0 (1 : Int32)) 49 1 (I 4 9)) 50) 0 0 (I 4 9).toNatClampNeg)) 51 (va_cpy ((az_ur (az_u (az_u I 49 0 (1 : Int32)) 49 1 (I 4 9)) 50 (va_cpy ((az_u (az_u I 49 0 (1 : Int32)) 49 1 (I 4 9)) 11) ((az_u (az_u I 49 0 (1 : Int32)) 49 1 (I 4 9)) 50) 0 0 (I 4 9).toNatClampNeg)) 8) ((az_ur (az_u (az_u I 49 0 (1 : Int32)) 49 1 (I 4 9)) 50 (va_cpy ((az_u (az_u I 49 0 (1 : Int32)) 49 1 (I 4 9)) 11) ((az_u (az_u I 49 0 (1 : Int32)) 49 1 (I 4 9)) 50) 0 0 (I 4 9).toNatClampNeg)) 51) 0 0 (I 4 9).toNatClampNeg)) 52) 0 0 (I 4 9).toNatClampNeg)) 53) 0 0 (I 4 9).toNatClampNeg)), J, R)) rfl (if_neg hc_4) ?_
          refine az_E.sn 7 (pc' := 92) (L' := [.ref 49, .ref 4]) (S' := [.int (4 : Int32), .int (0 : Int32), .ref 54, .int (0 : Int32), .ref 13]) (σ' := (97, (az_ur (az_ur (az_ur (az_ur (az_u (az_u I 49 0 (1 : Int32)) 49 1 (I 4 9)) 50 (va_cpy ((az_u (az_u I 49 0 (1 : Int32)) 49 1 (I 4 9)) 11) ((az_u (az_u I 49 0 (1 : Int32)) 49 1 (I 4 9)) 50) 0 0 (I 4 9).toNatClampNeg)) 51 (va_cpy ((az_ur (az_u (az_u I 49 0 (1 : Int32)) 49 1 (I 4 9)) 50 (va_cpy ((az_u (az_u I 49 0 (1 : Int32)) 49 1 (I 4 9)) 11) ((az_u (az_u I 49 0 (1 : Int32)) 49 1 (I 4 9)) 50) 0 0 (I 4 9).toNatClampNeg)) 8) ((az_ur (az_u (az_u I 49 0 (1 : Int32)) 49 1 (I 4 9)) 50 (va_cpy ((az_u (az_u I 49 0 (1 : Int32)) 49 1 (I 4 9)) 11) ((az_u (az_u I 49 0 (1 : Int32)) 49 1 (I 4 9)) 50) 0 0 (I 4 9).toNatClampNeg)) 51) 0 0 (I 4 9).toNatClampNeg)) 52 (va_cpy ((az_ur (az_ur (az_u (az_u I 49 0 (1 : Int32)) 49 1 (I 4 9)) 50 (va_cpy ((az_u (az_u I 49 0 (1 : Int32)) 49 1 (I 4 9)) 11) ((az_u (az_u I 49 0 (1 : Int32)) 49 1 (I 4 9)) 50) 0 0 (I 4 9).toNatClampNeg)) 51 (va_cpy ((az_ur (az_u (az_u I 49 0 (1 : Int32)) 49 1 (I 4 9)) 50 (va_cpy ((az_u (az_u I 49 0 (1 : Int32)) 49 1 (I 4 9)) 11) ((az_u (az_u I 49 0 (1 : Int32)) 49 1 (I 4 9)) 50) 0 0 (I 4 9).toNatClampNeg)) 8) ((az_ur (az_u (az_u I 49 0 (1 : Int32)) 49 1 (I 4 9)) 50 (va_cpy ((az_u (az_u I 49 0 (1 : Int32)) 49 1 (I 4 9)) 11) ((az_u (az_u I 49 0 (1 : Int32)) 49 1 (I 4 9)) 50) 0 0 (I 4 9).toNatClampNeg)) 51) 0 0 (I 4 9).toNatClampNeg)) 9) ((az_ur (az_ur (az_u (az_u I 49 0 (1 : Int32)) 49 1 (I 4 9)) 50 (va_cpy ((az_u (az_u I 49 0 (1 : Int32)) 49 1 (I 4 9)) 11) ((az_u (az_u I 49 0 (1 : Int32)) 49 1 (I 4 9)) 50) 0 0 (I 4 9).toNatClampNeg)) 51 (va_cpy ((az_ur (az_u (az_u I 49 0 (1 : Int32)) 49 1 (I 4 9)) 50 (va_cpy ((az_u (az_u I 49 0 (1 : Int32)) 49 1 (I 4 9)) 11) ((az_u (az_u I 49 0 (1 : Int32)) 49 1 (I 4 9)) 50) 0 0 (I 4 9).toNatClampNeg)) 8) ((az_ur (az_u (az_u I 49 0 (1 : Int32)) 49 1 (I 4 9)) 50 (va_cpy ((az_u (az_u I 49 0 (1 : Int32)) 49 1 (I 4 9)) 11) ((az_u (az_u I 49 0 (1 : Int32)) 49 1 (I 4 9)) 50) 0 0 (I 4 9).toNatClampNeg)) 51) 0 0 (I 4 9).toNatClampNeg)) 52) 0 0 (I 4 9).toNatClampNeg)) 53 (va_cpy ((az_ur (az_ur (az_ur (az_u (az_u I 49 0 (1 : Int32)) 49 1 (I 4 9)) 50 (va_cpy ((az_u (az_u I 49 0 (1 : Int32)) 49 1 (I 4 9)) 11) ((az_u (az_u I 49 0 (1 : Int32)) 49 1 (I 4 9)) 50) 0 0 (I 4 9).toNatClampNeg)) 51 (va_cpy ((az_ur (az_u (az_u I 49 0 (1 : Int32)) 49 1 (I 4 9)) 50 (va_cpy ((az_u (az_u I 49 0 (1 : Int32)) 49 1 (I 4 9)) 11) ((az_u (az_u I 49 0 (1 : Int32)) 49 1 (I 4 9)) 50) 0 0 (I 4 9).toNatClampNeg)) 8) ((az_ur (az_u (az_u I 49 0 (1 : Int32)) 49 1 (I 4 9)) 50 (va_cpy ((az_u (az_u I 49 0 (1 : Int32)) 49 1 (I 4 9)) 11) ((az_u (az_u I 49 0 (1 : Int32)) 49 1 (I 4 9)) 50) 0 0 (I 4 9).toNatClampNeg)) 51) 0 0 (I 4 9).toNatClampNeg)) 52 (va_cpy ((az_ur (az_ur (az_u (az_u I 49 0 (1 : Int32)) 49 1 (I 4 9)) 50 (va_cpy ((az_u (az_u I 49 0 (1 : Int32)) 49 1 (I 4 9)) 11) ((az_u (az_u I 49 0 (1 : Int32)) 49 1 (I 4 9)) 50) 0 0 (I 4 9).toNatClampNeg)) 51 (va_cpy ((az_ur (az_u (az_u I 49 0 (1 : Int32)) 49 1 (I 4 9)) 50 (va_cpy ((az_u (az_u I 49 0 (1 : Int32)) 49 1 (I 4 9)) 11) ((az_u (az_u I 49 0 (1 : Int32)) 49 1 (I 4 9)) 50) 0 0 (I 4 9).toNatClampNeg)) 8) ((az_ur (az_u (az_u I 49 0 (1 : Int32)) 49 1 (I 4 9)) 50 (va_cpy ((az_u (az_u I 49 0 (1 : Int32)) 49 1 (I 4 9)) 11) ((az_u (az_u I 49 0 (1 : Int32)) 49 1 (I 4 9)) 50) 0 0 (I 4 9).toNatClampNeg)) 51) 0 0 (I 4 9).toNatClampNeg)) 9) ((az_ur (az_ur (az_u (az_u I 49 0 (1 : Int32)) 49 1 (I 4 9)) 50 (va_cpy ((az_u (az_u I 49 0 (1 : Int32)) 49 1 (I 4 9)) 11) ((az_u (az_u I 49 0 (1 : Int32)) 49 1 (I 4 9)) 50) 0 0 (I 4 9).toNatClampNeg)) 51 (va_cpy ((az_ur (az_u (az_u I 49 0 (1 : Int32)) 49 1 (I 4 9)) 50 (va_cpy ((az_u (az_u I 49 0 (1 : Int32)) 49 1 (I 4 9)) 11) ((az_u (az_u I 49 0 (1 : Int32)) 49 1 (I 4 9)) 50) 0 0 (I 4 9).toNatClampNeg)) 8) ((az_ur (az_u (az_u I 49 0 (1 : Int32)) 49 1 (I 4 9)) 50 (va_cpy ((az_u (az_u I 49 0 (1 : Int32)) 49 1 (I 4 9)) 11) ((az_u (az_u I 49 0 (1 : Int32)) 49 1 (I 4 9)) 50) 0 0 (I 4 9).toNatClampNeg)) 51) 0 0 (I 4 9).toNatClampNeg)) 52) 0 0 (I 4 9).toNatClampNeg)) 12) ((az_ur (az_ur (az_ur (az_u (az_u I 49 0 (1 : Int32)) 49 1 (I 4 9)) 50 (va_cpy ((az_u (az_u I 49 0 (1 : Int32)) 49 1 (I 4 9)) 11) ((az_u (az_u I 49 0 (1 : Int32)) 49 1 (I 4 9)) 50) 0 0 (I 4 9).toNatClampNeg)) 51 (va_cpy ((az_ur (az_u (az_u I 49 0 (1 : Int32)) 49 1 (I 4 9)) 50 (va_cpy ((az_u (az_u I 49 0 (1 : Int32)) 49 1 (I 4 9)) 11) ((az_u (az_u I 49 0 (1 : Int32)) 49 1 (I 4 9)) 50) 0 0 (I 4 9).toNatClampNeg)) 8) ((az_ur (az_u (az_u I 49 0 (1 : Int32)) 49 1 (I 4 9)) 50 (va_cpy ((az_u (az_u I 49 0 (1 : Int32)) 49 1 (I 4 9)) 11) ((az_u (az_u I 49 0 (1 : Int32)) 49 1 (I 4 9)) 50) 0 0 (I 4 9).toNatClampNeg)) 51) 0 0 (I 4 9).toNatClampNeg)) 52 (va_cpy ((az_ur (az_ur (az_u (az_u I 49 0 (1 : Int32)) 49 1 (I 4 9)) 50 (va_cpy ((az_u (az_u I 49 0 (1 : Int32)) 49 1 (I 4 9)) 11) ((az_u (az_u I 49 0 (1 : Int32)) 49 1 (I 4 9)) 50) 0 0 (I 4 9).toNatClampNeg)) 51 (va_cpy ((az_ur (az_u (az_u I 49 0 (1 : Int32)) 49 1 (I 4 9)) 50 (va_cpy ((az_u (az_u I 49 0 (1 : Int32)) 49 1 (I 4 9)) 11) ((az_u (az_u I 49 0 (1 : Int32)) 49 1 (I 4 9)) 50) 0 0 (I 4 9).toNatClampNeg)) 8) ((az_ur (az_u (az_u I 49 0 (1 : Int32)) 49 1 (I 4 9)) 50 (va_cpy ((az_u (az_u I 49 0 (1 : Int32)) 49 1 (I 4 9)) 11) ((az_u (az_u I 49 0 (1 : Int32)) 49 1 (I 4 9)) 50) 0 0 (I 4 9).toNatClampNeg)) 51) 0 0 (I 4 9).toNatClampNeg)) 9) ((az_ur (az_ur (az_u (az_u I 49 0 (1 : Int32)) 49 1 (I 4 9)) 50 (va_cpy ((az_u (az_u I 49 0 (1 : Int32)) 49 1 (I 4 9)) 11) ((az_u (az_u I 49 0 (1 : Int32)) 49 1 (I 4 9)) 50) 0 0 (I 4 9).toNatClampNeg)) 51 (va_cpy ((az_ur (az_u (az_u I 49 0 (1 : Int32)) 49 1 (I 4 9)) 50 (va_cpy ((az_u (az_u I 49 0 (1 : Int32)) 49 1 (I 4 9)) 11) ((az_u (az_u I 49 0 (1 : Int32)) 49 1 (I 4 9)) 50) 0 0 (I 4 9).toNatClampNeg)) 8) ((az_ur (az_u (az_u I 49 0 (1 : Int32)) 49 1 (I 4 9)) 50 (va_cpy ((az_u (az_u I 49 0 (1 : Int32)) 49 1 (I 4 9)) 11) ((az_u (az_u I 49 0 (1 : Int32)) 49 1 (I 4 9)) 50) 0 0 (I 4 9).toNatClampNeg)) 51) 0 0 (I 4 9).toNatClampNeg)) 52) 0 0 (I 4 9).toNatClampNeg)) 53) 0 0 (I 4 9).toNatClampNeg)), J, R)) rfl ?_
          refine az_E.o (o := az_cp az_F (97, (az_ur (az_ur (az_ur (az_ur (az_u (az_u I 49 0 (1 : Int32)) 49 1 (I 4 9)) 50 (va_cpy ((az_u (az_u I 49 0 (1 : Int32)) 49 1 (I 4 9)) 11) ((az_u (az_u I 49 0 (1 : Int32)) 49 1 (I 4 9)) 50) 0 0 (I 4 9).toNatClampNeg)) 51 (va_cpy ((az_ur (az_u (az_u I 49 0 (1 : Int32)) 49 1 (I 4 9)) 50 (va_cpy ((az_u (az_u I 49 0 (1 : Int32)) 49 1 (I 4 9)) 11) ((az_u (az_u I 49 0 (1 : Int32)) 49 1 (I 4 9)) 50) 0 0 (I 4 9).toNatClampNeg)) 8) ((az_ur (az_u (az_u I 49 0 (1 : Int32)) 49 1 (I 4 9)) 50 (va_cpy ((az_u (az_u I 49 0 (1 : Int32)) 49 1 (I 4 9)) 11) ((az_u (az_u I 49 0 (1 : Int32)) 49 1 (I 4 9)) 50) 0 0 (I 4 9).toNatClampNeg)) 51) 0 0 (I 4 9).toNatClampNeg)) 52 (va_cpy ((az_ur (az_ur (az_u (az_u I 49 0 (1 : Int32)) 49 1 (I 4 9)) 50 (va_cpy ((az_u (az_u I 49 0 (1 : Int32)) 49 1 (I 4 9)) 11) ((az_u (az_u I 49 0 (1 : Int32)) 49 1 (I 4 9)) 50) 0 0 (I 4 9).toNatClampNeg)) 51 (va_cpy ((az_ur (az_u (az_u I 49 0 (1 : Int32)) 49 1 (I 4 9)) 50 (va_cpy ((az_u (az_u I 49 0 (1 : Int32)) 49 1 (I 4 9)) 11) ((az_u (az_u I 49 0 (1 : Int32)) 49 1 (I 4 9)) 50) 0 0 (I 4 9).toNatClampNeg)) 8) ((az_ur (az_u (az_u I 49 0 (1 : Int32)) 49 1 (I 4 9)) 50 (va_cpy ((az_u (az_u I 49 0 (1 : Int32)) 49 1 (I 4 9)) 11) ((az_u (az_u I 49 0 (1 : Int32)) 49 1 (I 4 9)) 50) 0 0 (I 4 9).toNatClampNeg)) 51) 0 0 (I 4 9).toNatClampNeg)) 9) ((az_ur (az_ur (az_u (az_u I 49 0 (1 : Int32)) 49 1 (I 4 9)) 50 (va_cpy ((az_u (az_u I 49 0 (1 : Int32)) 49 1 (I 4 9)) 11) ((az_u (az_u I 49 0 (1 : Int32)) 49 1 (I 4 9)) 50) 0 0 (I 4 9).toNatClampNeg)) 51 (va_cpy ((az_ur (az_u (az_u I 49 0 (1 : Int32)) 49 1 (I 4 9)) 50 (va_cpy ((az_u (az_u I 49 0 (1 : Int32)) 49 1 (I 4 9)) 11) ((az_u (az_u I 49 0 (1 : Int32)) 49 1 (I 4 9)) 50) 0 0 (I 4 9).toNatClampNeg)) 8) ((az_ur (az_u (az_u I 49 0 (1 : Int32)) 49 1 (I 4 9)) 50 (va_cpy ((az_u (az_u I 49 0 (1 : Int32)) 49 1 (I 4 9)) 11) ((az_u (az_u I 49 0 (1 : Int32)) 49 1 (I 4 9)) 50) 0 0 (I 4 9).toNatClampNeg)) 51) 0 0 (I 4 9).toNatClampNeg)) 52) 0 0 (I 4 9).toNatClampNeg)) 53 (va_cpy ((az_ur (az_ur (az_ur (az_u (az_u I 49 0 (1 : Int32)) 49 1 (I 4 9)) 50 (va_cpy ((az_u (az_u I 49 0 (1 : Int32)) 49 1 (I 4 9)) 11) ((az_u (az_u I 49 0 (1 : Int32)) 49 1 (I 4 9)) 50) 0 0 (I 4 9).toNatClampNeg)) 51 (va_cpy ((az_ur (az_u (az_u I 49 0 (1 : Int32)) 49 1 (I 4 9)) 50 (va_cpy ((az_u (az_u I 49 0 (1 : Int32)) 49 1 (I 4 9)) 11) ((az_u (az_u I 49 0 (1 : Int32)) 49 1 (I 4 9)) 50) 0 0 (I 4 9).toNatClampNeg)) 8) ((az_ur (az_u (az_u I 49 0 (1 : Int32)) 49 1 (I 4 9)) 50 (va_cpy ((az_u (az_u I 49 0 (1 : Int32)) 49 1 (I 4 9)) 11) ((az_u (az_u I 49 0 (1 : Int32)) 49 1 (I 4 9)) 50) 0 0 (I 4 9).toNatClampNeg)) 51) 0 0 (I 4 9).toNatClampNeg)) 52 (va_cpy ((az_ur (az_ur (az_u (az_u I 49 0 (1 : Int32)) 49 1 (I 4 9)) 50 (va_cpy ((az_u (az_u I 49 0 (1 : Int32)) 49 1 (I 4 9)) 11) ((az_u (az_u I 49 0 (1 : Int32)) 49 1 (I 4 9)) 50) 0 0 (I 4 9).toNatClampNeg)) 51 (va_cpy ((az_ur (az_u (az_u I 49 0 (1 : Int32)) 49 1 (I 4 9)) 50 (va_cpy ((az_u (az_u I 49 0 (1 : Int32)) 49 1 (I 4 9)) 11) ((az_u (az_u I 49 0 (1 : Int32)) 49 1 (I 4 9)) 50) 0 0 (I 4 9).toNatClampNeg)) 8) ((az_ur (az_u (az_u I 49 0 (1 : Int32)) 49 1 (I 4 9)) 50 (va_cpy ((az_u (az_u I 49 0 (1 : Int32)) 49 1 (I 4 9)) 11) ((az_u (az_u I 49 0 (1 : Int32)) 49 1 (I 4 9)) 50) 0 0 (I 4 9).toNatClampNeg)) 51) 0 0 (I 4 9).toNatClampNeg)) 9) ((az_ur (az_ur (az_u (az_u I 49 0 (1 : Int32)) 49 1 (I 4 9)) 50 (va_cpy ((az_u (az_u I 49 0 (1 : Int32)) 49 1 (I 4 9)) 11) ((az_u (az_u I 49 0 (1 : Int32)) 49 1 (I 4 9)) 50) 0 0 (I 4 9).toNatClampNeg)) 51 (va_cpy ((az_ur (az_u (az_u I 49 0 (1 : Int32)) 49 1 (I 4 9)) 50 (va_cpy ((az_u (az_u I 49 0 (1 : Int32)) 49 1 (I 4 9)) 11) ((az_u (az_u I 49 0 (1 : Int32)) 49 1 (I 4 9)) 50) 0 0 (I 4 9).toNatClampNeg)) 8) ((az_ur (az_u (az_u I 49 0 (1 : Int32)) 49 1 (I 4 9)) 50 (va_cpy ((az_u (az_u I 49 0 (1 : Int32)) 49 1 (I 4 9)) 11) ((az_u (az_u I 49 0 (1 : Int32)) 49 1 (I 4 9)) 50) 0 0 (I 4 9).toNatClampNeg)) 51) 0 0 (I 4 9).toNatClampNeg)) 52) 0 0 (I 4 9).toNatClampNeg)) 12) ((az_ur (az_ur (az_ur (az_u (az_u I 49 0 (1 : Int32)) 49 1 (I 4 9)) 50 (va_cpy ((az_u (az_u I 49 0 (1 : Int32)) 49 1 (I 4 9)) 11) ((az_u (az_u I 49 0 (1 : Int32)) 49 1 (I 4 9)) 50) 0 0 (I 4 9).toNatClampNeg)) 51 (va_cpy ((az_ur (az_u (az_u I 49 0 (1 : Int32)) 49 1 (I 4 9)) 50 (va_cpy ((az_u (az_u I 49 0 (1 : Int32)) 49 1 (I 4 9)) 11) ((az_u (az_u I 49 0 (1 : Int32)) 49 1 (I 4 9)) 50) 0 0 (I 4 9).toNatClampNeg)) 8) ((az_ur (az_u (az_u I 49 0 (1 : Int32)) 49 1 (I 4 9)) 50 (va_cpy ((az_u (az_u I 49 0 (1 : Int32)) 49 1 (I 4 9)) 11) ((az_u (az_u I 49 0 (1 : Int32)) 49 1 (I 4 9)) 50) 0 0 (I 4 9).toNatClampNeg)) 51) 0 0 (I 4 9).toNatClampNeg)) 52 (va_cpy ((az_ur (az_ur (az_u (az_u I 49 0 (1 : Int32)) 49 1 (I 4 9)) 50 (va_cpy ((az_u (az_u I 49 0 (1 : Int32)) 49 1 (I 4 9)) 11) ((az_u (az_u I 49 0 (1 : Int32)) 49 1 (I 4 9)) 50) 0 0 (I 4 9).toNatClampNeg)) 51 (va_cpy ((az_ur (az_u (az_u I 49 0 (1 : Int32)) 49 1 (I 4 9)) 50 (va_cpy ((az_u (az_u I 49 0 (1 : Int32)) 49 1 (I 4 9)) 11) ((az_u (az_u I 49 0 (1 : Int32)) 49 1 (I 4 9)) 50) 0 0 (I 4 9).toNatClampNeg)) 8) ((az_ur (az_u (az_u I 49 0 (1 : Int32)) 49 1 (I 4 9)) 50 (va_cpy ((az_u (az_u I 49 0 (1 : Int32)) 49 1 (I 4 9)) 11) ((az_u (az_u I 49 0 (1 : Int32)) 49 1 (I 4 9)) 50) 0 0 (I 4 9).toNatClampNeg)) 51) 0 0 (I 4 9).toNatClampNeg)) 9) ((az_ur (az_ur (az_u (az_u I 49 0 (1 : Int32)) 49 1 (I 4 9)) 50 (va_cpy ((az_u (az_u I 49 0 (1 : Int32)) 49 1 (I 4 9)) 11) ((az_u (az_u I 49 0 (1 : Int32)) 49 1 (I 4 9)) 50) 0 0 (I 4 9).toNatClampNeg)) 51 (va_cpy ((az_ur (az_u (az_u I 49 0 (1 : Int32)) 49 1 (I 4 9)) 50 (va_cpy ((az_u (az_u I 49 0 (1 : Int32)) 49 1 (I 4 9)) 11) ((az_u (az_u I 49 0 (1 : Int32)) 49 1 (I 4 9)) 50) 0 0 (I 4 9).toNatClampNeg)) 8) ((az_ur (az_u (az_u I 49 0 (1 : Int32)) 49 1 (I 4 9)) 50 (va_cpy ((az_u (az_u I 49 0 (1 : Int32)) 49 1 (I 4 9)) 11) ((az_u (az_u I 49 0 (1 : Int32)) 49 1 (I 4 9)) 50) 0 0 (I 4 9).toNatClampNeg)) 51) 0 0 (I 4 9).toNatClampNeg)) 52) 0 0 (I 4 9).toNatClampNeg)) 53) 0 0 (I 4 9).toNatClampNeg)), J, R) 13 (0 : Int32) 54 (0 : Int32) (4 : Int32)) (pc' := 95) (L' := [.ref 49, .ref 4]) (S' := []) (x := (97, (az_ur (az_ur (az_ur (az_ur (az_ur (az_u (az_u I 49 0 (1 : Int32)) 49 1 (I 4 9)) 50 (va_cpy ((az_u (az_u I 49 0 (1 : Int32)) 49 1 (I 4 9)) 11) ((az_u (az_u I 49 0 (1 : Int32)) 49 1 (I 4 9)) 50) 0 0 (I 4 9).toNatClampNeg)) 51 (va_cpy ((az_ur (az_u (az_u I 49 0 (1 : Int32)) 49 1 (I 4 9)) 50 (va_cpy ((az_u (az_u I 49 0 (1 : Int32)) 49 1 (I 4 9)) 11) ((az_u (az_u I 49 0 (1 : Int32)) 49 1 (I 4 9)) 50) 0 0 (I 4 9).toNatClampNeg)) 8) ((az_ur (az_u (az_u I 49 0 (1 : Int32)) 49 1 (I 4 9)) 50 (va_cpy ((az_u (az_u I 49 0 (1 : Int32)) 49 1 (I 4 9)) 11) ((az_u (az_u I 49 0 (1 : Int32)) 49 1 (I 4 9)) 50) 0 0 (I 4 9).toNatClampNeg)) 51) 0 0 (I 4 9).toNatClampNeg)) 52 (va_cpy ((az_ur (az_ur (az_u (az_u I 49 0 (1 : Int32)) 49 1 (I 4 9)) 50 (va_cpy ((az_u (az_u I 49 0 (1 : Int32)) 49 1 (I 4 9)) 11) ((az_u (az_u I 49 0 (1 : Int32)) 49 1 (I 4 9)) 50) 0 0 (I 4 9).toNatClampNeg)) 51 (va_cpy ((az_ur (az_u (az_u I 49 0 (1 : Int32)) 49 1 (I 4 9)) 50 (va_cpy ((az_u (az_u I 49 0 (1 : Int32)) 49 1 (I 4 9)) 11) ((az_u (az_u I 49 0 (1 : Int32)) 49 1 (I 4 9)) 50) 0 0 (I 4 9).toNatClampNeg)) 8) ((az_ur (az_u (az_u I 49 0 (1 : Int32)) 49 1 (I 4 9)) 50 (va_cpy ((az_u (az_u I 49 0 (1 : Int32)) 49 1 (I 4 9)) 11) ((az_u (az_u I 49 0 (1 : Int32)) 49 1 (I 4 9)) 50) 0 0 (I 4 9).toNatClampNeg)) 51) 0 0 (I 4 9).toNatClampNeg)) 9) ((az_ur (az_ur (az_u (az_u I 49 0 (1 : Int32)) 49 1 (I 4 9)) 50 (va_cpy ((az_u (az_u I 49 0 (1 : Int32)) 49 1 (I 4 9)) 11) ((az_u (az_u I 49 0 (1 : Int32)) 49 1 (I 4 9)) 50) 0 0 (I 4 9).toNatClampNeg)) 51 (va_cpy ((az_ur (az_u (az_u I 49 0 (1 : Int32)) 49 1 (I 4 9)) 50 (va_cpy ((az_u (az_u I 49 0 (1 : Int32)) 49 1 (I 4 9)) 11) ((az_u (az_u I 49 0 (1 : Int32)) 49 1 (I 4 9)) 50) 0 0 (I 4 9).toNatClampNeg)) 8) ((az_ur (az_u (az_u I 49 0 (1 : Int32)) 49 1 (I 4 9)) 50 (va_cpy ((az_u (az_u I 49 0 (1 : Int32)) 49 1 (I 4 9)) 11) ((az_u (az_u I 49 0 (1 : Int32)) 49 1 (I 4 9)) 50) 0 0 (I 4 9).toNatClampNeg)) 51) 0 0 (I 4 9).toNatClampNeg)) 52) 0 0 (I 4 9).toNatClampNeg)) 53 (va_cpy ((az_ur (az_ur (az_ur (az_u (az_u I 49 0 (1 : Int32)) 49 1 (I 4 9)) 50 (va_cpy ((az_u (az_u I 49 0 (1 : Int32)) 49 1 (I 4 9)) 11) ((az_u (az_u I 49 0 (1 : Int32)) 49 1 (I 4 9)) 50) 0 0 (I 4 9).toNatClampNeg)) 51 (va_cpy ((az_ur (az_u (az_u I 49 0 (1 : Int32)) 49 1 (I 4 9)) 50 (va_cpy ((az_u (az_u I 49 0 (1 : Int32)) 49 1 (I 4 9)) 11) ((az_u (az_u I 49 0 (1 : Int32)) 49 1 (I 4 9)) 50) 0 0 (I 4 9).toNatClampNeg)) 8) ((az_ur (az_u (az_u I 49 0 (1 : Int32)) 49 1 (I 4 9)) 50 (va_cpy ((az_u (az_u I 49 0 (1 : Int32)) 49 1 (I 4 9)) 11) ((az_u (az_u I 49 0 (1 : Int32)) 49 1 (I 4 9)) 50) 0 0 (I 4 9).toNatClampNeg)) 51) 0 0 (I 4 9).toNatClampNeg)) 52 (va_cpy ((az_ur (az_ur (az_u (az_u I 49 0 (1 : Int32)) 49 1 (I 4 9)) 50 (va_cpy ((az_u (az_u I 49 0 (1 : Int32)) 49 1 (I 4 9)) 11) ((az_u (az_u I 49 0 (1 : Int32)) 49 1 (I 4 9)) 50) 0 0 (I 4 9).toNatClampNeg)) 51 (va_cpy ((az_ur (az_u (az_u I 49 0 (1 : Int32)) 49 1 (I 4 9)) 50 (va_cpy ((az_u (az_u I 49 0 (1 : Int32)) 49 1 (I 4 9)) 11) ((az_u (az_u I 49 0 (1 : Int32)) 49 1 (I 4 9)) 50) 0 0 (I 4 9).toNatClampNeg)) 8) ((az_ur (az_u (az_u I 49 0 (1 : Int32)) 49 1 (I 4 9)) 50 (va_cpy ((az_u (az_u I 49 0 (1 : Int32)) 49 1 (I 4 9)) 11) ((az_u (az_u I 49 0 (1 : Int32)) 49 1 (I 4 9)) 50) 0 0 (I 4 9).toNatClampNeg)) 51) 0 0 (I 4 9).toNatClampNeg)) 9) ((az_ur (az_ur (az_u (az_u I 49 0 (1 : Int32)) 49 1 (I 4 9)) 50 (va_cpy ((az_u (az_u I 49 0 (1 : Int32)) 49 1 (I 4 9)) 11) ((az_u (az_u I 49 0 (1 : Int32)) 49 1 (I 4 9)) 50) 0 0 (I 4 9).toNatClampNeg)) 51 (va_cpy ((az_ur (az_u (az_u I 49 0 (1 : Int32)) 49 1 (I 4 9)) 50 (va_cpy ((az_u (az_u I 49 0 (1 : Int32)) 49 1 (I 4 9)) 11) ((az_u (az_u I 49 0 (1 : Int32)) 49 1 (I 4 9)) 50) 0 0 (I 4 9).toNatClampNeg)) 8) ((az_ur (az_u (az_u I 49 0 (1 : Int32)) 49 1 (I 4 9)) 50 (va_cpy ((az_u (az_u I 49 0 (1 : Int32)) 49 1 (I 4 9)) 11) ((az_u (az_u I 49 0 (1 : Int32)) 49 1 (I 4 9)) 50) 0 0 (I 4 9).toNatClampNeg)) 51) 0 0 (I 4 9).toNatClampNeg)) 52) 0 0 (I 4 9).toNatClampNeg)) 12) ((az_ur (az_ur (az_ur (az_u (az_u I 49 0 (1 : Int32)) 49 1 (I 4 9)) 50 (va_cpy ((az_u (az_u I 49 0 (1 : Int32)) 49 1 (I 4 9)) 11) ((az_u (az_u I 49 0 (1 : Int32)) 49 1 (I 4 9)) 50) 0 0 (I 4 9).toNatClampNeg)) 51 (va_cpy ((az_ur (az_u (az_u I 49 0 (1 : Int32)) 49 1 (I 4 9)) 50 (va_cpy ((az_u (az_u I 49 0 (1 : Int32)) 49 1 (I 4 9)) 11) ((az_u (az_u I 49 0 (1 : Int32)) 49 1 (I 4 9)) 50) 0 0 (I 4 9).toNatClampNeg)) 8) ((az_ur (az_u (az_u I 49 0 (1 : Int32)) 49 1 (I 4 9)) 50 (va_cpy ((az_u (az_u I 49 0 (1 : Int32)) 49 1 (I 4 9)) 11) ((az_u (az_u I 49 0 (1 : Int32)) 49 1 (I 4 9)) 50) 0 0 (I 4 9).toNatClampNeg)) 51) 0 0 (I 4 9).toNatClampNeg)) 52 (va_cpy ((az_ur (az_ur (az_u (az_u I 49 0 (1 : Int32)) 49 1 (I 4 9)) 50 (va_cpy ((az_u (az_u I 49 0 (1 : Int32)) 49 1 (I 4 9)) 11) ((az_u (az_u I 49 0 (1 : Int32)) 49 1 (I 4 9)) 50) 0 0 (I 4 9).toNatClampNeg)) 51 (va_cpy ((az_ur (az_u (az_u I 49 0 (1 : Int32)) 49 1 (I 4 9)) 50 (va_cpy ((az_u (az_u I 49 0 (1 : Int32)) 49 1 (I 4 9)) 11) ((az_u (az_u I 49 0 (1 : Int32)) 49 1 (I 4 9)) 50) 0 0 (I 4 9).toNatClampNeg)) 8) ((az_ur (az_u (az_u I 49 0 (1 : Int32)) 49 1 (I 4 9)) 50 (va_cpy ((az_u (az_u I 49 0 (1 : Int32)) 49 1 (I 4 9)) 11) ((az_u (az_u I 49 0 (1 : Int32)) 49 1 (I 4 9)) 50) 0 0 (I 4 9).toNatClampNeg)) 51) 0 0 (I 4 9).toNatClampNeg)) 9) ((az_ur (az_ur (az_u (az_u I 49 0 (1 : Int32)) 49 1 (I 4 9)) 50 (va_cpy ((az_u (az_u I 49 0 (1 : Int32)) 49 1 (I 4 9)) 11) ((az_u (az_u I 49 0 (1 : Int32)) 49 1 (I 4 9)) 50) 0 0 (I 4 9).toNatClampNeg)) 51 (va_cpy ((az_ur (az_u (az_u I 49 0 (1 : Int32)) 49 1 (I 4 9)) 50 (va_cpy ((az_u (az_u I 49 0 (1 : Int32)) 49 1 (I 4 9)) 11) ((az_u (az_u I 49 0 (1 : Int32)) 49 1 (I 4 9)) 50) 0 0 (I 4 9).toNatClampNeg)) 8) ((az_ur (az_u (az_u I 49 0 (1 : Int32)) 49 1 (I 4 9)) 50 (va_cpy ((az_u (az_u I 49 0 (1 : Int32)) 49 1 (I 4 9)) 11) ((az_u (az_u I 49 0 (1 : Int32)) 49 1 (I 4 9)) 50) 0 0 (I 4 9).toNatClampNeg)) 51) 0 0 (I 4 9).toNatClampNeg)) 52) 0 0 (I 4 9).toNatClampNeg)) 53) 0 0 (I 4 9).toNatClampNeg)) 54 (va_cpy ((az_ur (az_ur (az_ur (az_ur (az_u (az_u I 49 0 (1 : Int32)) 49 1 (I 4 9)) 50 (va_cpy ((az_u (az_u I 49 0 (1 : Int32)) 49 1 (I 4 9)) 11) ((az_u (az_u I 49 0 (1 : Int32)) 49 1 (I 4 9)) 50) 0 0 (I 4 9).toNatClampNeg)) 51 (va_cpy ((az_ur (az_u (az_u I 49 0 (1 : Int32)) 49 1 (I 4 9)) 50 (va_cpy ((az_u (az_u I 49 0 (1 : Int32)) 49 1 (I 4 9)) 11) ((az_u (az_u I 49 0 (1 : Int32)) 49 1 (I 4 9)) 50) 0 0 (I 4 9).toNatClampNeg)) 8) ((az_ur (az_u (az_u I 49 0 (1 : Int32)) 49 1 (I 4 9)) 50 (va_cpy ((az_u (az_u I 49 0 (1 : Int32)) 49 1 (I 4 9)) 11) ((az_u (az_u I 49 0 (1 : Int32)) 49 1 (I 4 9)) 50) 0 0 (I 4 9).toNatClampNeg)) 51) 0 0 (I 4 9).toNatClampNeg)) 52 (va_cpy ((az_ur (az_ur (az_u (az_u I 49 0 (1 : Int32)) 49 1 (I 4 9)) 50 (va_cpy ((az_u (az_u I 49 0 (1 : Int32)) 49 1 (I 4 9)) 11) ((az_u (az_u I 49 0 (1 : Int32)) 49 1 (I 4 9)) 50) 0 0 (I 4 9).toNatClampNeg)) 51 (va_cpy ((az_ur (az_u (az_u I 49 0 (1 : Int32)) 49 1 (I 4 9)) 50 (va_cpy ((az_u (az_u I 49 0 (1 : Int32)) 49 1 (I 4 9)) 11) ((az_u (az_u I 49 0 (1 : Int32)) 49 1 (I 4 9)) 50) 0 0 (I 4 9).toNatClampNeg)) 8) ((az_ur (az_u (az_u I 49 0 (1 : Int32)) 49 1 (I 4 9)) 50 (va_cpy ((az_u (az_u I 49 0 (1 : Int32)) 49 1 (I 4 9)) 11) ((az_u (az_u I 49 0 (1 : Int32)) 49 1 (I 4 9)) 50) 0 0 (I 4 9).toNatClampNeg)) 51) 0 0 (I 4 9).toNatClampNeg)) 9) ((az_ur (az_ur (az_u (az_u I 49 0 (1 : Int32)) 49 1 (I 4 9)) 50 (va_cpy ((az_u (az_u I 49 0 (1 : Int32)) 49 1 (I 4 9)) 11) ((az_u (az_u I 49 0 (1 : Int32)) 49 1 (I 4 9)) 50) 0 0 (I 4 9).toNatClampNeg)) 51 (va_cpy ((az_ur (az_u (az_u I 49 0 (1 : Int32)) 49 1 (I 4 9)) 50 (va_cpy ((az_u (az_u I 49 0 (1 : Int32)) 49 1 (I 4 9)) 11) ((az_u (az_u I 49 0 (1 : Int32)) 49 1 (I 4 9)) 50) 0 0 (I 4 9).toNatClampNeg)) 8) ((az_ur (az_u (az_u I 49 0 (1 : Int32)) 49 1 (I 4 9)) 50 (va_cpy ((az_u (az_u I 49 0 (1 : Int32)) 49 1 (I 4 9)) 11) ((az_u (az_u I 49 0 (1 : Int32)) 49 1 (I 4 9)) 50) 0 0 (I 4 9).toNatClampNeg)) 51) 0 0 (I 4 9).toNatClampNeg)) 52) 0 0 (I 4 9).toNatClampNeg)) 53 (va_cpy ((az_ur (az_ur (az_ur (az_u (az_u I 49 0 (1 : Int32)) 49 1 (I 4 9)) 50 (va_cpy ((az_u (az_u I 49 0 (1 : Int32)) 49 1 (I 4 9)) 11) ((az_u (az_u I 49 0 (1 : Int32)) 49 1 (I 4 9)) 50) 0 0 (I 4 9).toNatClampNeg)) 51 (va_cpy ((az_ur (az_u (az_u I 49 0 (1 : Int32)) 49 1 (I 4 9)) 50 (va_cpy ((az_u (az_u I 49 0 (1 : Int32)) 49 1 (I 4 9)) 11) ((az_u (az_u I 49 0 (1 : Int32)) 49 1 (I 4 9)) 50) 0 0 (I 4 9).toNatClampNeg)) 8) ((az_ur (az_u (az_u I 49 0 (1 : Int32)) 49 1 (I 4 9)) 50 (va_cpy ((az_u (az_u I 49 0 (1 : Int32)) 49 1 (I 4 9)) 11) ((az_u (az_u I 49 0 (1 : Int32)) 49 1 (I 4 9)) 50) 0 0 (I 4 9).toNatClampNeg)) 51) 0 0 (I 4 9).toNatClampNeg)) 52 (va_cpy ((az_ur (az_ur (az_u (az_u I 49 0 (1 : Int32)) 49 1 (I 4 9)) 50 (va_cpy ((az_u (az_u I 49 0 (1 : Int32)) 49 1 (I 4 9)) 11) ((az_u (az_u I 49 0 (1 : Int32)) 49 1 (I 4 9)) 50) 0 0 (I 4 9).toNatClampNeg)) 51 (va_cpy ((az_ur (az_u (az_u I 49 0 (1 : Int32)) 49 1 (I 4 9)) 50 (va_cpy ((az_u (az_u I 49 0 (1 : Int32)) 49 1 (I 4 9)) 11) ((az_u (az_u I 49 0 (1 : Int32)) 49 1 (I 4 9)) 50) 0 0 (I 4 9).toNatClampNeg)) 8) ((az_ur (az_u (az_u I 49 0 (1 : Int32)) 49 1 (I 4 9)) 50 (va_cpy ((az_u (az_u I 49 0 (1 : Int32)) 49 1 (I 4 9)) 11) ((az_u (az_u I 49 0 (1 : Int32)) 49 1 (I 4 9)) 50) 0 0 (I 4 9).toNatClampNeg)) 51) 0 0 (I 4 9).toNatClampNeg)) 9) ((az_ur (az_ur (az_u (az_u I 49 0 (1 : Int32)) 49 1 (I 4 9)) 50 (va_cpy ((az_u (az_u I 49 0 (1 : Int32)) 49 1 (I 4 9)) 11) ((az_u (az_u I 49 0 (1 : Int32)) 49 1 (I 4 9)) 50) 0 0 (I 4 9).toNatClampNeg)) 51 (va_cpy ((az_ur (az_u (az_u I 49 0 (1 : Int32)) 49 1 (I 4 9)) 50 (va_cpy ((az_u (az_u I 49 0 (1 : Int32)) 49 1 (I 4 9)) 11) ((az_u (az_u I 49 0 (1 : Int32)) 49 1 (I 4 9)) 50) 0 0 (I 4 9).toNatClampNeg)) 8) ((az_ur (az_u (az_u I 49 0 (1 : Int32)) 49 1 (I 4 9)) 50 (va_cpy ((az_u (az_u I 49 0 (1 : Int32)) 49 1 (I 4 9)) 11) ((az_u (az_u I 49 0 (1 : Int32)) 49 1 (I 4 9)) 50) 0 0 (I 4 9).toNatClampNeg)) 51) 0 0 (I 4 9).toNatClampNeg)) 52) 0 0 (I 4 9).toNatClampNeg)) 12) ((az_ur (az_ur (az_ur (az_u (az_u I 49 0 (1 : Int32)) 49 1 (I 4 9)) 50 (va_cpy ((az_u (az_u I 49 0 (1 : Int32)) 49 1 (I 4 9)) 11) ((az_u (az_u I 49 0 (1 : Int32)) 49 1 (I 4 9)) 50) 0 0 (I 4 9).toNatClampNeg)) 51 (va_cpy ((az_ur (az_u (az_u I 49 0 (1 : Int32)) 49 1 (I 4 9)) 50 (va_cpy ((az_u (az_u I 49 0 (1 : Int32)) 49 1 (I 4 9)) 11) ((az_u (az_u I 49 0 (1 : Int32)) 49 1 (I 4 9)) 50) 0 0 (I 4 9).toNatClampNeg)) 8) ((az_ur (az_u (az_u I 49 0 (1 : Int32)) 49 1 (I 4 9)) 50 (va_cpy ((az_u (az_u I 49 0 (1 : Int32)) 49 1 (I 4 9)) 11) ((az_u (az_u I 49 0 (1 : Int32)) 49 1 (I 4 9)) 50) 0 0 (I 4 9).toNatClampNeg)) 51) 0 0 (I 4 9).toNatClampNeg)) 52 (va_cpy ((az_ur (az_ur (az_u (az_u I 49 0 (1 : Int32)) 49 1 (I 4 9)) 50 (va_cpy ((az_u (az_u I 49 0 (1 : Int32)) 49 1 (I 4 9)) 11) ((az_u (az_u I 49 0 (1 : Int32)) 49 1 (I 4 9)) 50) 0 0 (I 4 9).toNatClampNeg)) 51 (va_cpy ((az_ur (az_u (az_u I 49 0 (1 : Int32)) 49 1 (I 4 9)) 50 (va_cpy ((az_u (az_u I 49 0 (1 : Int32)) 49 1 (I 4 9)) 11) ((az_u (az_u I 49 0 (1 : Int32)) 49 1 (I 4 9)) 50) 0 0 (I 4 9).toNatClampNeg)) 8) ((az_ur (az_u (az_u I 49 0 (1 : Int32)) 49 1 (I 4 9)) 50 (va_cpy ((az_u (az_u I 49 0 (1 : Int32)) 49 1 (I 4 9)) 11) ((az_u (az_u I 49 0 (1 : Int32)) 49 1 (I 4 9)) 50) 0 0 (I 4 9).toNatClampNeg)) 51) 0 0 (I 4 9).toNatClampNeg)) 9) ((az_ur (az_ur (az_u (az_u I 49 0 (1 : Int32)) 49 1 (I 4 9)) 50 (va_cpy ((az_u (az_u I 49 0 (1 : Int32)) 49 1 (I 4 9)) 11) ((az_u (az_u I 49 0 (1 : Int32)) 49 1 (I 4 9)) 50) 0 0 (I 4 9).toNatClampNeg)) 51 (va_cpy ((az_ur (az_u (az_u I 49 0 (1 : Int32)) 49 1 (I 4 9)) 50 (va_cpy ((az_u (az_u I 49 0 (1 : Int32)) 49 1 (I 4 9)) 11) ((az_u (az_u I 49 0 (1 : Int32)) 49 1 (I 4 9)) 50) 0 0 (I 4 9).toNatClampNeg)) 8) ((az_ur (az_u (az_u I 49 0 (1 : Int32)) 49 1 (I 4 9)) 50 (va_cpy ((az_u (az_u I 49 0 (1 : Int32)) 49 1 (I 4 9)) 11) ((az_u (az_u I 49 0 (1 : Int32)) 49 1 (I 4 9)) 50) 0 0 (I 4 9).toNatClampNeg)) 51) 0 0 (I 4 9).toNatClampNeg)) 52) 0 0 (I 4 9).toNatClampNeg)) 53) 0 0 (I 4 9).toNatClampNeg)) 13) ((az_ur (az_ur (az_ur (az_ur (az_u (az_u I 49 0 (1 : Int32)) 49 1 (I 4 9)) 50 (va_cpy ((az_u (az_u I 49 0 (1 : Int32)) 49 1 (I 4 9)) 11) ((az_u (az_u I 49 0 (1 : Int32)) 49 1 (I 4 9)) 50) 0 0 (I 4 9).toNatClampNeg)) 51 (va_cpy ((az_ur (az_u (az_u I 49 0 (1 : Int32)) 49 1 (I 4 9)) 50 (va_cpy ((az_u (az_u I 49 0 (1 : Int32)) 49 1 (I 4 9)) 11) ((az_u (az_u I 49 0 (1 : Int32)) 49 1 (I 4 9)) 50) 0 0 (I 4 9).toNatClampNeg)) 8) ((az_ur (az_u (az_u I 49 0 (1 : Int32)) 49 1 (I 4 9)) 50 (va_cpy ((az_u (az_u I 49 0 (1 : Int32)) 49 1 (I 4 9)) 11) ((az_u (az_u I 49 0 (1 : Int32)) 49 1 (I 4 9)) 50) 0 0 (I 4 9).toNatClampNeg)) 51) 0 0 (I 4 9).toNatClampNeg)) 52 (va_cpy ((az_ur (az_ur (az_u (az_u I 49 0 (1 : Int32)) 49 1 (I 4 9)) 50 (va_cpy ((az_u (az_u I 49 0 (1 : Int32)) 49 1 (I 4 9)) 11) ((az_u (az_u I 49 0 (1 : Int32)) 49 1 (I 4 9)) 50) 0 0 (I 4 9).toNatClampNeg)) 51 (va_cpy ((az_ur (az_u (az_u I 49 0 (1 : Int32)) 49 1 (I 4 9)) 50 (va_cpy ((az_u (az_u I 49 0 (1 : Int32)) 49 1 (I 4 9)) 11) ((az_u (az_u I 49 0 (1 : Int32)) 49 1 (I 4 9)) 50) 0 0 (I 4 9).toNatClampNeg)) 8) ((az_ur (az_u (az_u I 49 0 (1 : Int32)) 49 1 (I 4 9)) 50 (va_cpy ((az_u (az_u I 49 0 (1 : Int32)) 49 1 (I 4 9)) 11) ((az_u (az_u I 49 0 (1 : Int32)) 49 1 (I 4 9)) 50) 0 0 (I 4 9).toNatClampNeg)) 51) 0 0 (I 4 9).toNatClampNeg)) 9) ((az_ur (az_ur (az_u (az_u I 49 0 (1 : Int32)) 49 1 (I 4 9)) 50 (va_cpy ((az_u (az_u I 49 0 (1 : Int32)) 49 1 (I 4 9)) 11) ((az_u (az_u I 49 0 (1 : Int32)) 49 1 (I 4 9)) 50) 0 0 (I 4 9).toNatClampNeg)) 51 (va_cpy ((az_ur (az_u (az_u I 49 0 (1 : Int32)) 49 1 (I 4 9)) 50 (va_cpy ((az_u (az_u I 49 0 (1 : Int32)) 49 1 (I 4 9)) 11) ((az_u (az_u I 49 0 (1 : Int32)) 49 1 (I 4 9)) 50) 0 0 (I 4 9).toNatClampNeg)) 8) ((az_ur (az_u (az_u I 49 0 (1 : Int32)) 49 1 (I 4 9)) 50 (va_cpy ((az_u (az_u I 49 0 (1 : Int32)) 49 1 (I 4 9)) 11) ((az_u (az_u I 49 0 (1 : Int32)) 49 1 (I 4 9)) 50) 0 0 (I 4 9).toNatClampNeg)) 51) 0 0 (I 4 9).toNatClampNeg)) 52) 0 0 (I 4 9).toNatClampNeg)) 53 (va_cpy ((az_ur (az_ur (az_ur (az_u (az_u I 49 0 (1 : Int32)) 49 1 (I 4 9)) 50 (va_cpy ((az_u (az_u I 49 0 (1 : Int32)) 49 1 (I 4 9)) 11) ((az_u (az_u I 49 0 (1 : Int32)) 49 1 (I 4 9)) 50) 0 0 (I 4 9).toNatClampNeg)) 51 (va_cpy ((az_ur (az_u (az_u I 49 0 (1 : Int32)) 49 1 (I 4 9)) 50 (va_cpy ((az_u (az_u I 49 0 (1 : Int32)) 49 1 (I 4 9)) 11) ((az_u (az_u I 49 0 (1 : Int32)) 49 1 (I 4 9)) 50) 0 0 (I 4 9).toNatClampNeg)) 8) ((az_ur (az_u (az_u I 49 0 (1 : Int32)) 49 1 (I 4 9)) 50 (va_cpy ((az_u (az_u I 49 0 (1 : Int32)) 49 1 (I 4 9)) 11) ((az_u (az_u I 49 0 (1 : Int32)) 49 1 (I 4 9)) 50) 0 0 (I 4 9).toNatClampNeg)) 51) 0 0 (I 4 9).toNatClampNeg)) 52 (va_cpy ((az_ur (az_ur (az_u (az_u I 49 0 (1 : Int32)) 49 1 (I 4 9)) 50 (va_cpy ((az_u (az_u I 49 0 (1 : Int32)) 49 1 (I 4 9)) 11) ((az_u (az_u I 49 0 (1 : Int32)) 49 1 (I 4 9)) 50) 0 0 (I 4 9).toNatClampNeg)) 51 (va_cpy ((az_ur (az_u (az_u I 49 0 (1 : Int32)) 49 1 (I 4 9)) 50 (va_cpy ((az_u (az_u I 49 0 (1 : Int32)) 49 1 (I 4 9)) 11) ((az_u (az_u I 49 0 (1 : Int32)) 49 1 (I 4 9)) 50) 0 0 (I 4 9).toNatClampNeg)) 8) ((az_ur (az_u (az_u I 49 0 (1 : Int32)) 49 1 (I 4 9)) 50 (va_cpy ((az_u (az_u I 49 0 (1 : Int32)) 49 1 (I 4 9)) 11) ((az_u (az_u I 49 0 (1 : Int32)) 49 1 (I 4 9)) 50) 0 0 (I 4 9).toNatClampNeg)) 51) 0 0 (I 4 9).toNatClampNeg)) 9) ((az_ur (az_ur (az_u (az_u I 49 0 (1 : Int32)) 49 1 (I 4 9)) 50 (va_cpy ((az_u (az_u I 49 0 (1 : Int32)) 49 1 (I 4 9)) 11) ((az_u (az_u I 49 0 (1 : Int32)) 49 1 (I 4 9)) 50) 0 0 (I 4 9).toNatClampNeg)) 51 (va_cpy ((az_ur (az_u (az_u I 49 0 (1 : Int32)) 49 1 (I 4 9)) 50 (va_cpy ((az_u (az_u I 49 0 (1 : Int32)) 49 1 (I 4 9)) 11) ((az_u (az_u I 49 0 (1 : Int32)) 49 1 (I 4 9)) 50) 0 0 (I 4 9).toNatClampNeg)) 8) ((az_ur (az_u (az_u I 49 0 (1 : Int32)) 49 1 (I 4 9)) 50 (va_cpy ((az_u (az_u I 49 0 (1 : Int32)) 49 1 (I 4 9)) 11) ((az_u (az_u I 49 0 (1 : Int32)) 49 1 (I 4 9)) 50) 0 0 (I 4 9).toNatClampNeg)) 51) 0 0 (I 4 9).toNatClampNeg)) 52) 0 0 (I 4 9).toNatClampNeg)) 12) ((az_ur (az_ur (az_ur (az_u (az_u I 49 0 (1 : Int32)) 49 1 (I 4 9)) 50 (va_cpy ((az_u (az_u I 49 0 (1 : Int32)) 49 1 (I 4 9)) 11) ((az_u (az_u I 49 0 (1 : Int32)) 49 1 (I 4 9)) 50) 0 0 (I 4 9).toNatClampNeg)) 51 (va_cpy ((az_ur (az_u (az_u I 49 0 (1 : Int32)) 49 1 (I 4 9)) 50 (va_cpy ((az_u (az_u I 49 0 (1 : Int32)) 49 1 (I 4 9)) 11) ((az_u (az_u I 49 0 (1 : Int32)) 49 1 (I 4 9)) 50) 0 0 (I 4 9).toNatClampNeg)) 8) ((az_ur (az_u (az_u I 49 0 (1 : Int32)) 49 1 (I 4 9)) 50 (va_cpy ((az_u (az_u I 49 0 (1 : Int32)) 49 1 (I 4 9)) 11) ((az_u (az_u I 49 0 (1 : Int32)) 49 1 (I 4 9)) 50) 0 0 (I 4 9).toNatClampNeg)) 51) 0 0 (I 4 9).toNatClampNeg)) 52 (va_cpy ((az_ur (az_ur (az_u (az_u I 49 0 (1 : Int32)) 49 1 (I 4 9)) 50 (va_cpy ((az_u (az_u I 49 0 (1 : Int32)) 49 1 (I 4 9)) 11) ((az_u (az_u I 49 0 (1 : Int32)) 49 1 (I 4 9)) 50) 0 0 (I 4 9).toNatClampNeg)) 51 (va_cpy ((az_ur (az_u (az_u I 49 0 (1 : Int32)) 49 1 (I 4 9)) 50 (va_cpy ((az_u (az_u I 49 0 (1 : Int32)) 49 1 (I 4 9)) 11) ((az_u (az_u I 49 0 (1 : Int32)) 49 1 (I 4 9)) 50) 0 0 (I 4 9).toNatClampNeg)) 8) ((az_ur (az_u (az_u I 49 0 (1 : Int32)) 49 1 (I 4 9)) 50 (va_cpy ((az_u (az_u I 49 0 (1 : Int32)) 49 1 (I 4 9)) 11) ((az_u (az_u I 49 0 (1 : Int32)) 49 1 (I 4 9)) 50) 0 0 (I 4 9).toNatClampNeg)) 51) 0 0 (I 4 9).toNatClampNeg)) 9) ((az_ur (az_ur (az_u (az_u I 49 0 (1 : Int32)) 49 1 (I 4 9)) 50 (va_cpy ((az_u (az_u I 49 0 (1 : Int32)) 49 1 (I 4 9)) 11) ((az_u (az_u I 49 0 (1 : Int32)) 49 1 (I 4 9)) 50) 0 0 (I 4 9).toNatClampNeg)) 51 (va_cpy ((az_ur (az_u (az_u I 49 0 (1 : Int32)) 49 1 (I 4 9)) 50 (va_cpy ((az_u (az_u I 49 0 (1 : Int32)) 49 1 (I 4 9)) 11) ((az_u (az_u I 49 0 (1 : Int32)) 49 1 (I 4 9)) 50) 0 0 (I 4 9).toNatClampNeg)) 8) ((az_ur (az_u (az_u I 49 0 (1 : Int32)) 49 1 (I 4 9)) 50 (va_cpy ((az_u (az_u I 49 0 (1 : Int32)) 49 1 (I 4 9)) 11) ((az_u (az_u I 49 0 (1 : Int32)) 49 1 (I 4 9)) 50) 0 0 (I 4 9).toNatClampNeg)) 51) 0 0 (I 4 9).toNatClampNeg)) 52) 0 0 (I 4 9).toNatClampNeg)) 53) 0 0 (I 4 9).toNatClampNeg)) 54) 0 0 4)), J, R)) rfl rfl ?_
          have h := Option.some.inj h
          subst h
          exact az_E.ret (v := none) (σ' := (97, (az_ur (az_ur (az_ur (az_ur (az_ur (az_u (az_u I 49 0 (1 : Int32)) 49 1 (I 4 9)) 50 (va_cpy ((az_u (az_u I 49 0 (1 : Int32)) 49 1 (I 4 9)) 11) ((az_u (az_u I 49 0 (1 : Int32)) 49 1 (I 4 9)) 50) 0 0 (I 4 9).toNatClampNeg)) 51 (va_cpy ((az_ur (az_u (az_u I 49 0 (1 : Int32)) 49 1 (I 4 9)) 50 (va_cpy ((az_u (az_u I 49 0 (1 : Int32)) 49 1 (I 4 9)) 11) ((az_u (az_u I 49 0 (1 : Int32)) 49 1 (I 4 9)) 50) 0 0 (I 4 9).toNatClampNeg)) 8) ((az_ur (az_u (az_u I 49 0 (1 : Int32)) 49 1 (I 4 9)) 50 (va_cpy ((az_u (az_u I 49 0 (1 : Int32)) 49 1 (I 4 9)) 11) ((az_u (az_u I 49 0 (1 : Int32)) 49 1 (I 4 9)) 50) 0 0 (I 4 9).toNatClampNeg)) 51) 0 0 (I 4 9).toNatClampNeg)) 52 (va_cpy ((az_ur (az_ur (az_u (az_u I 49 0 (1 : Int32)) 49 1 (I 4 9)) 50 (va_cpy ((az_u (az_u I 49 0 (1 : Int32)) 49 1 (I 4 9)) 11) ((az_u (az_u I 49 0 (1 : Int32)) 49 1 (I 4 9)) 50) 0 0 (I 4 9).toNatClampNeg)) 51 (va_cpy ((az_ur (az_u (az_u I 49 0 (1 : Int32)) 49 1 (I 4 9)) 50 (va_cpy ((az_u (az_u I 49 0 (1 : Int32)) 49 1 (I 4 9)) 11) ((az_u (az_u I 49 0 (1 : Int32)) 49 1 (I 4 9)) 50) 0 0 (I 4 9).toNatClampNeg)) 8) ((az_ur (az_u (az_u I 49 0 (1 : Int32)) 49 1 (I 4 9)) 50 (va_cpy ((az_u (az_u I 49 0 (1 : Int32)) 49 1 (I 4 9)) 11) ((az_u (az_u I 49 0 (1 : Int32)) 49 1 (I 4 9)) 50) 0 0 (I 4 9).toNatClampNeg)) 51) 0 0 (I 4 9).toNatClampNeg)) 9) ((az_ur (az_ur (az_u (az_u I 49 0 (1 : Int32)) 49 1 (I 4 9)) 50 (va_cpy ((az_u (az_u I 49 0 (1 : Int32)) 49 1 (I 4 9)) 11) ((az_u (az_u I 49 0 (1 : Int32)) 49 1 (I 4 9)) 50) 0 0 (I 4 9).toNatClampNeg)) 51 (va_cpy ((az_ur (az_u (az_u I 49 0 (1 : Int32)) 49 1 (I 4 9)) 50 (va_cpy ((az_u (az_u I 49 0 (1 : Int32)) 49 1 (I 4 9)) 11) ((az_u (az_u I 49 0 (1 : Int32)) 49 1 (I 4 9)) 50) 0 0 (I 4 9).toNatClampNeg)) 8) ((az_ur (az_u (az_u I 49 0 (1 : Int32)) 49 1 (I 4 9)) 50 (va_cpy ((az_u (az_u I 49 0 (1 : Int32)) 49 1 (I 4 9)) 11) ((az_u (az_u I 49 0 (1 : Int32)) 49 1 (I 4 9)) 50) 0 0 (I 4 9).toNatClampNeg)) 51) 0 0 (I 4 9).toNatClampNeg)) 52) 0 0 (I 4 9).toNatClampNeg)) 53 (va_cpy ((az_ur (az_ur (az_ur (az_u (az_u I 49 0 (1 : Int32)) 49 1 (I 4 9)) 50 (va_cpy ((az_u (az_u I 49 0 (1 : Int32)) 49 1 (I 4 9)) 11) ((az_u (az_u I 49 0 (1 : Int32)) 49 1 (I 4 9)) 50) 0 0 (I 4 9).toNatClampNeg)) 51 (va_cpy ((az_ur (az_u (az_u I 49 0 (1 : Int32)) 49 1 (I 4 9)) 50 (va_cpy ((az_u (az_u I 49 0 (1 : Int32)) 49 1 (I 4 9)) 11) ((az_u (az_u I 49 0 (1 : Int32)) 49 1 (I 4 9)) 50) 0 0 (I 4 9).toNatClampNeg)) 8) ((az_ur (az_u (az_u I 49 0 (1 : Int32)) 49 1 (I 4 9)) 50 (va_cpy ((az_u (az_u I 49 0 (1 : Int32)) 49 1 (I 4 9)) 11) ((az_u (az_u I 49 0 (1 : Int32)) 49 1 (I 4 9)) 50) 0 0 (I 4 9).toNatClampNeg)) 51) 0 0 (I 4 9).toNatClampNeg)) 52 (va_cpy ((az_ur (az_ur (az_u (az_u I 49 0 (1 : Int32)) 49 1 (I 4 9)) 50 (va_cpy ((az_u (az_u I 49 0 (1 : Int32)) 49 1 (I 4 9)) 11) ((az_u (az_u I 49 0 (1 : Int32)) 49 1 (I 4 9)) 50) 0 0 (I 4 9).toNatClampNeg)) 51 (va_cpy ((az_ur (az_u (az_u I 49 0 (1 : Int32)) 49 1 (I 4 9)) 50 (va_cpy ((az_u (az_u I 49 0 (1 : Int32)) 49 1 (I 4 9)) 11) ((az_u (az_u I 49 0 (1 : Int32)) 49 1 (I 4 9)) 50) 0 0 (I 4 9).toNatClampNeg)) 8) ((az_ur (az_u (az_u I 49 0 (1 : Int32)) 49 1 (I 4 9)) 50 (va_cpy ((az_u (az_u I 49 0 (1 : Int32)) 49 1 (I 4 9)) 11) ((az_u (az_u I 49 0 (1 : Int32)) 49 1 (I 4 9)) 50) 0 0 (I 4 9).toNatClampNeg)) 51) 0 0 (I 4 9).toNatClampNeg)) 9) ((az_ur (az_ur (az_u (az_u I 49 0 (1 : Int32)) 49 1 (I 4 9)) 50 (va_cpy ((az_u (az_u I 49 0 (1 : Int32)) 49 1 (I 4 9)) 11) ((az_u (az_u I 49 0 (1 : Int32)) 49 1 (I 4 9)) 50) 0 0 (I 4 9).toNatClampNeg)) 51 (va_cpy ((az_ur (az_u (az_u I 49 0 (1 : Int32)) 49 1 (I 4 9)) 50 (va_cpy ((az_u (az_u I 49 0 (1 : Int32)) 49 1 (I 4 9)) 11) ((az_u (az_u I 49 0 (1 : Int32)) 49 1 (I 4 9)) 50) 0 0 (I 4 9).toNatClampNeg)) 8) ((az_ur (az_u (az_u I 49 0 (1 : Int32)) 49 1 (I 4 9)) 50 (va_cpy ((az_u (az_u I 49 0 (1 : Int32)) 49 1 (I 4 9)) 11) ((az_u (az_u I 49 0 (1 : Int32)) 49 1 (I 4 9)) 50) 0 0 (I 4 9).toNatClampNeg)) 51) 0 0 (I 4 9).toNatClampNeg)) 52) 0 0 (I 4 9).toNatClampNeg)) 12) ((az_ur (az_ur (az_ur (az_u (az_u I 49 0 (1 : Int32)) 49 1 (I 4 9)) 50 (va_cpy ((az_u (az_u I 49 0 (1 : Int32)) 49 1 (I 4 9)) 11) ((az_u (az_u I 49 0 (1 : Int32)) 49 1 (I 4 9)) 50) 0 0 (I 4 9).toNatClampNeg)) 51 (va_cpy ((az_ur (az_u (az_u I 49 0 (1 : Int32)) 49 1 (I 4 9)) 50 (va_cpy ((az_u (az_u I 49 0 (1 : Int32)) 49 1 (I 4 9)) 11) ((az_u (az_u I 49 0 (1 : Int32)) 49 1 (I 4 9)) 50) 0 0 (I 4 9).toNatClampNeg)) 8) ((az_ur (az_u (az_u I 49 0 (1 : Int32)) 49 1 (I 4 9)) 50 (va_cpy ((az_u (az_u I 49 0 (1 : Int32)) 49 1 (I 4 9)) 11) ((az_u (az_u I 49 0 (1 : Int32)) 49 1 (I 4 9)) 50) 0 0 (I 4 9).toNatClampNeg)) 51) 0 0 (I 4 9).toNatClampNeg)) 52 (va_cpy ((az_ur (az_ur (az_u (az_u I 49 0 (1 : Int32)) 49 1 (I 4 9)) 50 (va_cpy ((az_u (az_u I 49 0 (1 : Int32)) 49 1 (I 4 9)) 11) ((az_u (az_u I 49 0 (1 : Int32)) 49 1 (I 4 9)) 50) 0 0 (I 4 9).toNatClampNeg)) 51 (va_cpy ((az_ur (az_u (az_u I 49 0 (1 : Int32)) 49 1 (I 4 9)) 50 (va_cpy ((az_u (az_u I 49 0 (1 : Int32)) 49 1 (I 4 9)) 11) ((az_u (az_u I 49 0 (1 : Int32)) 49 1 (I 4 9)) 50) 0 0 (I 4 9).toNatClampNeg)) 8) ((az_ur (az_u (az_u I 49 0 (1 : Int32)) 49 1 (I 4 9)) 50 (va_cpy ((az_u (az_u I 49 0 (1 : Int32)) 49 1 (I 4 9)) 11) ((az_u (az_u I 49 0 (1 : Int32)) 49 1 (I 4 9)) 50) 0 0 (I 4 9).toNatClampNeg)) 51) 0 0 (I 4 9).toNatClampNeg)) 9) ((az_ur (az_ur (az_u (az_u I 49 0 (1 : Int32)) 49 1 (I 4 9)) 50 (va_cpy ((az_u (az_u I 49 0 (1 : Int32)) 49 1 (I 4 9)) 11) ((az_u (az_u I 49 0 (1 : Int32)) 49 1 (I 4 9)) 50) 0 0 (I 4 9).toNatClampNeg)) 51 (va_cpy ((az_ur (az_u (az_u I 49 0 (1 : Int32)) 49 1 (I 4 9)) 50 (va_cpy ((az_u (az_u I 49 0 (1 : Int32)) 49 1 (I 4 9)) 11) ((az_u (az_u I 49 0 (1 : Int32)) 49 1 (I 4 9)) 50) 0 0 (I 4 9).toNatClampNeg)) 8) ((az_ur (az_u (az_u I 49 0 (1 : Int32)) 49 1 (I 4 9)) 50 (va_cpy ((az_u (az_u I 49 0 (1 : Int32)) 49 1 (I 4 9)) 11) ((az_u (az_u I 49 0 (1 : Int32)) 49 1 (I 4 9)) 50) 0 0 (I 4 9).toNatClampNeg)) 51) 0 0 (I 4 9).toNatClampNeg)) 52) 0 0 (I 4 9).toNatClampNeg)) 53) 0 0 (I 4 9).toNatClampNeg)) 54 (va_cpy ((az_ur (az_ur (az_ur (az_ur (az_u (az_u I 49 0 (1 : Int32)) 49 1 (I 4 9)) 50 (va_cpy ((az_u (az_u I 49 0 (1 : Int32)) 49 1 (I 4 9)) 11) ((az_u (az_u I 49 0 (1 : Int32)) 49 1 (I 4 9)) 50) 0 0 (I 4 9).toNatClampNeg)) 51 (va_cpy ((az_ur (az_u (az_u I 49 0 (1 : Int32)) 49 1 (I 4 9)) 50 (va_cpy ((az_u (az_u I 49 0 (1 : Int32)) 49 1 (I 4 9)) 11) ((az_u (az_u I 49 0 (1 : Int32)) 49 1 (I 4 9)) 50) 0 0 (I 4 9).toNatClampNeg)) 8) ((az_ur (az_u (az_u I 49 0 (1 : Int32)) 49 1 (I 4 9)) 50 (va_cpy ((az_u (az_u I 49 0 (1 : Int32)) 49 1 (I 4 9)) 11) ((az_u (az_u I 49 0 (1 : Int32)) 49 1 (I 4 9)) 50) 0 0 (I 4 9).toNatClampNeg)) 51) 0 0 (I 4 9).toNatClampNeg)) 52 (va_cpy ((az_ur (az_ur (az_u (az_u I 49 0 (1 : Int32)) 49 1 (I 4 9)) 50 (va_cpy ((az_u (az_u I 49 0 (1 : Int32)) 49 1 (I 4 9)) 11) ((az_u (az_u I 49 0 (1 : Int32)) 49 1 (I 4 9)) 50) 0 0 (I 4 9).toNatClampNeg)) 51 (va_cpy ((az_ur (az_u (az_u I 49 0 (1 : Int32)) 49 1 (I 4 9)) 50 (va_cpy ((az_u (az_u I 49 0 (1 : Int32)) 49 1 (I 4 9)) 11) ((az_u (az_u I 49 0 (1 : Int32)) 49 1 (I 4 9)) 50) 0 0 (I 4 9).toNatClampNeg)) 8) ((az_ur (az_u (az_u I 49 0 (1 : Int32)) 49 1 (I 4 9)) 50 (va_cpy ((az_u (az_u I 49 0 (1 : Int32)) 49 1 (I 4 9)) 11) ((az_u (az_u I 49 0 (1 : Int32)) 49 1 (I 4 9)) 50) 0 0 (I 4 9).toNatClampNeg)) 51) 0 0 (I 4 9).toNatClampNeg)) 9) ((az_ur (az_ur (az_u (az_u I 49 0 (1 : Int32)) 49 1 (I 4 9)) 50 (va_cpy ((az_u (az_u I 49 0 (1 : Int32)) 49 1 (I 4 9)) 11) ((az_u (az_u I 49 0 (1 : Int32)) 49 1 (I 4 9)) 50) 0 0 (I 4 9).toNatClampNeg)) 51 (va_cpy ((az_ur (az_u (az_u I 49 0 (1 : Int32)) 49 1 (I 4 9)) 50 (va_cpy ((az_u (az_u I 49 0 (1 : Int32)) 49 1 (I 4 9)) 11) ((az_u (az_u I 49 0 (1 : Int32)) 49 1 (I 4 9)) 50) 0 0 (I 4 9).toNatClampNeg)) 8) ((az_ur (az_u (az_u I 49 0 (1 : Int32)) 49 1 (I 4 9)) 50 (va_cpy ((az_u (az_u I 49 0 (1 : Int32)) 49 1 (I 4 9)) 11) ((az_u (az_u I 49 0 (1 : Int32)) 49 1 (I 4 9)) 50) 0 0 (I 4 9).toNatClampNeg)) 51) 0 0 (I 4 9).toNatClampNeg)) 52) 0 0 (I 4 9).toNatClampNeg)) 53 (va_cpy ((az_ur (az_ur (az_ur (az_u (az_u I 49 0 (1 : Int32)) 49 1 (I 4 9)) 50 (va_cpy ((az_u (az_u I 49 0 (1 : Int32)) 49 1 (I 4 9)) 11) ((az_u (az_u I 49 0 (1 : Int32)) 49 1 (I 4 9)) 50) 0 0 (I 4 9).toNatClampNeg)) 51 (va_cpy ((az_ur (az_u (az_u I 49 0 (1 : Int32)) 49 1 (I 4 9)) 50 (va_cpy ((az_u (az_u I 49 0 (1 : Int32)) 49 1 (I 4 9)) 11) ((az_u (az_u I 49 0 (1 : Int32)) 49 1 (I 4 9)) 50) 0 0 (I 4 9).toNatClampNeg)) 8) ((az_ur (az_u (az_u I 49 0 (1 : Int32)) 49 1 (I 4 9)) 50 (va_cpy ((az_u (az_u I 49 0 (1 : Int32)) 49 1 (I 4 9)) 11) ((az_u (az_u I 49 0 (1 : Int32)) 49 1 (I 4 9)) 50) 0 0 (I 4 9).toNatClampNeg)) 51) 0 0 (I 4 9).toNatClampNeg)) 52 (va_cpy ((az_ur (az_ur (az_u (az_u I 49 0 (1 : Int32)) 49 1 (I 4 9)) 50 (va_cpy ((az_u (az_u I 49 0 (1 : Int32)) 49 1 (I 4 9)) 11) ((az_u (az_u I 49 0 (1 : Int32)) 49 1 (I 4 9)) 50) 0 0 (I 4 9).toNatClampNeg)) 51 (va_cpy ((az_ur (az_u (az_u I 49 0 (1 : Int32)) 49 1 (I 4 9)) 50 (va_cpy ((az_u (az_u I 49 0 (1 : Int32)) 49 1 (I 4 9)) 11) ((az_u (az_u I 49 0 (1 : Int32)) 49 1 (I 4 9)) 50) 0 0 (I 4 9).toNatClampNeg)) 8) ((az_ur (az_u (az_u I 49 0 (1 : Int32)) 49 1 (I 4 9)) 50 (va_cpy ((az_u (az_u I 49 0 (1 : Int32)) 49 1 (I 4 9)) 11) ((az_u (az_u I 49 0 (1 : Int32)) 49 1 (I 4 9)) 50) 0 0 (I 4 9).toNatClampNeg)) 51) 0 0 (I 4 9).toNatClampNeg)) 9) ((az_ur (az_ur (az_u (az_u I 49 0 (1 : Int32)) 49 1 (I 4 9)) 50 (va_cpy ((az_u (az_u I 49 0 (1 : Int32)) 49 1 (I 4 9)) 11) ((az_u (az_u I 49 0 (1 : Int32)) 49 1 (I 4 9)) 50) 0 0 (I 4 9).toNatClampNeg)) 51 (va_cpy ((az_ur (az_u (az_u I 49 0 (1 : Int32)) 49 1 (I 4 9)) 50 (va_cpy ((az_u (az_u I 49 0 (1 : Int32)) 49 1 (I 4 9)) 11) ((az_u (az_u I 49 0 (1 : Int32)) 49 1 (I 4 9)) 50) 0 0 (I 4 9).toNatClampNeg)) 8) ((az_ur (az_u (az_u I 49 0 (1 : Int32)) 49 1 (I 4 9)) 50 (va_cpy ((az_u (az_u I 49 0 (1 : Int32)) 49 1 (I 4 9)) 11) ((az_u (az_u I 49 0 (1 : Int32)) 49 1 (I 4 9)) 50) 0 0 (I 4 9).toNatClampNeg)) 51) 0 0 (I 4 9).toNatClampNeg)) 52) 0 0 (I 4 9).toNatClampNeg)) 12) ((az_ur (az_ur (az_ur (az_u (az_u I 49 0 (1 : Int32)) 49 1 (I 4 9)) 50 (va_cpy ((az_u (az_u I 49 0 (1 : Int32)) 49 1 (I 4 9)) 11) ((az_u (az_u I 49 0 (1 : Int32)) 49 1 (I 4 9)) 50) 0 0 (I 4 9).toNatClampNeg)) 51 (va_cpy ((az_ur (az_u (az_u I 49 0 (1 : Int32)) 49 1 (I 4 9)) 50 (va_cpy ((az_u (az_u I 49 0 (1 : Int32)) 49 1 (I 4 9)) 11) ((az_u (az_u I 49 0 (1 : Int32)) 49 1 (I 4 9)) 50) 0 0 (I 4 9).toNatClampNeg)) 8) ((az_ur (az_u (az_u I 49 0 (1 : Int32)) 49 1 (I 4 9)) 50 (va_cpy ((az_u (az_u I 49 0 (1 : Int32)) 49 1 (I 4 9)) 11) ((az_u (az_u I 49 0 (1 : Int32)) 49 1 (I 4 9)) 50) 0 0 (I 4 9).toNatClampNeg)) 51) 0 0 (I 4 9).toNatClampNeg)) 52 (va_cpy ((az_ur (az_ur (az_u (az_u I 49 0 (1 : Int32)) 49 1 (I 4 9)) 50 (va_cpy ((az_u (az_u I 49 0 (1 : Int32)) 49 1 (I 4 9)) 11) ((az_u (az_u I 49 0 (1 : Int32)) 49 1 (I 4 9)) 50) 0 0 (I 4 9).toNatClampNeg)) 51 (va_cpy ((az_ur (az_u (az_u I 49 0 (1 : Int32)) 49 1 (I 4 9)) 50 (va_cpy ((az_u (az_u I 49 0 (1 : Int32)) 49 1 (I 4 9)) 11) ((az_u (az_u I 49 0 (1 : Int32)) 49 1 (I 4 9)) 50) 0 0 (I 4 9).toNatClampNeg)) 8) ((az_ur (az_u (az_u I 49 0 (1 : Int32)) 49 1 (I 4 9)) 50 (va_cpy ((az_u (az_u I 49 0 (1 : Int32)) 49 1 (I 4 9)) 11) ((az_u (az_u I 49 0 (1 : Int32)) 49 1 (I 4 9)) 50) 0 0 (I 4 9).toNatClampNeg)) 51) 0 0 (I 4 9).toNatClampNeg)) 9) ((az_ur (az_ur (az_u (az_u I 49 0 (1 : Int32)) 49 1 (I 4 9)) 50 (va_cpy ((az_u (az_u I 49 0 (1 : Int32)) 49 1 (I 4 9)) 11) ((az_u (az_u I 49 0 (1 : Int32)) 49 1 (I 4 9)) 50) 0 0 (I 4 9).toNatClampNeg)) 51 (va_cpy ((az_ur (az_u (az_u I 49 0 (1 : Int32)) 49 1 (I 4 9)) 50 (va_cpy ((az_u (az_u I 49 0 (1 : Int32)) 49 1 (I 4 9)) 11) ((az_u (az_u I 49 0 (1 : Int32)) 49 1 (I 4 9)) 50) 0 0 (I 4 9).toNatClampNeg)) 8) ((az_ur (az_u (az_u I 49 0 (1 : Int32)) 49 1 (I 4 9)) 50 (va_cpy ((az_u (az_u I 49 0 (1 : Int32)) 49 1 (I 4 9)) 11) ((az_u (az_u I 49 0 (1 : Int32)) 49 1 (I 4 9)) 50) 0 0 (I 4 9).toNatClampNeg)) 51) 0 0 (I 4 9).toNatClampNeg)) 52) 0 0 (I 4 9).toNatClampNeg)) 53) 0 0 (I 4 9).toNatClampNeg)) 13) ((az_ur (az_ur (az_ur (az_ur (az_u (az_u I 49 0 (1 : Int32)) 49 1 (I 4 9)) 50 (va_cpy ((az_u (az_u I 49 0 (1 : Int32)) 49 1 (I 4 9)) 11) ((az_u (az_u I 49 0 (1 : Int32)) 49 1 (I 4 9)) 50) 0 0 (I 4 9).toNatClampNeg)) 51 (va_cpy ((az_ur (az_u (az_u I 49 0 (1 : Int32)) 49 1 (I 4 9)) 50 (va_cpy ((az_u (az_u I 49 0 (1 : Int32)) 49 1 (I 4 9)) 11) ((az_u (az_u I 49 0 (1 : Int32)) 49 1 (I 4 9)) 50) 0 0 (I 4 9).toNatClampNeg)) 8) ((az_ur (az_u (az_u I 49 0 (1 : Int32)) 49 1 (I 4 9)) 50 (va_cpy ((az_u (az_u I 49 0 (1 : Int32)) 49 1 (I 4 9)) 11) ((az_u (az_u I 49 0 (1 : Int32)) 49 1 (I 4 9)) 50) 0 0 (I 4 9).toNatClampNeg)) 51) 0 0 (I 4 9).toNatClampNeg)) 52 (va_cpy ((az_ur (az_ur (az_u (az_u I 49 0 (1 : Int32)) 49 1 (I 4 9)) 50 (va_cpy ((az_u (az_u I 49 0 (1 : Int32)) 49 1 (I 4 9)) 11) ((az_u (az_u I 49 0 (1 : Int32)) 49 1 (I 4 9)) 50) 0 0 (I 4 9).toNatClampNeg)) 51 (va_cpy ((az_ur (az_u (az_u I 49 0 (1 : Int32)) 49 1 (I 4 9)) 50 (va_cpy ((az_u (az_u I 49 0 (1 : Int32)) 49 1 (I 4 9)) 11) ((az_u (az_u I 49 0 (1 : Int32)) 49 1 (I 4 9)) 50) 0 0 (I 4 9).toNatClampNeg)) 8) ((az_ur (az_u (az_u I 49 0 (1 : Int32)) 49 1 (I 4 9)) 50 (va_cpy ((az_u (az_u I 49 0 (1 : Int32)) 49 1 (I 4 9)) 11) ((az_u (az_u I 49 0 (1 : Int32)) 49 1 (I 4 9)) 50) 0 0 (I 4 9).toNatClampNeg)) 51) 0 0 (I 4 9).toNatClampNeg)) 9) ((az_ur (az_ur (az_u (az_u I 49 0 (1 : Int32)) 49 1 (I 4 9)) 50 (va_cpy ((az_u (az_u I 49 0 (1 : Int32)) 49 1 (I 4 9)) 11) ((az_u (az_u I 49 0 (1 : Int32)) 49 1 (I 4 9)) 50) 0 0 (I 4 9).toNatClampNeg)) 51 (va_cpy ((az_ur (az_u (az_u I 49 0 (1 : Int32)) 49 1 (I 4 9)) 50 (va_cpy ((az_u (az_u I 49 0 (1 : Int32)) 49 1 (I 4 9)) 11) ((az_u (az_u I 49 0 (1 : Int32)) 49 1 (I 4 9)) 50) 0 0 (I 4 9).toNatClampNeg)) 8) ((az_ur (az_u (az_u I 49 0 (1 : Int32)) 49 1 (I 4 9)) 50 (va_cpy ((az_u (az_u I 49 0 (1 : Int32)) 49 1 (I 4 9)) 11) ((az_u (az_u I 49 0 (1 : Int32)) 49 1 (I 4 9)) 50) 0 0 (I 4 9).toNatClampNeg)) 51) 0 0 (I 4 9).toNatClampNeg)) 52) 0 0 (I 4 9).toNatClampNeg)) 53 (va_cpy ((az_ur (az_ur (az_ur (az_u (az_u I 49 0 (1 : Int32)) 49 1 (I 4 9)) 50 (va_cpy ((az_u (az_u I 49 0 (1 : Int32)) 49 1 (I 4 9)) 11) ((az_u (az_u I 49 0 (1 : Int32)) 49 1 (I 4 9)) 50) 0 0 (I 4 9).toNatClampNeg)) 51 (va_cpy ((az_ur (az_u (az_u I 49 0 (1 : Int32)) 49 1 (I 4 9)) 50 (va_cpy ((az_u (az_u I 49 0 (1 : Int32)) 49 1 (I 4 9)) 11) ((az_u (az_u I 49 0 (1 : Int32)) 49 1 (I 4 9)) 50) 0 0 (I 4 9).toNatClampNeg)) 8) ((az_ur (az_u (az_u I 49 0 (1 : Int32)) 49 1 (I 4 9)) 50 (va_cpy ((az_u (az_u I 49 0 (1 : Int32)) 49 1 (I 4 9)) 11) ((az_u (az_u I 49 0 (1 : Int32)) 49 1 (I 4 9)) 50) 0 0 (I 4 9).toNatClampNeg)) 51) 0 0 (I 4 9).toNatClampNeg)) 52 (va_cpy ((az_ur (az_ur (az_u (az_u I 49 0 (1 : Int32)) 49 1 (I 4 9)) 50 (va_cpy ((az_u (az_u I 49 0 (1 : Int32)) 49 1 (I 4 9)) 11) ((az_u (az_u I 49 0 (1 : Int32)) 49 1 (I 4 9)) 50) 0 0 (I 4 9).toNatClampNeg)) 51 (va_cpy ((az_ur (az_u (az_u I 49 0 (1 : Int32)) 49 1 (I 4 9)) 50 (va_cpy ((az_u (az_u I 49 0 (1 : Int32)) 49 1 (I 4 9)) 11) ((az_u (az_u I 49 0 (1 : Int32)) 49 1 (I 4 9)) 50) 0 0 (I 4 9).toNatClampNeg)) 8) ((az_ur (az_u (az_u I 49 0 (1 : Int32)) 49 1 (I 4 9)) 50 (va_cpy ((az_u (az_u I 49 0 (1 : Int32)) 49 1 (I 4 9)) 11) ((az_u (az_u I 49 0 (1 : Int32)) 49 1 (I 4 9)) 50) 0 0 (I 4 9).toNatClampNeg)) 51) 0 0 (I 4 9).toNatClampNeg)) 9) ((az_ur (az_ur (az_u (az_u I 49 0 (1 : Int32)) 49 1 (I 4 9)) 50 (va_cpy ((az_u (az_u I 49 0 (1 : Int32)) 49 1 (I 4 9)) 11) ((az_u (az_u I 49 0 (1 : Int32)) 49 1 (I 4 9)) 50) 0 0 (I 4 9).toNatClampNeg)) 51 (va_cpy ((az_ur (az_u (az_u I 49 0 (1 : Int32)) 49 1 (I 4 9)) 50 (va_cpy ((az_u (az_u I 49 0 (1 : Int32)) 49 1 (I 4 9)) 11) ((az_u (az_u I 49 0 (1 : Int32)) 49 1 (I 4 9)) 50) 0 0 (I 4 9).toNatClampNeg)) 8) ((az_ur (az_u (az_u I 49 0 (1 : Int32)) 49 1 (I 4 9)) 50 (va_cpy ((az_u (az_u I 49 0 (1 : Int32)) 49 1 (I 4 9)) 11) ((az_u (az_u I 49 0 (1 : Int32)) 49 1 (I 4 9)) 50) 0 0 (I 4 9).toNatClampNeg)) 51) 0 0 (I 4 9).toNatClampNeg)) 52) 0 0 (I 4 9).toNatClampNeg)) 12) ((az_ur (az_ur (az_ur (az_u (az_u I 49 0 (1 : Int32)) 49 1 (I 4 9)) 50 (va_cpy ((az_u (az_u I 49 0 (1 : Int32)) 49 1 (I 4 9)) 11) ((az_u (az_u I 49 0 (1 : Int32)) 49 1 (I 4 9)) 50) 0 0 (I 4 9).toNatClampNeg)) 51 (va_cpy ((az_ur (az_u (az_u I 49 0 (1 : Int32)) 49 1 (I 4 9)) 50 (va_cpy ((az_u (az_u I 49 0 (1 : Int32)) 49 1 (I 4 9)) 11) ((az_u (az_u I 49 0 (1 : Int32)) 49 1 (I 4 9)) 50) 0 0 (I 4 9).toNatClampNeg)) 8) ((az_ur (az_u (az_u I 49 0 (1 : Int32)) 49 1 (I 4 9)) 50 (va_cpy ((az_u (az_u I 49 0 (1 : Int32)) 49 1 (I 4 9)) 11) ((az_u (az_u I 49 0 (1 : Int32)) 49 1 (I 4 9)) 50) 0 0 (I 4 9).toNatClampNeg)) 51) 0 0 (I 4 9).toNatClampNeg)) 52 (va_cpy ((az_ur (az_ur (az_u (az_u I 49 0 (1 : Int32)) 49 1 (I 4 9)) 50 (va_cpy ((az_u (az_u I 49 0 (1 : Int32)) 49 1 (I 4 9)) 11) ((az_u (az_u I 49 0 (1 : Int32)) 49 1 (I 4 9)) 50) 0 0 (I 4 9).toNatClampNeg)) 51 (va_cpy ((az_ur (az_u (az_u I 49 0 (1 : Int32)) 49 1 (I 4 9)) 50 (va_cpy ((az_u (az_u I 49 0 (1 : Int32)) 49 1 (I 4 9)) 11) ((az_u (az_u I 49 0 (1 : Int32)) 49 1 (I 4 9)) 50) 0 0 (I 4 9).toNatClampNeg)) 8) ((az_ur (az_u (az_u I 49 0 (1 : Int32)) 49 1 (I 4 9)) 50 (va_cpy ((az_u (az_u I 49 0 (1 : Int32)) 49 1 (I 4 9)) 11) ((az_u (az_u I 49 0 (1 : Int32)) 49 1 (I 4 9)) 50) 0 0 (I 4 9).toNatClampNeg)) 51) 0 0 (I 4 9).toNatClampNeg)) 9) ((az_ur (az_ur (az_u (az_u I 49 0 (1 : Int32)) 49 1 (I 4 9)) 50 (va_cpy ((az_u (az_u I 49 0 (1 : Int32)) 49 1 (I 4 9)) 11) ((az_u (az_u I 49 0 (1 : Int32)) 49 1 (I 4 9)) 50) 0 0 (I 4 9).toNatClampNeg)) 51 (va_cpy ((az_ur (az_u (az_u I 49 0 (1 : Int32)) 49 1 (I 4 9)) 50 (va_cpy ((az_u (az_u I 49 0 (1 : Int32)) 49 1 (I 4 9)) 11) ((az_u (az_u I 49 0 (1 : Int32)) 49 1 (I 4 9)) 50) 0 0 (I 4 9).toNatClampNeg)) 8) ((az_ur (az_u (az_u I 49 0 (1 : Int32)) 49 1 (I 4 9)) 50 (va_cpy ((az_u (az_u I 49 0 (1 : Int32)) 49 1 (I 4 9)) 11) ((az_u (az_u I 49 0 (1 : Int32)) 49 1 (I 4 9)) 50) 0 0 (I 4 9).toNatClampNeg)) 51) 0 0 (I 4 9).toNatClampNeg)) 52) 0 0 (I 4 9).toNatClampNeg)) 53) 0 0 (I 4 9).toNatClampNeg)) 54) 0 0 4)), J, R)) rfl hQ

set_option maxRecDepth 100000 in
set_option maxHeartbeats 4000000 in
theorem re_X_fillArmsByHeart_21_b_21_5 {ex : az_X} {I : Nat → Nat → Int32} {J : Nat → Nat → Int64} {R : Nat → Nat → Option Nat} {v1 : Int32} {v2 : Int32} (hR_26_2 : R 26 2 = some 21) (hR_26_3 : R 26 3 = some 5) {x : ((Int32 × (Nat → Nat → Int32)) ⊕ (((Int32 × (Nat → Nat → Int32)) ⊕ ((Nat → Nat → Int32)))))} (h : rs_X_fillArmsByHeart_21_b 21 v1 v2 I = some x) {Q : Option Value → az_S → Prop} (hQ : Sum.elim (fun s => az_E az_F ex 5 148 21 [.ref 3, .int v1, .int s.1] [] (97, s.2, J, R) Q) (fun x => Sum.elim (fun s => az_E az_F ex 5 148 2 [.ref 3, .int s.1, .retAddr 0] [] (97, s.2, J, R) Q) (fun x => Q none (97, x, J, R)) x) x) : az_E az_F ex 5 148 21 [.ref 3, .int v1, .int v2] [] (97, I, J, R) Q := by
  unfold rs_X_fillArmsByHeart_21_b at h
  refine az_E.sn 4 (pc' := 29) (L' := [.ref 3, .int v1, .int v2]) (S' := [.int (I 4 3), .int v2]) (σ' := (97, I, J, R)) rfl ?_
  refine az_E.br (c := (I 4 3) ≤ v2) (tt := 54) (ff := 32) (L' := [.ref 3, .int v1, .int v2]) (S' := []) (σ' := (97, I, J, R)) rfl (fun hc_4 => ?_) (fun hc_4 => ?_)
  · rw [if_pos hc_4] at h
    refine az_E.sn 2 (pc' := 2) (L' := [.ref 3, .int (v1 + (1 : Int32)), .int v2]) (S' := []) (σ' := (97, I, J, R)) rfl ?_
    have h := Option.some.inj h
    subst h
    exact az_E.forget (L := [.ref 3, .int (v1 + (1 : Int32)), .retAddr 0]) ⟨rfl, rfl, trivial, trivial⟩ hQ
  · rw [if_neg hc_4] at h
    refine az_E.sn 9 (pc' := 44) (L' := [.ref 3, .int v1, .int v2]) (S' := [.int v2, .ref 3, .int ((v2 * (19 : Int32)) + v1), .ref 60]) (σ' := (97, I, J, R)) rfl ?_
    cases hx_7 : rs_X_armAt I v2 with
    | none => rw [hx_7] at h; cases h
    | some o =>
      rw [hx_7] at h
      obtain ⟨x_5, I_6⟩ := o
      dsimp only at h
      refine az_E.call (d := 4) (k' := 146) (vs := [.ref 3, .int v2]) (pc' := 47) (S' := [.int ((v2 * (19 : Int32)) + v1), .ref 60]) (Q1 := fun v s => v = some (.int x_5) ∧ s = (97, I_6, J, R)) rfl (az_E.deep (by omega) (re_X_armAt_5 (J := J) (R := R) hR_26_3 hx_7 ⟨rfl, rfl⟩)) (fun v s hq => ?_)
      obtain ⟨rfl, rfl⟩ := hq
      show az_E az_F ex 5 148 47 [.ref 3, .int v1, .int v2] [.int x_5, .int ((v2 * (19 : Int32)) + v1), .ref 60] (97, I_6, J, R) _
      by_cases hc_8 : ((v2 * (19 : Int32)) + v1) < 0 ∨ 152 ≤ ((v2 * (19 : Int32)) + v1).toNatClampNeg
      · rw [if_pos hc_8] at h; cases h
      · rw [if_neg hc_8] at h
        refine az_E.o (o := az_si az_F (97, I_6, J, R) 60 ((v2 * (19 : Int32)) + v1) x_5) (pc' := 48) (L' := [.ref 3, .int v1, .int v2]) (S' := []) (x := (97, (az_u I_6 60 ((v2 * (19 : Int32)) + v1).toNatClampNeg x_5), J, R)) rfl (if_neg hc_8) ?_
        refine az_E.sn 2 (pc' := 21) (L' := [.ref 3, .int v1, .int (v2 + (1 : Int32))]) (S' := []) (σ' := (97, (az_u I_6 60 ((v2 * (19 : Int32)) + v1).toNatClampNeg x_5), J, R)) rfl ?_
        have h := Option.some.inj h
        subst h
        exact az_E.forget (L := [.ref 3, .int v1, .int (v2 + (1 : Int32))]) ⟨rfl, rfl, rfl, trivial⟩ hQ
set_option maxRecDepth 100000 in
set_option maxHeartbeats 4000000 in
theorem re_X_fillArmsByHeart_21_21_5 {ex : az_X} {I : Nat → Nat → Int32} {J : Nat → Nat → Int64} {R : Nat → Nat → Option Nat} {v1 : Int32} {v2 : Int32} (hR_26_2 : R 26 2 = some 21) (hR_26_3 : R 26 3 = some 5) {x : ((Int32 × (Nat → Nat → Int32)) ⊕ ((Nat → Nat → Int32)))} (h : rs_X_fillArmsByHeart_21 21 I v1 v2 = some x) {Q : Option Value → az_S → Prop} (hQ : Sum.elim (fun s => az_E az_F ex 5 148 2 [.ref 3, .int s.1, .retAddr 0] [] (97, s.2, J, R) Q) (fun x => Q none (97, x, J, R)) x) : az_E az_F ex 5 148 21 [.ref 3, .int v1, .int v2] [] (97, I, J, R) Q := by
  unfold rs_X_fillArmsByHeart_21 at h
  refine az_lp_E (G := fun s => az_E az_F ex 5 148 21 [.ref 3, .int v1, .int s.1] [] (97, s.2, J, R) Q) (H := fun x => Sum.elim (fun s => az_E az_F ex 5 148 2 [.ref 3, .int s.1, .retAddr 0] [] (97, s.2, J, R) Q) (fun x => Q none (97, x, J, R)) x) (fun s o hb ho => ?_) _ _ _ h hQ
  exact re_X_fillArmsByHeart_21_b_21_5 hR_26_2 hR_26_3 hb ho
set_option maxRecDepth 100000 in
set_option maxHeartbeats 4000000 in
theorem re_X_fillArmsByHeart_2_b_21_5 {ex : az_X} {I : Nat → Nat → Int32} {J : Nat → Nat → Int64} {R : Nat → Nat → Option Nat} {v1 : Int32} (hR_26_2 : R 26 2 = some 21) (hR_26_3 : R 26 3 = some 5) {x : ((Int32 × (Nat → Nat → Int32)) ⊕ ((Nat → Nat → Int32)))} (h : rs_X_fillArmsByHeart_2_b 21 v1 I = some x) {Q : Option Value → az_S → Prop} (hQ : Sum.elim (fun s => az_E az_F ex 5 148 2 [.ref 3, .int s.1, .retAddr 0] [] (97, s.2, J, R) Q) (fun x => Q none (97, x, J, R)) x) : az_E az_F ex 5 148 2 [.ref 3, .int v1, .retAddr 0] [] (97, I, J, R) Q := by
  unfold rs_X_fillArmsByHeart_2_b at h
  refine az_E.sn 2 (pc' := 5) (L' := [.ref 3, .int v1, .retAddr 0]) (S' := [.int (19 : Int32), .int v1]) (σ' := (97, I, J, R)) rfl ?_
  refine az_E.br (c := (19 : Int32) ≤ v1) (tt := 60) (ff := 8) (L' := [.ref 3, .int v1, .retAddr 0]) (S' := []) (σ' := (97, I, J, R)) rfl (fun hc_1 => ?_) (fun hc_1 => ?_)
  · rw [if_pos hc_1] at h
    have h := Option.some.inj h
    subst h
    exact az_E.ret (v := none) (σ' := (97, I, J, R)) rfl hQ
  · rw [if_neg hc_1] at h
    refine az_E.sn 5 (pc' := 16) (L' := [.ref 3, .int v1, .retAddr 0]) (S' := [.int ((-9 : Int32) + v1), .ref 26]) (σ' := (97, I, J, R)) rfl ?_
    cases hx_3 : rs_Pa_withHeart 26 21 I ((-9 : Int32) + v1) with
    | none => rw [hx_3] at h; cases h
    | some I_2 =>
      rw [hx_3] at h
      dsimp only at h
      refine az_E.call (d := 4) (k' := 44) (vs := [.ref 26, .int ((-9 : Int32) + v1)]) (pc' := 19) (S' := []) (Q1 := fun v s => v = none ∧ s = (97, I_2, J, R)) rfl (az_E.deep (by omega) (re_Pa_withHeart_26_21 (J := J) (R := R) hR_26_2 hx_3 ⟨rfl, rfl⟩)) (fun v s hq => ?_)
      obtain ⟨rfl, rfl⟩ := hq
      show az_E az_F ex 5 148 19 [.ref 3, .int v1, .retAddr 0] [] (97, I_2, J, R) _
      refine az_E.sn 2 (pc' := 21) (L' := [.ref 3, .int v1, .int (0 : Int32)]) (S' := []) (σ' := (97, I_2, J, R)) rfl ?_
      exact az_E.forget (L := [.ref 3, .int v1, .int (0 : Int32)]) ⟨rfl, rfl, rfl, trivial⟩ (re_X_fillArmsByHeart_21_21_5 (I := I_2) (J := J) (R := R) hR_26_2 hR_26_3 h hQ)
set_option maxRecDepth 100000 in
set_option maxHeartbeats 4000000 in
theorem re_X_fillArmsByHeart_2_21_5 {ex : az_X} {I : Nat → Nat → Int32} {J : Nat → Nat → Int64} {R : Nat → Nat → Option Nat} {v1 : Int32} (hR_26_2 : R 26 2 = some 21) (hR_26_3 : R 26 3 = some 5) {x : (Nat → Nat → Int32)} (h : rs_X_fillArmsByHeart_2 21 I v1 = some x) {Q : Option Value → az_S → Prop} (hQ : Q none (97, x, J, R)) : az_E az_F ex 5 148 2 [.ref 3, .int v1, .retAddr 0] [] (97, I, J, R) Q := by
  unfold rs_X_fillArmsByHeart_2 at h
  refine az_lp_E (G := fun s => az_E az_F ex 5 148 2 [.ref 3, .int s.1, .retAddr 0] [] (97, s.2, J, R) Q) (H := fun x => Q none (97, x, J, R)) (fun s o hb ho => ?_) _ _ _ h hQ
  exact re_X_fillArmsByHeart_2_b_21_5 hR_26_2 hR_26_3 hb ho
set_option maxRecDepth 100000 in
set_option maxHeartbeats 4000000 in
theorem re_X_fillArmsByHeart_21_5 {ex : az_X} {I : Nat → Nat → Int32} {J : Nat → Nat → Int64} {R : Nat → Nat → Option Nat} (hR_26_2 : R 26 2 = some 21) (hR_26_3 : R 26 3 = some 5) {o : (Nat → Nat → Int32)} (h : rs_X_fillArmsByHeart 21 I = some o) {Q : Option Value → az_S → Prop} (hQ : Q none (97, o, J, R)) : az_E az_F ex 5 148 0 [.ref 3, .retAddr 0, .retAddr 0] [] (97, I, J, R) Q := by
  unfold rs_X_fillArmsByHeart at h
  refine az_E.sn 2 (pc' := 2) (L' := [.ref 3, .int (0 : Int32), .retAddr 0]) (S' := []) (σ' := (97, I, J, R)) rfl ?_
  exact az_E.forget (L := [.ref 3, .int (0 : Int32), .retAddr 0]) ⟨rfl, rfl, trivial, trivial⟩ (re_X_fillArmsByHeart_2_21_5 (I := I) (J := J) (R := R) hR_26_2 hR_26_3 h hQ)
set_option maxRecDepth 100000 in
set_option maxHeartbeats 4000000 in
theorem re_X_next_81_21_16 {ex : az_X} {I : Nat → Nat → Int32} {J : Nat → Nat → Int64} {R : Nat → Nat → Option Nat} {v2 : Int32} {v3 : Int32} {v4 : Int32} (hR_3_2 : R 3 2 = some 21) (hR_3_3 : R 3 3 = some 16) {x : Int32 × (Nat → Nat → Int32)} (h : rs_X_next_81 16 21 I v2 v3 v4 = some x) {Q : Option Value → az_S → Prop} (hQ : ∀ R' : Nat → Nat → Option Nat, R' 3 2 = some 21 → R' 3 3 = some 16 → Q (some (.int x.1)) (97, x.2, J, R')) : az_E az_F ex 6 104 81 [.retAddr 0, .retAddr 0, .int v2, .int v3, .int v4, .retAddr 0, .retAddr 0] [] (97, I, J, (az_u (az_u R 26 2 (some 21)) 26 3 (some 5))) Q := by
  unfold rs_X_next_81 at h
  refine az_E.sn 1 (pc' := 82) (L' := [.retAddr 0, .retAddr 0, .int v2, .int v3, .int v4, .retAddr 0, .retAddr 0]) (S' := [.int v2]) (σ' := (97, I, J, (az_u (az_u R 26 2 (some 21)) 26 3 (some 5)))) rfl ?_
  refine az_E.br (c := v2 = 0) (tt := 91) (ff := 85) (L' := [.retAddr 0, .retAddr 0, .int v2, .int v3, .int v4, .retAddr 0, .retAddr 0]) (S' := []) (σ' := (97, I, J, (az_u (az_u R 26 2 (some 21)) 26 3 (some 5)))) rfl (fun hc_9 => ?_) (fun hc_9 => ?_)
  · rw [if_pos hc_9] at h
    refine az_E.sn 2 (pc' := 97) (L' := [.retAddr 0, .retAddr 0, .int v2, .int v3, .int v4, .retAddr 0, .retAddr 0]) (S' := [.int v3]) (σ' := (97, I, J, (az_u (az_u R 26 2 (some 21)) 26 3 (some 5)))) rfl ?_
    have h := Option.some.inj h
    subst h
    exact az_E.ret (v := some (.int v3)) (σ' := (97, I, J, (az_u (az_u R 26 2 (some 21)) 26 3 (some 5)))) rfl (hQ _ hR_3_2 hR_3_3)
  · rw [if_neg hc_9] at h
    refine az_E.sn 2 (pc' := 88) (L' := [.retAddr 0, .retAddr 0, .int v2, .int v3, .int v4, .retAddr 0, .retAddr 0]) (S' := [.int (-2 : Int32), .int v3]) (σ' := (97, I, J, (az_u (az_u R 26 2 (some 21)) 26 3 (some 5)))) rfl ?_
    refine az_E.br (c := v3 = (-2 : Int32)) (tt := 91) (ff := 95) (L' := [.retAddr 0, .retAddr 0, .int v2, .int v3, .int v4, .retAddr 0, .retAddr 0]) (S' := []) (σ' := (97, I, J, (az_u (az_u R 26 2 (some 21)) 26 3 (some 5)))) rfl (fun hc_10 => ?_) (fun hc_10 => ?_)
    · rw [if_pos hc_10] at h
      refine az_E.sn 2 (pc' := 97) (L' := [.retAddr 0, .retAddr 0, .int v2, .int v3, .int v4, .retAddr 0, .retAddr 0]) (S' := [.int v3]) (σ' := (97, I, J, (az_u (az_u R 26 2 (some 21)) 26 3 (some 5)))) rfl ?_
      have h := Option.some.inj h
      subst h
      exact az_E.ret (v := some (.int v3)) (σ' := (97, I, J, (az_u (az_u R 26 2 (some 21)) 26 3 (some 5)))) rfl (hQ _ hR_3_2 hR_3_3)
    · rw [if_neg hc_10] at h
      refine az_E.sn 1 (pc' := 97) (L' := [.retAddr 0, .retAddr 0, .int v2, .int v3, .int v4, .retAddr 0, .retAddr 0]) (S' := [.int v4]) (σ' := (97, I, J, (az_u (az_u R 26 2 (some 21)) 26 3 (some 5)))) rfl ?_
      have h := Option.some.inj h
      subst h
      exact az_E.ret (v := some (.int v4)) (σ' := (97, I, J, (az_u (az_u R 26 2 (some 21)) 26 3 (some 5)))) rfl (hQ _ hR_3_2 hR_3_3)
set_option maxRecDepth 100000 in
set_option maxHeartbeats 4000000 in
theorem re_X_next_35_b_21_16 {ex : az_X} {I : Nat → Nat → Int32} {J : Nat → Nat → Int64} {R : Nat → Nat → Option Nat} {v2 : Int32} {v3 : Int32} {v4 : Int32} {v5 : Int32} (hR_3_2 : R 3 2 = some 21) (hR_3_3 : R 3 3 = some 16) {x : ((Int32 × Int32 × Int32) ⊕ (Int32 × (Nat → Nat → Int32)))} (h : rs_X_next_35_b 16 21 I v2 v3 v4 v5 = some x) {Q : Option Value → az_S → Prop} (hQ : Sum.elim (fun s => az_E az_F ex 6 104 35 [.ref 3, .retAddr 0, .int v2, .int s.1, .int s.2.1, .int s.2.2, .retAddr 0] [] (97, I, J, (az_u (az_u R 26 2 (some 21)) 26 3 (some 5))) Q) (fun x => ∀ R' : Nat → Nat → Option Nat, R' 3 2 = some 21 → R' 3 3 = some 16 → Q (some (.int x.1)) (97, x.2, J, R')) x) : az_E az_F ex 6 104 35 [.ref 3, .retAddr 0, .int v2, .int v3, .int v4, .int v5, .retAddr 0] [] (97, I, J, (az_u (az_u R 26 2 (some 21)) 26 3 (some 5))) Q := by
  unfold rs_X_next_35_b at h
  refine az_E.sn 4 (pc' := 44) (L' := [.ref 3, .retAddr 0, .int v2, .int v3, .int v4, .int v5, .retAddr 0]) (S' := [.int (I 4 3), .int v5]) (σ' := (97, I, J, (az_u (az_u R 26 2 (some 21)) 26 3 (some 5)))) rfl ?_
  refine az_E.br (c := (I 4 3) ≤ v5) (tt := 81) (ff := 47) (L' := [.ref 3, .retAddr 0, .int v2, .int v3, .int v4, .int v5, .retAddr 0]) (S' := []) (σ' := (97, I, J, (az_u (az_u R 26 2 (some 21)) 26 3 (some 5)))) rfl (fun hc_8 => ?_) (fun hc_8 => ?_)
  · rw [if_pos hc_8] at h
    obtain ⟨x, hx, rfl⟩ := Option.map_eq_some_iff.mp h
    exact az_E.forget (L := [.retAddr 0, .retAddr 0, .int v2, .int v3, .int v4, .retAddr 0, .retAddr 0]) ⟨trivial, trivial, rfl, rfl, rfl, trivial, trivial, trivial⟩ (re_X_next_81_21_16 (I := I) (J := J) (R := R) hR_3_2 hR_3_3 hx hQ)
  · rw [if_neg hc_8] at h
    refine az_E.sn 2 (pc' := 50) (L' := [.ref 3, .retAddr 0, .int v2, .int v3, .int v4, .int v5, .retAddr 0]) (S' := [.int v5, .ref 3]) (σ' := (97, I, J, (az_u (az_u R 26 2 (some 21)) 26 3 (some 5)))) rfl ?_
    cases hx_12 : rs_X_greatestCrowd I v5 with
    | none => rw [hx_12] at h; cases h
    | some x_11 =>
      rw [hx_12] at h
      dsimp only at h
      refine az_E.call (d := 5) (k' := 149) (vs := [.ref 3, .int v5]) (pc' := 53) (S' := []) (Q1 := fun v s => v = some (.int x_11) ∧ s = (97, I, J, (az_u (az_u R 26 2 (some 21)) 26 3 (some 5)))) rfl (az_E.deep (by omega) (re_X_greatestCrowd (J := J) (R := (az_u (az_u R 26 2 (some 21)) 26 3 (some 5)))  hx_12 ⟨rfl, rfl⟩)) (fun v s hq => ?_)
      obtain ⟨rfl, rfl⟩ := hq
      show az_E az_F ex 6 104 53 [.ref 3, .retAddr 0, .int v2, .int v3, .int v4, .int v5, .retAddr 0] [.int x_11] (97, I, J, (az_u (az_u R 26 2 (some 21)) 26 3 (some 5))) _
      refine az_E.sn 3 (pc' := 58) (L' := [.ref 3, .retAddr 0, .int v2, .int v3, .int v4, .int v5, .int x_11]) (S' := [.int (-2 : Int32), .int v3]) (σ' := (97, I, J, (az_u (az_u R 26 2 (some 21)) 26 3 (some 5)))) rfl ?_
      refine az_E.br (c := v3 = (-2 : Int32)) (tt := 68) (ff := 61) (L' := [.ref 3, .retAddr 0, .int v2, .int v3, .int v4, .int v5, .int x_11]) (S' := []) (σ' := (97, I, J, (az_u (az_u R 26 2 (some 21)) 26 3 (some 5)))) rfl (fun hc_13 => ?_) (fun hc_13 => ?_)
      · rw [if_pos hc_13] at h
        refine az_E.sn 6 (pc' := 35) (L' := [.ref 3, .retAddr 0, .int v2, .int v5, .int x_11, .int (v5 + (1 : Int32)), .int x_11]) (S' := []) (σ' := (97, I, J, (az_u (az_u R 26 2 (some 21)) 26 3 (some 5)))) rfl ?_
        have h := Option.some.inj h
        subst h
        exact az_E.forget (L := [.ref 3, .retAddr 0, .int v2, .int v5, .int x_11, .int (v5 + (1 : Int32)), .retAddr 0]) ⟨rfl, trivial, rfl, rfl, rfl, rfl, trivial, trivial⟩ hQ
      · rw [if_neg hc_13] at h
        refine az_E.sn 2 (pc' := 65) (L' := [.ref 3, .retAddr 0, .int v2, .int v3, .int v4, .int v5, .int x_11]) (S' := [.int v4, .int x_11]) (σ' := (97, I, J, (az_u (az_u R 26 2 (some 21)) 26 3 (some 5)))) rfl ?_
        refine az_E.br (c := v4 ≤ x_11) (tt := 75) (ff := 68) (L' := [.ref 3, .retAddr 0, .int v2, .int v3, .int v4, .int v5, .int x_11]) (S' := []) (σ' := (97, I, J, (az_u (az_u R 26 2 (some 21)) 26 3 (some 5)))) rfl (fun hc_14 => ?_) (fun hc_14 => ?_)
        · rw [if_pos hc_14] at h
          refine az_E.sn 2 (pc' := 35) (L' := [.ref 3, .retAddr 0, .int v2, .int v3, .int v4, .int (v5 + (1 : Int32)), .int x_11]) (S' := []) (σ' := (97, I, J, (az_u (az_u R 26 2 (some 21)) 26 3 (some 5)))) rfl ?_
          have h := Option.some.inj h
          subst h
          exact az_E.forget (L := [.ref 3, .retAddr 0, .int v2, .int v3, .int v4, .int (v5 + (1 : Int32)), .retAddr 0]) ⟨rfl, trivial, rfl, rfl, rfl, rfl, trivial, trivial⟩ hQ
        · rw [if_neg hc_14] at h
          refine az_E.sn 6 (pc' := 35) (L' := [.ref 3, .retAddr 0, .int v2, .int v5, .int x_11, .int (v5 + (1 : Int32)), .int x_11]) (S' := []) (σ' := (97, I, J, (az_u (az_u R 26 2 (some 21)) 26 3 (some 5)))) rfl ?_
          have h := Option.some.inj h
          subst h
          exact az_E.forget (L := [.ref 3, .retAddr 0, .int v2, .int v5, .int x_11, .int (v5 + (1 : Int32)), .retAddr 0]) ⟨rfl, trivial, rfl, rfl, rfl, rfl, trivial, trivial⟩ hQ
set_option maxRecDepth 100000 in
set_option maxHeartbeats 4000000 in
theorem re_X_next_35_21_16 {ex : az_X} {I : Nat → Nat → Int32} {J : Nat → Nat → Int64} {R : Nat → Nat → Option Nat} {v2 : Int32} {v3 : Int32} {v4 : Int32} {v5 : Int32} (hR_3_2 : R 3 2 = some 21) (hR_3_3 : R 3 3 = some 16) {x : Int32 × (Nat → Nat → Int32)} (h : rs_X_next_35 16 21 I v2 v3 v4 v5 = some x) {Q : Option Value → az_S → Prop} (hQ : ∀ R' : Nat → Nat → Option Nat, R' 3 2 = some 21 → R' 3 3 = some 16 → Q (some (.int x.1)) (97, x.2, J, R')) : az_E az_F ex 6 104 35 [.ref 3, .retAddr 0, .int v2, .int v3, .int v4, .int v5, .retAddr 0] [] (97, I, J, (az_u (az_u R 26 2 (some 21)) 26 3 (some 5))) Q := by
  unfold rs_X_next_35 at h
  refine az_lp_E (G := fun s => az_E az_F ex 6 104 35 [.ref 3, .retAddr 0, .int v2, .int s.1, .int s.2.1, .int s.2.2, .retAddr 0] [] (97, I, J, (az_u (az_u R 26 2 (some 21)) 26 3 (some 5))) Q) (H := fun x => ∀ R' : Nat → Nat → Option Nat, R' 3 2 = some 21 → R' 3 3 = some 16 → Q (some (.int x.1)) (97, x.2, J, R')) (fun s o hb ho => ?_) _ _ _ h hQ
  exact re_X_next_35_b_21_16 hR_3_2 hR_3_3 hb ho
set_option maxRecDepth 100000 in
set_option maxHeartbeats 4000000 in
theorem re_X_next_21_16 {ex : az_X} {I : Nat → Nat → Int32} {J : Nat → Nat → Int64} {R : Nat → Nat → Option Nat} {a1 : Int32} {a2 : Int32} (hR_3_2 : R 3 2 = some 21) (hR_3_3 : R 3 3 = some 16) {o : Int32 × (Nat → Nat → Int32)} (h : rs_X_next 16 21 I a1 a2 = some o) {Q : Option Value → az_S → Prop} (hQ : ∀ R' : Nat → Nat → Option Nat, R' 3 2 = some 21 → R' 3 3 = some 16 → Q (some (.int o.1)) (97, o.2, J, R')) : az_E az_F ex 6 104 0 [.ref 3, .int a1, .int a2, .retAddr 0, .retAddr 0, .retAddr 0, .retAddr 0] [] (97, I, J, R) Q := by
  unfold rs_X_next at h
  refine az_E.sn 2 (pc' := 2) (L' := [.ref 3, .int a1, .int a2, .retAddr 0, .retAddr 0, .retAddr 0, .retAddr 0]) (S' := [.int a1, .ref 3]) (σ' := (97, I, J, R)) rfl ?_
  refine az_E.call (d := 5) (k' := 138) (vs := [.ref 3, .int a1]) (pc' := 5) (S' := []) rfl ?_ (fun _ _ hq => hq)
  show az_E az_F ex 5 138 0 [.ref 3, .int a1] [] (97, I, J, R) _
  refine az_E.sn 7 (pc' := 11) (L' := [.ref 3, .int a1]) (S' := [.int ((I 4 9) - (1 : Int32)), .int (0 : Int32), .int a1]) (σ' := (97, I, J, R)) rfl ?_
  refine az_E.call (d := 4) (k' := 131) (vs := [.int a1, .int (0 : Int32), .int ((I 4 9) - (1 : Int32))]) (pc' := 14) (S' := []) rfl ?_ (fun _ _ hq => hq)
  show az_E az_F ex 4 131 0 [.int a1, .int (0 : Int32), .int ((I 4 9) - (1 : Int32))] [] (97, I, J, R) _
  refine az_E.sn 2 (pc' := 2) (L' := [.int a1, .int (0 : Int32), .int ((I 4 9) - (1 : Int32))]) (S' := [.int (0 : Int32), .int a1]) (σ' := (97, I, J, R)) rfl ?_
  refine az_E.br (c := a1 < (0 : Int32)) (tt := 14) (ff := 5) (L' := [.int a1, .int (0 : Int32), .int ((I 4 9) - (1 : Int32))]) (S' := []) (σ' := (97, I, J, R)) rfl (fun hc_1 => ?_) (fun hc_1 => ?_)
  · rw [if_pos hc_1] at h
    refine az_E.sn 1 (pc' := 15) (L' := [.int a1, .int (0 : Int32), .int ((I 4 9) - (1 : Int32))]) (S' := [.int (0 : Int32)]) (σ' := (97, I, J, R)) rfl ?_
    refine az_E.ret (v := some (.int (0 : Int32))) (σ' := (97, I, J, R)) rfl ?_
    show az_E az_F ex 5 138 14 [.ref 3, .int a1] [.int (0 : Int32)] (97, I, J, R) _
    refine az_E.ret (v := some (.int (0 : Int32))) (σ' := (97, I, J, R)) rfl ?_
    show az_E az_F ex 6 104 5 [.ref 3, .int a1, .int a2, .retAddr 0, .retAddr 0, .retAddr 0, .retAddr 0] [.int (0 : Int32)] (97, I, J, R) _
    refine az_E.br (c := (0 : Int32) = 0) (tt := 15) (ff := 8) (L' := [.ref 3, .int a1, .int a2, .retAddr 0, .retAddr 0, .retAddr 0, .retAddr 0]) (S' := []) (σ' := (97, I, J, R)) rfl (fun _ => ?_) (fun hn => absurd (by decide) hn)
    refine az_E.sn 1 (pc' := 16) (L' := [.ref 3, .int a1, .int a2, .retAddr 0, .retAddr 0, .retAddr 0, .retAddr 0]) (S' := [.int (-1 : Int32)]) (σ' := (97, I, J, R)) rfl ?_
    have h := Option.some.inj h
    subst h
    exact az_E.ret (v := some (.int (-1 : Int32))) (σ' := (97, I, J, R)) rfl (hQ _ hR_3_2 hR_3_3)
  · rw [if_neg hc_1] at h
    refine az_E.sn 2 (pc' := 7) (L' := [.int a1, .int (0 : Int32), .int ((I 4 9) - (1 : Int32))]) (S' := [.int ((I 4 9) - (1 : Int32)), .int a1]) (σ' := (97, I, J, R)) rfl ?_
    refine az_E.br (c := ((I 4 9) - (1 : Int32)) < a1) (tt := 14) (ff := 10) (L' := [.int a1, .int (0 : Int32), .int ((I 4 9) - (1 : Int32))]) (S' := []) (σ' := (97, I, J, R)) rfl (fun hc_2 => ?_) (fun hc_2 => ?_)
    · rw [if_pos hc_2] at h
      refine az_E.sn 1 (pc' := 15) (L' := [.int a1, .int (0 : Int32), .int ((I 4 9) - (1 : Int32))]) (S' := [.int (0 : Int32)]) (σ' := (97, I, J, R)) rfl ?_
      refine az_E.ret (v := some (.int (0 : Int32))) (σ' := (97, I, J, R)) rfl ?_
      show az_E az_F ex 5 138 14 [.ref 3, .int a1] [.int (0 : Int32)] (97, I, J, R) _
      refine az_E.ret (v := some (.int (0 : Int32))) (σ' := (97, I, J, R)) rfl ?_
      show az_E az_F ex 6 104 5 [.ref 3, .int a1, .int a2, .retAddr 0, .retAddr 0, .retAddr 0, .retAddr 0] [.int (0 : Int32)] (97, I, J, R) _
      refine az_E.br (c := (0 : Int32) = 0) (tt := 15) (ff := 8) (L' := [.ref 3, .int a1, .int a2, .retAddr 0, .retAddr 0, .retAddr 0, .retAddr 0]) (S' := []) (σ' := (97, I, J, R)) rfl (fun _ => ?_) (fun hn => absurd (by decide) hn)
      refine az_E.sn 1 (pc' := 16) (L' := [.ref 3, .int a1, .int a2, .retAddr 0, .retAddr 0, .retAddr 0, .retAddr 0]) (S' := [.int (-1 : Int32)]) (σ' := (97, I, J, R)) rfl ?_
      have h := Option.some.inj h
      subst h
      exact az_E.ret (v := some (.int (-1 : Int32))) (σ' := (97, I, J, R)) rfl (hQ _ hR_3_2 hR_3_3)
    · rw [if_neg hc_2] at h
      refine az_E.sn 2 (pc' := 15) (L' := [.int a1, .int (0 : Int32), .int ((I 4 9) - (1 : Int32))]) (S' := [.int (1 : Int32)]) (σ' := (97, I, J, R)) rfl ?_
      refine az_E.ret (v := some (.int (1 : Int32))) (σ' := (97, I, J, R)) rfl ?_
      show az_E az_F ex 5 138 14 [.ref 3, .int a1] [.int (1 : Int32)] (97, I, J, R) _
      refine az_E.ret (v := some (.int (1 : Int32))) (σ' := (97, I, J, R)) rfl ?_
      show az_E az_F ex 6 104 5 [.ref 3, .int a1, .int a2, .retAddr 0, .retAddr 0, .retAddr 0, .retAddr 0] [.int (1 : Int32)] (97, I, J, R) _
      refine az_E.br (c := (1 : Int32) = 0) (tt := 15) (ff := 8) (L' := [.ref 3, .int a1, .int a2, .retAddr 0, .retAddr 0, .retAddr 0, .retAddr 0]) (S' := []) (σ' := (97, I, J, R)) rfl (fun hn => absurd hn (by decide)) (fun _ => ?_)
      refine az_E.sn 1 (pc' := 9) (L' := [.ref 3, .int a1, .int a2, .retAddr 0, .retAddr 0, .retAddr 0, .retAddr 0]) (S' := [.int a2]) (σ' := (97, I, J, R)) rfl ?_
      refine az_E.call (d := 5) (k' := 132) (vs := [.int a2]) (pc' := 12) (S' := []) rfl ?_ (fun _ _ hq => hq)
      show az_E az_F ex 5 132 0 [.int a2] [] (97, I, J, R) _
      refine az_E.sn 1 (pc' := 1) (L' := [.int a2]) (S' := [.int a2]) (σ' := (97, I, J, R)) rfl ?_
      refine az_E.br (c := a2 = 0) (tt := 9) (ff := 4) (L' := [.int a2]) (S' := []) (σ' := (97, I, J, R)) rfl (fun hc_3 => ?_) (fun hc_3 => ?_)
      · rw [if_pos hc_3] at h
        refine az_E.sn 2 (pc' := 14) (L' := [.int a2]) (S' := [.int (1 : Int32)]) (σ' := (97, I, J, R)) rfl ?_
        refine az_E.ret (v := some (.int (1 : Int32))) (σ' := (97, I, J, R)) rfl ?_
        show az_E az_F ex 6 104 12 [.ref 3, .int a1, .int a2, .retAddr 0, .retAddr 0, .retAddr 0, .retAddr 0] [.int (1 : Int32)] (97, I, J, R) _
        refine az_E.br (c := (1 : Int32) = 0) (tt := 15) (ff := 17) (L' := [.ref 3, .int a1, .int a2, .retAddr 0, .retAddr 0, .retAddr 0, .retAddr 0]) (S' := []) (σ' := (97, I, J, R)) rfl (fun hn => absurd hn (by decide)) (fun _ => ?_)
        refine az_E.sn 2 (pc' := 19) (L' := [.ref 3, .int a1, .int a2, .retAddr 0, .retAddr 0, .retAddr 0, .retAddr 0]) (S' := [.int a1, .ref 3]) (σ' := (97, I, J, R)) rfl ?_
        cases hx_5 : rs_X_setPace 21 I a1 with
        | none => rw [hx_5] at h; cases h
        | some I_4 =>
          rw [hx_5] at h
          dsimp only at h
          refine az_E.call (d := 5) (k' := 144) (vs := [.ref 3, .int a1]) (pc' := 22) (S' := []) (Q1 := fun v s => v = none ∧ s = (97, I_4, J, (az_u (az_u R 26 2 (some 21)) 26 3 (some 5)))) rfl (az_E.deep (by omega) (re_X_setPace_21 (J := J) (R := R) hR_3_2 hx_5 ⟨rfl, rfl⟩)) (fun v s hq => ?_)
          obtain ⟨rfl, rfl⟩ := hq
          show az_E az_F ex 6 104 22 [.ref 3, .int a1, .int a2, .retAddr 0, .retAddr 0, .retAddr 0, .retAddr 0] [] (97, I_4, J, (az_u (az_u R 26 2 (some 21)) 26 3 (some 5))) _
          refine az_E.sn 1 (pc' := 23) (L' := [.ref 3, .int a1, .int a2, .retAddr 0, .retAddr 0, .retAddr 0, .retAddr 0]) (S' := [.ref 3]) (σ' := (97, I_4, J, (az_u (az_u R 26 2 (some 21)) 26 3 (some 5)))) rfl ?_
          cases hx_7 : rs_X_fillArmsByHeart 21 I_4 with
          | none => rw [hx_7] at h; cases h
          | some I_6 =>
            rw [hx_7] at h
            dsimp only at h
            refine az_E.call (d := 5) (k' := 148) (vs := [.ref 3]) (pc' := 26) (S' := []) (Q1 := fun v s => v = none ∧ s = (97, I_6, J, (az_u (az_u R 26 2 (some 21)) 26 3 (some 5)))) rfl (az_E.deep (by omega) (re_X_fillArmsByHeart_21_5 (J := J) (R := (az_u (az_u R 26 2 (some 21)) 26 3 (some 5))) rfl rfl hx_7 ⟨rfl, rfl⟩)) (fun v s hq => ?_)
            obtain ⟨rfl, rfl⟩ := hq
            show az_E az_F ex 6 104 26 [.ref 3, .int a1, .int a2, .retAddr 0, .retAddr 0, .retAddr 0, .retAddr 0] [] (97, I_6, J, (az_u (az_u R 26 2 (some 21)) 26 3 (some 5))) _
            refine az_E.sn 6 (pc' := 35) (L' := [.ref 3, .int a1, .int a2, .int (-2 : Int32), .int (0 : Int32), .int (0 : Int32), .retAddr 0]) (S' := []) (σ' := (97, I_6, J, (az_u (az_u R 26 2 (some 21)) 26 3 (some 5)))) rfl ?_
            exact az_E.forget (L := [.ref 3, .retAddr 0, .int a2, .int (-2 : Int32), .int (0 : Int32), .int (0 : Int32), .retAddr 0]) ⟨rfl, trivial, rfl, rfl, rfl, rfl, trivial, trivial⟩ (re_X_next_35_21_16 (I := I_6) (J := J) (R := R) hR_3_2 hR_3_3 h hQ)
      · rw [if_neg hc_3] at h
        refine az_E.sn 2 (pc' := 6) (L' := [.int a2]) (S' := [.int (1 : Int32), .int a2]) (σ' := (97, I, J, R)) rfl ?_
        refine az_E.br (c := a2 = (1 : Int32)) (tt := 9) (ff := 13) (L' := [.int a2]) (S' := []) (σ' := (97, I, J, R)) rfl (fun hc_15 => ?_) (fun hc_15 => ?_)
        · rw [if_pos hc_15] at h
          refine az_E.sn 2 (pc' := 14) (L' := [.int a2]) (S' := [.int (1 : Int32)]) (σ' := (97, I, J, R)) rfl ?_
          refine az_E.ret (v := some (.int (1 : Int32))) (σ' := (97, I, J, R)) rfl ?_
          show az_E az_F ex 6 104 12 [.ref 3, .int a1, .int a2, .retAddr 0, .retAddr 0, .retAddr 0, .retAddr 0] [.int (1 : Int32)] (97, I, J, R) _
          refine az_E.br (c := (1 : Int32) = 0) (tt := 15) (ff := 17) (L' := [.ref 3, .int a1, .int a2, .retAddr 0, .retAddr 0, .retAddr 0, .retAddr 0]) (S' := []) (σ' := (97, I, J, R)) rfl (fun hn => absurd hn (by decide)) (fun _ => ?_)
          refine az_E.sn 2 (pc' := 19) (L' := [.ref 3, .int a1, .int a2, .retAddr 0, .retAddr 0, .retAddr 0, .retAddr 0]) (S' := [.int a1, .ref 3]) (σ' := (97, I, J, R)) rfl ?_
          cases hx_17 : rs_X_setPace 21 I a1 with
          | none => rw [hx_17] at h; cases h
          | some I_16 =>
            rw [hx_17] at h
            dsimp only at h
            refine az_E.call (d := 5) (k' := 144) (vs := [.ref 3, .int a1]) (pc' := 22) (S' := []) (Q1 := fun v s => v = none ∧ s = (97, I_16, J, (az_u (az_u R 26 2 (some 21)) 26 3 (some 5)))) rfl (az_E.deep (by omega) (re_X_setPace_21 (J := J) (R := R) hR_3_2 hx_17 ⟨rfl, rfl⟩)) (fun v s hq => ?_)
            obtain ⟨rfl, rfl⟩ := hq
            show az_E az_F ex 6 104 22 [.ref 3, .int a1, .int a2, .retAddr 0, .retAddr 0, .retAddr 0, .retAddr 0] [] (97, I_16, J, (az_u (az_u R 26 2 (some 21)) 26 3 (some 5))) _
            refine az_E.sn 1 (pc' := 23) (L' := [.ref 3, .int a1, .int a2, .retAddr 0, .retAddr 0, .retAddr 0, .retAddr 0]) (S' := [.ref 3]) (σ' := (97, I_16, J, (az_u (az_u R 26 2 (some 21)) 26 3 (some 5)))) rfl ?_
            cases hx_19 : rs_X_fillArmsByHeart 21 I_16 with
            | none => rw [hx_19] at h; cases h
            | some I_18 =>
              rw [hx_19] at h
              dsimp only at h
              refine az_E.call (d := 5) (k' := 148) (vs := [.ref 3]) (pc' := 26) (S' := []) (Q1 := fun v s => v = none ∧ s = (97, I_18, J, (az_u (az_u R 26 2 (some 21)) 26 3 (some 5)))) rfl (az_E.deep (by omega) (re_X_fillArmsByHeart_21_5 (J := J) (R := (az_u (az_u R 26 2 (some 21)) 26 3 (some 5))) rfl rfl hx_19 ⟨rfl, rfl⟩)) (fun v s hq => ?_)
              obtain ⟨rfl, rfl⟩ := hq
              show az_E az_F ex 6 104 26 [.ref 3, .int a1, .int a2, .retAddr 0, .retAddr 0, .retAddr 0, .retAddr 0] [] (97, I_18, J, (az_u (az_u R 26 2 (some 21)) 26 3 (some 5))) _
              refine az_E.sn 6 (pc' := 35) (L' := [.ref 3, .int a1, .int a2, .int (-2 : Int32), .int (0 : Int32), .int (0 : Int32), .retAddr 0]) (S' := []) (σ' := (97, I_18, J, (az_u (az_u R 26 2 (some 21)) 26 3 (some 5)))) rfl ?_
              exact az_E.forget (L := [.ref 3, .retAddr 0, .int a2, .int (-2 : Int32), .int (0 : Int32), .int (0 : Int32), .retAddr 0]) ⟨rfl, trivial, rfl, rfl, rfl, rfl, trivial, trivial⟩ (re_X_next_35_21_16 (I := I_18) (J := J) (R := R) hR_3_2 hR_3_3 h hQ)
        · rw [if_neg hc_15] at h
          refine az_E.sn 1 (pc' := 14) (L' := [.int a2]) (S' := [.int (0 : Int32)]) (σ' := (97, I, J, R)) rfl ?_
          refine az_E.ret (v := some (.int (0 : Int32))) (σ' := (97, I, J, R)) rfl ?_
          show az_E az_F ex 6 104 12 [.ref 3, .int a1, .int a2, .retAddr 0, .retAddr 0, .retAddr 0, .retAddr 0] [.int (0 : Int32)] (97, I, J, R) _
          refine az_E.br (c := (0 : Int32) = 0) (tt := 15) (ff := 17) (L' := [.ref 3, .int a1, .int a2, .retAddr 0, .retAddr 0, .retAddr 0, .retAddr 0]) (S' := []) (σ' := (97, I, J, R)) rfl (fun _ => ?_) (fun hn => absurd (by decide) hn)
          refine az_E.sn 1 (pc' := 16) (L' := [.ref 3, .int a1, .int a2, .retAddr 0, .retAddr 0, .retAddr 0, .retAddr 0]) (S' := [.int (-1 : Int32)]) (σ' := (97, I, J, R)) rfl ?_
          have h := Option.some.inj h
          subst h
          exact az_E.ret (v := some (.int (-1 : Int32))) (σ' := (97, I, J, R)) rfl (hQ _ hR_3_2 hR_3_3)
set_option maxRecDepth 100000 in
set_option maxHeartbeats 4000000 in
theorem re_Pa_withWeather_26_21 {ex : az_X} {I : Nat → Nat → Int32} {J : Nat → Nat → Int64} {R : Nat → Nat → Option Nat} {a1 : Int32} (hR_26_2 : R 26 2 = some 21) {o : (Nat → Nat → Int32)} (h : rs_Pa_withWeather 26 21 I a1 = some o) {Q : Option Value → az_S → Prop} (hQ : Q none (97, o, J, R)) : az_E az_F ex 4 47 0 [.ref 26, .int a1] [] (97, I, J, R) Q := by
  unfold rs_Pa_withWeather at h
  refine az_E.sn 4 (pc' := 6) (L' := [.ref 26, .int a1]) (S' := [.ref 26]) (σ' := (97, (az_u I 26 7 a1), J, R)) rfl ?_
  cases hx_2 : rs_Pa_fill 26 21 (az_u I 26 7 a1) with
  | none => rw [hx_2] at h; cases h
  | some I_1 =>
    rw [hx_2] at h
    dsimp only at h
    refine az_E.call (d := 3) (k' := 50) (vs := [.ref 26]) (pc' := 9) (S' := []) (Q1 := fun v s => v = none ∧ s = (97, I_1, J, R)) rfl (az_E.deep (by omega) (re_Pa_fill_26_21 (J := J) (R := R) hR_26_2 hx_2 ⟨rfl, rfl⟩)) (fun v s hq => ?_)
    obtain ⟨rfl, rfl⟩ := hq
    show az_E az_F ex 4 47 9 [.ref 26, .int a1] [] (97, I_1, J, R) _
    have h := Option.some.inj h
    subst h
    exact az_E.ret (v := none) (σ' := (97, I_1, J, R)) rfl hQ
set_option maxRecDepth 100000 in
set_option maxHeartbeats 4000000 in
theorem re_X_weathers_34_b_21_16 {ex : az_X} {I : Nat → Nat → Int32} {J : Nat → Nat → Int64} {R : Nat → Nat → Option Nat} {v1 : Int32} {v2 : Int32} {v3 : Int32} {v4 : Int32} (hR_3_2 : R 3 2 = some 21) (hR_3_3 : R 3 3 = some 16) {x : ((Int32 × Int32 × (Nat → Nat → Int32)) ⊕ (Int32 × (Nat → Nat → Int32)))} (h : rs_X_weathers_34_b 16 21 v1 v2 v3 v4 I = some x) {Q : Option Value → az_S → Prop} (hQ : Sum.elim (fun s => az_E az_F ex 6 105 34 [.ref 3, .int v1, .int v2, .int s.1, .int s.2.1] [] (97, s.2.2, J, (az_u (az_u R 26 2 (some 21)) 26 3 (some 5))) Q) (fun x => ∀ R' : Nat → Nat → Option Nat, R' 3 2 = some 21 → R' 3 3 = some 16 → Q (some (.int x.1)) (97, x.2, J, R')) x) : az_E az_F ex 6 105 34 [.ref 3, .int v1, .int v2, .int v3, .int v4] [] (97, I, J, (az_u (az_u R 26 2 (some 21)) 26 3 (some 5))) Q := by
  unfold rs_X_weathers_34_b at h
  refine az_E.sn 2 (pc' := 38) (L' := [.ref 3, .int v1, .int v2, .int v3, .int v4]) (S' := [.int (9 : Int32), .int v4]) (σ' := (97, I, J, (az_u (az_u R 26 2 (some 21)) 26 3 (some 5)))) rfl ?_
  refine az_E.br (c := (9 : Int32) < v4) (tt := 75) (ff := 41) (L' := [.ref 3, .int v1, .int v2, .int v3, .int v4]) (S' := []) (σ' := (97, I, J, (az_u (az_u R 26 2 (some 21)) 26 3 (some 5)))) rfl (fun hc_12 => ?_) (fun hc_12 => ?_)
  · rw [if_pos hc_12] at h
    refine az_E.sn 1 (pc' := 76) (L' := [.ref 3, .int v1, .int v2, .int v3, .int v4]) (S' := [.int v3]) (σ' := (97, I, J, (az_u (az_u R 26 2 (some 21)) 26 3 (some 5)))) rfl ?_
    have h := Option.some.inj h
    subst h
    try simp only [Sum.elim_inl, Sum.elim_inr] at hQ
    exact az_E.ret (v := some (.int v3)) (σ' := (97, I, J, (az_u (az_u R 26 2 (some 21)) 26 3 (some 5)))) rfl (hQ _ hR_3_2 hR_3_3)
  · rw [if_neg hc_12] at h
    refine az_E.sn 3 (pc' := 47) (L' := [.ref 3, .int v1, .int v2, .int v3, .int v4]) (S' := [.int v4, .ref 26]) (σ' := (97, I, J, (az_u (az_u R 26 2 (some 21)) 26 3 (some 5)))) rfl ?_
    cases hx_14 : rs_Pa_withWeather 26 21 I v4 with
    | none => rw [hx_14] at h; cases h
    | some I_13 =>
      rw [hx_14] at h
      dsimp only at h
      refine az_E.call (d := 5) (k' := 47) (vs := [.ref 26, .int v4]) (pc' := 50) (S' := []) (Q1 := fun v s => v = none ∧ s = (97, I_13, J, (az_u (az_u R 26 2 (some 21)) 26 3 (some 5)))) rfl (az_E.deep (by omega) (re_Pa_withWeather_26_21 (J := J) (R := (az_u (az_u R 26 2 (some 21)) 26 3 (some 5))) rfl hx_14 ⟨rfl, rfl⟩)) (fun v s hq => ?_)
      obtain ⟨rfl, rfl⟩ := hq
      show az_E az_F ex 6 105 50 [.ref 3, .int v1, .int v2, .int v3, .int v4] [] (97, I_13, J, (az_u (az_u R 26 2 (some 21)) 26 3 (some 5))) _
      refine az_E.sn 3 (pc' := 54) (L' := [.ref 3, .int v1, .int v2, .int v3, .int v4]) (S' := [.int (10 : Int32), .int v1, .ref 3]) (σ' := (97, I_13, J, (az_u (az_u R 26 2 (some 21)) 26 3 (some 5)))) rfl ?_
      have hd_15 : ¬ ((10 : Int32) = 0) := by decide
      refine az_E.dv (c := (10 : Int32) = 0) (pc' := 55) (L' := [.ref 3, .int v1, .int v2, .int v3, .int v4]) (S' := [.int (v1 / (10 : Int32)), .ref 3]) (σ' := (97, I_13, J, (az_u (az_u R 26 2 (some 21)) 26 3 (some 5)))) rfl hd_15 ?_
      cases hx_18 : rs_X_armAt I_13 (v1 / (10 : Int32)) with
      | none => rw [hx_18] at h; cases h
      | some o =>
        rw [hx_18] at h
        obtain ⟨x_16, I_17⟩ := o
        dsimp only at h
        refine az_E.call (d := 5) (k' := 146) (vs := [.ref 3, .int (v1 / (10 : Int32))]) (pc' := 58) (S' := []) (Q1 := fun v s => v = some (.int x_16) ∧ s = (97, I_17, J, (az_u (az_u R 26 2 (some 21)) 26 3 (some 5)))) rfl (az_E.deep (by omega) (re_X_armAt_5 (J := J) (R := (az_u (az_u R 26 2 (some 21)) 26 3 (some 5))) rfl hx_18 ⟨rfl, rfl⟩)) (fun v s hq => ?_)
        obtain ⟨rfl, rfl⟩ := hq
        show az_E az_F ex 6 105 58 [.ref 3, .int v1, .int v2, .int v3, .int v4] [.int x_16] (97, I_17, J, (az_u (az_u R 26 2 (some 21)) 26 3 (some 5))) _
        refine az_E.sn 1 (pc' := 59) (L' := [.ref 3, .int v1, .int v2, .int v3, .int v4]) (S' := [.int v2, .int x_16]) (σ' := (97, I_17, J, (az_u (az_u R 26 2 (some 21)) 26 3 (some 5)))) rfl ?_
        refine az_E.br (c := v2 < x_16) (tt := 69) (ff := 62) (L' := [.ref 3, .int v1, .int v2, .int v3, .int v4]) (S' := []) (σ' := (97, I_17, J, (az_u (az_u R 26 2 (some 21)) 26 3 (some 5)))) rfl (fun hc_19 => ?_) (fun hc_19 => ?_)
        · rw [if_pos hc_19] at h
          refine az_E.sn 2 (pc' := 34) (L' := [.ref 3, .int v1, .int v2, .int v3, .int (v4 + (1 : Int32))]) (S' := []) (σ' := (97, I_17, J, (az_u (az_u R 26 2 (some 21)) 26 3 (some 5)))) rfl ?_
          have h := Option.some.inj h
          subst h
          exact az_E.forget (L := [.ref 3, .int v1, .int v2, .int v3, .int (v4 + (1 : Int32))]) ⟨rfl, rfl, rfl, rfl, rfl, trivial⟩ hQ
        · rw [if_neg hc_19] at h
          refine az_E.sn 8 (pc' := 34) (L' := [.ref 3, .int v1, .int v2, .int (v3 ||| ((1 : Int32) <<< (v4 &&& 31))), .int (v4 + (1 : Int32))]) (S' := []) (σ' := (97, I_17, J, (az_u (az_u R 26 2 (some 21)) 26 3 (some 5)))) rfl ?_
          have h := Option.some.inj h
          subst h
          exact az_E.forget (L := [.ref 3, .int v1, .int v2, .int (v3 ||| ((1 : Int32) <<< (v4 &&& 31))), .int (v4 + (1 : Int32))]) ⟨rfl, rfl, rfl, rfl, rfl, trivial⟩ hQ
set_option maxRecDepth 100000 in
set_option maxHeartbeats 4000000 in
theorem re_X_weathers_34_21_16 {ex : az_X} {I : Nat → Nat → Int32} {J : Nat → Nat → Int64} {R : Nat → Nat → Option Nat} {v1 : Int32} {v2 : Int32} {v3 : Int32} {v4 : Int32} (hR_3_2 : R 3 2 = some 21) (hR_3_3 : R 3 3 = some 16) {x : Int32 × (Nat → Nat → Int32)} (h : rs_X_weathers_34 16 21 I v1 v2 v3 v4 = some x) {Q : Option Value → az_S → Prop} (hQ : ∀ R' : Nat → Nat → Option Nat, R' 3 2 = some 21 → R' 3 3 = some 16 → Q (some (.int x.1)) (97, x.2, J, R')) : az_E az_F ex 6 105 34 [.ref 3, .int v1, .int v2, .int v3, .int v4] [] (97, I, J, (az_u (az_u R 26 2 (some 21)) 26 3 (some 5))) Q := by
  unfold rs_X_weathers_34 at h
  refine az_lp_E (G := fun s => az_E az_F ex 6 105 34 [.ref 3, .int v1, .int v2, .int s.1, .int s.2.1] [] (97, s.2.2, J, (az_u (az_u R 26 2 (some 21)) 26 3 (some 5))) Q) (H := fun x => ∀ R' : Nat → Nat → Option Nat, R' 3 2 = some 21 → R' 3 3 = some 16 → Q (some (.int x.1)) (97, x.2, J, R')) (fun s o hb ho => ?_) _ _ _ h hQ
  exact re_X_weathers_34_b_21_16 hR_3_2 hR_3_3 hb ho
set_option maxRecDepth 100000 in
set_option maxHeartbeats 4000000 in
theorem re_X_weathers_21_16 {ex : az_X} {I : Nat → Nat → Int32} {J : Nat → Nat → Int64} {R : Nat → Nat → Option Nat} {a1 : Int32} {a2 : Int32} (hR_3_2 : R 3 2 = some 21) (hR_3_3 : R 3 3 = some 16) {o : Int32 × (Nat → Nat → Int32)} (h : rs_X_weathers 16 21 I a1 a2 = some o) {Q : Option Value → az_S → Prop} (hQ : ∀ R' : Nat → Nat → Option Nat, R' 3 2 = some 21 → R' 3 3 = some 16 → Q (some (.int o.1)) (97, o.2, J, R')) : az_E az_F ex 6 105 0 [.ref 3, .int a1, .int a2, .retAddr 0, .retAddr 0] [] (97, I, J, R) Q := by
  unfold rs_X_weathers at h
  refine az_E.sn 2 (pc' := 2) (L' := [.ref 3, .int a1, .int a2, .retAddr 0, .retAddr 0]) (S' := [.int a1, .ref 3]) (σ' := (97, I, J, R)) rfl ?_
  refine az_E.call (d := 5) (k' := 139) (vs := [.ref 3, .int a1]) (pc' := 5) (S' := []) rfl ?_ (fun _ _ hq => hq)
  show az_E az_F ex 5 139 0 [.ref 3, .int a1] [] (97, I, J, R) _
  refine az_E.sn 1 (pc' := 1) (L' := [.ref 3, .int a1]) (S' := [.int a1]) (σ' := (97, I, J, R)) rfl ?_
  refine az_E.br (c := a1 < 0) (tt := 33) (ff := 4) (L' := [.ref 3, .int a1]) (S' := []) (σ' := (97, I, J, R)) rfl (fun hc_1 => ?_) (fun hc_1 => ?_)
  · rw [if_pos hc_1] at h
    refine az_E.sn 1 (pc' := 34) (L' := [.ref 3, .int a1]) (S' := [.int (0 : Int32)]) (σ' := (97, I, J, R)) rfl ?_
    refine az_E.ret (v := some (.int (0 : Int32))) (σ' := (97, I, J, R)) rfl ?_
    show az_E az_F ex 6 105 5 [.ref 3, .int a1, .int a2, .retAddr 0, .retAddr 0] [.int (0 : Int32)] (97, I, J, R) _
    refine az_E.br (c := (0 : Int32) = 0) (tt := 19) (ff := 8) (L' := [.ref 3, .int a1, .int a2, .retAddr 0, .retAddr 0]) (S' := []) (σ' := (97, I, J, R)) rfl (fun _ => ?_) (fun hn => absurd (by decide) hn)
    refine az_E.sn 1 (pc' := 20) (L' := [.ref 3, .int a1, .int a2, .retAddr 0, .retAddr 0]) (S' := [.int (-1 : Int32)]) (σ' := (97, I, J, R)) rfl ?_
    have h := Option.some.inj h
    subst h
    exact az_E.ret (v := some (.int (-1 : Int32))) (σ' := (97, I, J, R)) rfl (hQ _ hR_3_2 hR_3_3)
  · rw [if_neg hc_1] at h
    refine az_E.sn 2 (pc' := 7) (L' := [.ref 3, .int a1]) (S' := [.int (10 : Int32), .int a1]) (σ' := (97, I, J, R)) rfl ?_
    have hd_2 : ¬ ((10 : Int32) = 0) := by decide
    refine az_E.dv (c := (10 : Int32) = 0) (pc' := 8) (L' := [.ref 3, .int a1]) (S' := [.int (a1 / (10 : Int32))]) (σ' := (97, I, J, R)) rfl hd_2 ?_
    refine az_E.sn 3 (pc' := 15) (L' := [.ref 3, .int a1]) (S' := [.int (I 4 3), .int (a1 / (10 : Int32))]) (σ' := (97, I, J, R)) rfl ?_
    refine az_E.br (c := (I 4 3) ≤ (a1 / (10 : Int32))) (tt := 33) (ff := 18) (L' := [.ref 3, .int a1]) (S' := []) (σ' := (97, I, J, R)) rfl (fun hc_3 => ?_) (fun hc_3 => ?_)
    · rw [if_pos hc_3] at h
      refine az_E.sn 1 (pc' := 34) (L' := [.ref 3, .int a1]) (S' := [.int (0 : Int32)]) (σ' := (97, I, J, R)) rfl ?_
      refine az_E.ret (v := some (.int (0 : Int32))) (σ' := (97, I, J, R)) rfl ?_
      show az_E az_F ex 6 105 5 [.ref 3, .int a1, .int a2, .retAddr 0, .retAddr 0] [.int (0 : Int32)] (97, I, J, R) _
      refine az_E.br (c := (0 : Int32) = 0) (tt := 19) (ff := 8) (L' := [.ref 3, .int a1, .int a2, .retAddr 0, .retAddr 0]) (S' := []) (σ' := (97, I, J, R)) rfl (fun _ => ?_) (fun hn => absurd (by decide) hn)
      refine az_E.sn 1 (pc' := 20) (L' := [.ref 3, .int a1, .int a2, .retAddr 0, .retAddr 0]) (S' := [.int (-1 : Int32)]) (σ' := (97, I, J, R)) rfl ?_
      have h := Option.some.inj h
      subst h
      exact az_E.ret (v := some (.int (-1 : Int32))) (σ' := (97, I, J, R)) rfl (hQ _ hR_3_2 hR_3_3)
    · rw [if_neg hc_3] at h
      refine az_E.sn 3 (pc' := 22) (L' := [.ref 3, .int a1]) (S' := [.int (10 : Int32), .int a1, .ref 3]) (σ' := (97, I, J, R)) rfl ?_
      have hd_4 : ¬ ((10 : Int32) = 0) := by decide
      refine az_E.dv (c := (10 : Int32) = 0) (pc' := 23) (L' := [.ref 3, .int a1]) (S' := [.int (a1 - a1 / (10 : Int32) * (10 : Int32)), .ref 3]) (σ' := (97, I, J, R)) rfl hd_4 ?_
      refine az_E.call (d := 4) (k' := 138) (vs := [.ref 3, .int (a1 - a1 / (10 : Int32) * (10 : Int32))]) (pc' := 26) (S' := []) rfl ?_ (fun _ _ hq => hq)
      show az_E az_F ex 4 138 0 [.ref 3, .int (a1 - a1 / (10 : Int32) * (10 : Int32))] [] (97, I, J, R) _
      refine az_E.sn 7 (pc' := 11) (L' := [.ref 3, .int (a1 - a1 / (10 : Int32) * (10 : Int32))]) (S' := [.int ((I 4 9) - (1 : Int32)), .int (0 : Int32), .int (a1 - a1 / (10 : Int32) * (10 : Int32))]) (σ' := (97, I, J, R)) rfl ?_
      refine az_E.call (d := 3) (k' := 131) (vs := [.int (a1 - a1 / (10 : Int32) * (10 : Int32)), .int (0 : Int32), .int ((I 4 9) - (1 : Int32))]) (pc' := 14) (S' := []) rfl ?_ (fun _ _ hq => hq)
      show az_E az_F ex 3 131 0 [.int (a1 - a1 / (10 : Int32) * (10 : Int32)), .int (0 : Int32), .int ((I 4 9) - (1 : Int32))] [] (97, I, J, R) _
      refine az_E.sn 2 (pc' := 2) (L' := [.int (a1 - a1 / (10 : Int32) * (10 : Int32)), .int (0 : Int32), .int ((I 4 9) - (1 : Int32))]) (S' := [.int (0 : Int32), .int (a1 - a1 / (10 : Int32) * (10 : Int32))]) (σ' := (97, I, J, R)) rfl ?_
      refine az_E.br (c := (a1 - a1 / (10 : Int32) * (10 : Int32)) < (0 : Int32)) (tt := 14) (ff := 5) (L' := [.int (a1 - a1 / (10 : Int32) * (10 : Int32)), .int (0 : Int32), .int ((I 4 9) - (1 : Int32))]) (S' := []) (σ' := (97, I, J, R)) rfl (fun hc_5 => ?_) (fun hc_5 => ?_)
      · rw [if_pos hc_5] at h
        refine az_E.sn 1 (pc' := 15) (L' := [.int (a1 - a1 / (10 : Int32) * (10 : Int32)), .int (0 : Int32), .int ((I 4 9) - (1 : Int32))]) (S' := [.int (0 : Int32)]) (σ' := (97, I, J, R)) rfl ?_
        refine az_E.ret (v := some (.int (0 : Int32))) (σ' := (97, I, J, R)) rfl ?_
        show az_E az_F ex 4 138 14 [.ref 3, .int (a1 - a1 / (10 : Int32) * (10 : Int32))] [.int (0 : Int32)] (97, I, J, R) _
        refine az_E.ret (v := some (.int (0 : Int32))) (σ' := (97, I, J, R)) rfl ?_
        show az_E az_F ex 5 139 26 [.ref 3, .int a1] [.int (0 : Int32)] (97, I, J, R) _
        refine az_E.br (c := (0 : Int32) = 0) (tt := 33) (ff := 29) (L' := [.ref 3, .int a1]) (S' := []) (σ' := (97, I, J, R)) rfl (fun _ => ?_) (fun hn => absurd (by decide) hn)
        refine az_E.sn 1 (pc' := 34) (L' := [.ref 3, .int a1]) (S' := [.int (0 : Int32)]) (σ' := (97, I, J, R)) rfl ?_
        refine az_E.ret (v := some (.int (0 : Int32))) (σ' := (97, I, J, R)) rfl ?_
        show az_E az_F ex 6 105 5 [.ref 3, .int a1, .int a2, .retAddr 0, .retAddr 0] [.int (0 : Int32)] (97, I, J, R) _
        refine az_E.br (c := (0 : Int32) = 0) (tt := 19) (ff := 8) (L' := [.ref 3, .int a1, .int a2, .retAddr 0, .retAddr 0]) (S' := []) (σ' := (97, I, J, R)) rfl (fun _ => ?_) (fun hn => absurd (by decide) hn)
        refine az_E.sn 1 (pc' := 20) (L' := [.ref 3, .int a1, .int a2, .retAddr 0, .retAddr 0]) (S' := [.int (-1 : Int32)]) (σ' := (97, I, J, R)) rfl ?_
        have h := Option.some.inj h
        subst h
        exact az_E.ret (v := some (.int (-1 : Int32))) (σ' := (97, I, J, R)) rfl (hQ _ hR_3_2 hR_3_3)
      · rw [if_neg hc_5] at h
        refine az_E.sn 2 (pc' := 7) (L' := [.int (a1 - a1 / (10 : Int32) * (10 : Int32)), .int (0 : Int32), .int ((I 4 9) - (1 : Int32))]) (S' := [.int ((I 4 9) - (1 : Int32)), .int (a1 - a1 / (10 : Int32) * (10 : Int32))]) (σ' := (97, I, J, R)) rfl ?_
        refine az_E.br (c := ((I 4 9) - (1 : Int32)) < (a1 - a1 / (10 : Int32) * (10 : Int32))) (tt := 14) (ff := 10) (L' := [.int (a1 - a1 / (10 : Int32) * (10 : Int32)), .int (0 : Int32), .int ((I 4 9) - (1 : Int32))]) (S' := []) (σ' := (97, I, J, R)) rfl (fun hc_6 => ?_) (fun hc_6 => ?_)
        · rw [if_pos hc_6] at h
          refine az_E.sn 1 (pc' := 15) (L' := [.int (a1 - a1 / (10 : Int32) * (10 : Int32)), .int (0 : Int32), .int ((I 4 9) - (1 : Int32))]) (S' := [.int (0 : Int32)]) (σ' := (97, I, J, R)) rfl ?_
          refine az_E.ret (v := some (.int (0 : Int32))) (σ' := (97, I, J, R)) rfl ?_
          show az_E az_F ex 4 138 14 [.ref 3, .int (a1 - a1 / (10 : Int32) * (10 : Int32))] [.int (0 : Int32)] (97, I, J, R) _
          refine az_E.ret (v := some (.int (0 : Int32))) (σ' := (97, I, J, R)) rfl ?_
          show az_E az_F ex 5 139 26 [.ref 3, .int a1] [.int (0 : Int32)] (97, I, J, R) _
          refine az_E.br (c := (0 : Int32) = 0) (tt := 33) (ff := 29) (L' := [.ref 3, .int a1]) (S' := []) (σ' := (97, I, J, R)) rfl (fun _ => ?_) (fun hn => absurd (by decide) hn)
          refine az_E.sn 1 (pc' := 34) (L' := [.ref 3, .int a1]) (S' := [.int (0 : Int32)]) (σ' := (97, I, J, R)) rfl ?_
          refine az_E.ret (v := some (.int (0 : Int32))) (σ' := (97, I, J, R)) rfl ?_
          show az_E az_F ex 6 105 5 [.ref 3, .int a1, .int a2, .retAddr 0, .retAddr 0] [.int (0 : Int32)] (97, I, J, R) _
          refine az_E.br (c := (0 : Int32) = 0) (tt := 19) (ff := 8) (L' := [.ref 3, .int a1, .int a2, .retAddr 0, .retAddr 0]) (S' := []) (σ' := (97, I, J, R)) rfl (fun _ => ?_) (fun hn => absurd (by decide) hn)
          refine az_E.sn 1 (pc' := 20) (L' := [.ref 3, .int a1, .int a2, .retAddr 0, .retAddr 0]) (S' := [.int (-1 : Int32)]) (σ' := (97, I, J, R)) rfl ?_
          have h := Option.some.inj h
          subst h
          exact az_E.ret (v := some (.int (-1 : Int32))) (σ' := (97, I, J, R)) rfl (hQ _ hR_3_2 hR_3_3)
        · rw [if_neg hc_6] at h
          refine az_E.sn 2 (pc' := 15) (L' := [.int (a1 - a1 / (10 : Int32) * (10 : Int32)), .int (0 : Int32), .int ((I 4 9) - (1 : Int32))]) (S' := [.int (1 : Int32)]) (σ' := (97, I, J, R)) rfl ?_
          refine az_E.ret (v := some (.int (1 : Int32))) (σ' := (97, I, J, R)) rfl ?_
          show az_E az_F ex 4 138 14 [.ref 3, .int (a1 - a1 / (10 : Int32) * (10 : Int32))] [.int (1 : Int32)] (97, I, J, R) _
          refine az_E.ret (v := some (.int (1 : Int32))) (σ' := (97, I, J, R)) rfl ?_
          show az_E az_F ex 5 139 26 [.ref 3, .int a1] [.int (1 : Int32)] (97, I, J, R) _
          refine az_E.br (c := (1 : Int32) = 0) (tt := 33) (ff := 29) (L' := [.ref 3, .int a1]) (S' := []) (σ' := (97, I, J, R)) rfl (fun hn => absurd hn (by decide)) (fun _ => ?_)
          refine az_E.sn 2 (pc' := 34) (L' := [.ref 3, .int a1]) (S' := [.int (1 : Int32)]) (σ' := (97, I, J, R)) rfl ?_
          refine az_E.ret (v := some (.int (1 : Int32))) (σ' := (97, I, J, R)) rfl ?_
          show az_E az_F ex 6 105 5 [.ref 3, .int a1, .int a2, .retAddr 0, .retAddr 0] [.int (1 : Int32)] (97, I, J, R) _
          refine az_E.br (c := (1 : Int32) = 0) (tt := 19) (ff := 8) (L' := [.ref 3, .int a1, .int a2, .retAddr 0, .retAddr 0]) (S' := []) (σ' := (97, I, J, R)) rfl (fun hn => absurd hn (by decide)) (fun _ => ?_)
          refine az_E.sn 3 (pc' := 13) (L' := [.ref 3, .int a1, .int a2, .retAddr 0, .retAddr 0]) (S' := [.int (9999 : Int32), .int (0 : Int32), .int a2]) (σ' := (97, I, J, R)) rfl ?_
          refine az_E.call (d := 5) (k' := 131) (vs := [.int a2, .int (0 : Int32), .int (9999 : Int32)]) (pc' := 16) (S' := []) rfl ?_ (fun _ _ hq => hq)
          show az_E az_F ex 5 131 0 [.int a2, .int (0 : Int32), .int (9999 : Int32)] [] (97, I, J, R) _
          refine az_E.sn 2 (pc' := 2) (L' := [.int a2, .int (0 : Int32), .int (9999 : Int32)]) (S' := [.int (0 : Int32), .int a2]) (σ' := (97, I, J, R)) rfl ?_
          refine az_E.br (c := a2 < (0 : Int32)) (tt := 14) (ff := 5) (L' := [.int a2, .int (0 : Int32), .int (9999 : Int32)]) (S' := []) (σ' := (97, I, J, R)) rfl (fun hc_7 => ?_) (fun hc_7 => ?_)
          · rw [if_pos hc_7] at h
            refine az_E.sn 1 (pc' := 15) (L' := [.int a2, .int (0 : Int32), .int (9999 : Int32)]) (S' := [.int (0 : Int32)]) (σ' := (97, I, J, R)) rfl ?_
            refine az_E.ret (v := some (.int (0 : Int32))) (σ' := (97, I, J, R)) rfl ?_
            show az_E az_F ex 6 105 16 [.ref 3, .int a1, .int a2, .retAddr 0, .retAddr 0] [.int (0 : Int32)] (97, I, J, R) _
            refine az_E.br (c := (0 : Int32) = 0) (tt := 19) (ff := 21) (L' := [.ref 3, .int a1, .int a2, .retAddr 0, .retAddr 0]) (S' := []) (σ' := (97, I, J, R)) rfl (fun _ => ?_) (fun hn => absurd (by decide) hn)
            refine az_E.sn 1 (pc' := 20) (L' := [.ref 3, .int a1, .int a2, .retAddr 0, .retAddr 0]) (S' := [.int (-1 : Int32)]) (σ' := (97, I, J, R)) rfl ?_
            have h := Option.some.inj h
            subst h
            exact az_E.ret (v := some (.int (-1 : Int32))) (σ' := (97, I, J, R)) rfl (hQ _ hR_3_2 hR_3_3)
          · rw [if_neg hc_7] at h
            refine az_E.sn 2 (pc' := 7) (L' := [.int a2, .int (0 : Int32), .int (9999 : Int32)]) (S' := [.int (9999 : Int32), .int a2]) (σ' := (97, I, J, R)) rfl ?_
            refine az_E.br (c := (9999 : Int32) < a2) (tt := 14) (ff := 10) (L' := [.int a2, .int (0 : Int32), .int (9999 : Int32)]) (S' := []) (σ' := (97, I, J, R)) rfl (fun hc_8 => ?_) (fun hc_8 => ?_)
            · rw [if_pos hc_8] at h
              refine az_E.sn 1 (pc' := 15) (L' := [.int a2, .int (0 : Int32), .int (9999 : Int32)]) (S' := [.int (0 : Int32)]) (σ' := (97, I, J, R)) rfl ?_
              refine az_E.ret (v := some (.int (0 : Int32))) (σ' := (97, I, J, R)) rfl ?_
              show az_E az_F ex 6 105 16 [.ref 3, .int a1, .int a2, .retAddr 0, .retAddr 0] [.int (0 : Int32)] (97, I, J, R) _
              refine az_E.br (c := (0 : Int32) = 0) (tt := 19) (ff := 21) (L' := [.ref 3, .int a1, .int a2, .retAddr 0, .retAddr 0]) (S' := []) (σ' := (97, I, J, R)) rfl (fun _ => ?_) (fun hn => absurd (by decide) hn)
              refine az_E.sn 1 (pc' := 20) (L' := [.ref 3, .int a1, .int a2, .retAddr 0, .retAddr 0]) (S' := [.int (-1 : Int32)]) (σ' := (97, I, J, R)) rfl ?_
              have h := Option.some.inj h
              subst h
              exact az_E.ret (v := some (.int (-1 : Int32))) (σ' := (97, I, J, R)) rfl (hQ _ hR_3_2 hR_3_3)
            · rw [if_neg hc_8] at h
              refine az_E.sn 2 (pc' := 15) (L' := [.int a2, .int (0 : Int32), .int (9999 : Int32)]) (S' := [.int (1 : Int32)]) (σ' := (97, I, J, R)) rfl ?_
              refine az_E.ret (v := some (.int (1 : Int32))) (σ' := (97, I, J, R)) rfl ?_
              show az_E az_F ex 6 105 16 [.ref 3, .int a1, .int a2, .retAddr 0, .retAddr 0] [.int (1 : Int32)] (97, I, J, R) _
              refine az_E.br (c := (1 : Int32) = 0) (tt := 19) (ff := 21) (L' := [.ref 3, .int a1, .int a2, .retAddr 0, .retAddr 0]) (S' := []) (σ' := (97, I, J, R)) rfl (fun hn => absurd hn (by decide)) (fun _ => ?_)
              refine az_E.sn 3 (pc' := 25) (L' := [.ref 3, .int a1, .int a2, .retAddr 0, .retAddr 0]) (S' := [.int (10 : Int32), .int a1, .ref 3]) (σ' := (97, I, J, R)) rfl ?_
              have hd_9 : ¬ ((10 : Int32) = 0) := by decide
              refine az_E.dv (c := (10 : Int32) = 0) (pc' := 26) (L' := [.ref 3, .int a1, .int a2, .retAddr 0, .retAddr 0]) (S' := [.int (a1 - a1 / (10 : Int32) * (10 : Int32)), .ref 3]) (σ' := (97, I, J, R)) rfl hd_9 ?_
              cases hx_11 : rs_X_setPace 21 I (a1 - a1 / (10 : Int32) * (10 : Int32)) with
              | none => rw [hx_11] at h; cases h
              | some I_10 =>
                rw [hx_11] at h
                dsimp only at h
                refine az_E.call (d := 5) (k' := 144) (vs := [.ref 3, .int (a1 - a1 / (10 : Int32) * (10 : Int32))]) (pc' := 29) (S' := []) (Q1 := fun v s => v = none ∧ s = (97, I_10, J, (az_u (az_u R 26 2 (some 21)) 26 3 (some 5)))) rfl (az_E.deep (by omega) (re_X_setPace_21 (J := J) (R := R) hR_3_2 hx_11 ⟨rfl, rfl⟩)) (fun v s hq => ?_)
                obtain ⟨rfl, rfl⟩ := hq
                show az_E az_F ex 6 105 29 [.ref 3, .int a1, .int a2, .retAddr 0, .retAddr 0] [] (97, I_10, J, (az_u (az_u R 26 2 (some 21)) 26 3 (some 5))) _
                refine az_E.sn 4 (pc' := 34) (L' := [.ref 3, .int a1, .int a2, .int (0 : Int32), .int (0 : Int32)]) (S' := []) (σ' := (97, I_10, J, (az_u (az_u R 26 2 (some 21)) 26 3 (some 5)))) rfl ?_
                exact az_E.forget (L := [.ref 3, .int a1, .int a2, .int (0 : Int32), .int (0 : Int32)]) ⟨rfl, rfl, rfl, rfl, rfl, trivial⟩ (re_X_weathers_34_21_16 (I := I_10) (J := J) (R := R) hR_3_2 hR_3_3 h hQ)
set_option maxRecDepth 100000 in
set_option maxHeartbeats 4000000 in
theorem re_X_judge_41_21_16_61 {ex : az_X} {I : Nat → Nat → Int32} {J : Nat → Nat → Int64} {R : Nat → Nat → Option Nat} (hR_3_2 : R 3 2 = some 21) (hR_3_3 : R 3 3 = some 16) {x : Int32 × (Nat → Nat → Int32)} (h : rs_X_judge_41 16 21 61 I J = some x) {Q : Option Value → az_S → Prop} (hQ : ∀ R' : Nat → Nat → Option Nat, R' 3 2 = some 21 → R' 3 3 = some 16 → Q (some (.int x.1)) (97, x.2, J, R')) : az_E az_F ex 6 106 41 [.retAddr 0, .retAddr 0, .retAddr 0, .retAddr 0] [.ref 61, .ref 3] (97, I, J, (az_u (az_u R 26 2 (some 21)) 26 3 (some 5))) Q := by
  unfold rs_X_judge_41 at h
  cases hx_13 : rs_X_firstWrongTwo 61 I J with
  | none => rw [hx_13] at h; cases h
  | some o =>
    rw [hx_13] at h
    obtain ⟨x_11, I_12⟩ := o
    dsimp only at h
    refine az_E.call (d := 5) (k' := 151) (vs := [.ref 3, .ref 61]) (pc' := 44) (S' := []) (Q1 := fun v s => v = some (.int x_11) ∧ s = (97, I_12, J, (az_u (az_u R 26 2 (some 21)) 26 3 (some 5)))) rfl (az_E.deep (by omega) (re_X_firstWrongTwo_61_5 (J := J) (R := (az_u (az_u R 26 2 (some 21)) 26 3 (some 5))) rfl hx_13 ⟨rfl, rfl⟩)) (fun v s hq => ?_)
    obtain ⟨rfl, rfl⟩ := hq
    show az_E az_F ex 6 106 44 [.retAddr 0, .retAddr 0, .retAddr 0, .retAddr 0] [.int x_11] (97, I_12, J, (az_u (az_u R 26 2 (some 21)) 26 3 (some 5))) _
    have h := Option.some.inj h
    subst h
    exact az_E.ret (v := some (.int x_11)) (σ' := (97, I_12, J, (az_u (az_u R 26 2 (some 21)) 26 3 (some 5)))) rfl (hQ _ hR_3_2 hR_3_3)
set_option maxRecDepth 100000 in
set_option maxHeartbeats 4000000 in
theorem re_X_judge_41_21_16_63 {ex : az_X} {I : Nat → Nat → Int32} {J : Nat → Nat → Int64} {R : Nat → Nat → Option Nat} (hR_3_2 : R 3 2 = some 21) (hR_3_3 : R 3 3 = some 16) {x : Int32 × (Nat → Nat → Int32)} (h : rs_X_judge_41 16 21 63 I J = some x) {Q : Option Value → az_S → Prop} (hQ : ∀ R' : Nat → Nat → Option Nat, R' 3 2 = some 21 → R' 3 3 = some 16 → Q (some (.int x.1)) (97, x.2, J, R')) : az_E az_F ex 6 106 41 [.retAddr 0, .retAddr 0, .retAddr 0, .retAddr 0] [.ref 63, .ref 3] (97, I, J, (az_u (az_u R 26 2 (some 21)) 26 3 (some 5))) Q := by
  unfold rs_X_judge_41 at h
  cases hx_16 : rs_X_firstWrongTwo 63 I J with
  | none => rw [hx_16] at h; cases h
  | some o =>
    rw [hx_16] at h
    obtain ⟨x_14, I_15⟩ := o
    dsimp only at h
    refine az_E.call (d := 5) (k' := 151) (vs := [.ref 3, .ref 63]) (pc' := 44) (S' := []) (Q1 := fun v s => v = some (.int x_14) ∧ s = (97, I_15, J, (az_u (az_u R 26 2 (some 21)) 26 3 (some 5)))) rfl (az_E.deep (by omega) (re_X_firstWrongTwo_63_5 (J := J) (R := (az_u (az_u R 26 2 (some 21)) 26 3 (some 5))) rfl hx_16 ⟨rfl, rfl⟩)) (fun v s hq => ?_)
    obtain ⟨rfl, rfl⟩ := hq
    show az_E az_F ex 6 106 44 [.retAddr 0, .retAddr 0, .retAddr 0, .retAddr 0] [.int x_14] (97, I_15, J, (az_u (az_u R 26 2 (some 21)) 26 3 (some 5))) _
    have h := Option.some.inj h
    subst h
    exact az_E.ret (v := some (.int x_14)) (σ' := (97, I_15, J, (az_u (az_u R 26 2 (some 21)) 26 3 (some 5)))) rfl (hQ _ hR_3_2 hR_3_3)
set_option maxRecDepth 100000 in
set_option maxHeartbeats 4000000 in
theorem re_X_judge_41_21_16_65 {ex : az_X} {I : Nat → Nat → Int32} {J : Nat → Nat → Int64} {R : Nat → Nat → Option Nat} (hR_3_2 : R 3 2 = some 21) (hR_3_3 : R 3 3 = some 16) {x : Int32 × (Nat → Nat → Int32)} (h : rs_X_judge_41 16 21 65 I J = some x) {Q : Option Value → az_S → Prop} (hQ : ∀ R' : Nat → Nat → Option Nat, R' 3 2 = some 21 → R' 3 3 = some 16 → Q (some (.int x.1)) (97, x.2, J, R')) : az_E az_F ex 6 106 41 [.retAddr 0, .retAddr 0, .retAddr 0, .retAddr 0] [.ref 65, .ref 3] (97, I, J, (az_u (az_u R 26 2 (some 21)) 26 3 (some 5))) Q := by
  unfold rs_X_judge_41 at h
  cases hx_19 : rs_X_firstWrongTwo 65 I J with
  | none => rw [hx_19] at h; cases h
  | some o =>
    rw [hx_19] at h
    obtain ⟨x_17, I_18⟩ := o
    dsimp only at h
    refine az_E.call (d := 5) (k' := 151) (vs := [.ref 3, .ref 65]) (pc' := 44) (S' := []) (Q1 := fun v s => v = some (.int x_17) ∧ s = (97, I_18, J, (az_u (az_u R 26 2 (some 21)) 26 3 (some 5)))) rfl (az_E.deep (by omega) (re_X_firstWrongTwo_65_5 (J := J) (R := (az_u (az_u R 26 2 (some 21)) 26 3 (some 5))) rfl hx_19 ⟨rfl, rfl⟩)) (fun v s hq => ?_)
    obtain ⟨rfl, rfl⟩ := hq
    show az_E az_F ex 6 106 44 [.retAddr 0, .retAddr 0, .retAddr 0, .retAddr 0] [.int x_17] (97, I_18, J, (az_u (az_u R 26 2 (some 21)) 26 3 (some 5))) _
    have h := Option.some.inj h
    subst h
    exact az_E.ret (v := some (.int x_17)) (σ' := (97, I_18, J, (az_u (az_u R 26 2 (some 21)) 26 3 (some 5)))) rfl (hQ _ hR_3_2 hR_3_3)
set_option maxRecDepth 100000 in
set_option maxHeartbeats 4000000 in
theorem re_X_judge_41_21_16_67 {ex : az_X} {I : Nat → Nat → Int32} {J : Nat → Nat → Int64} {R : Nat → Nat → Option Nat} (hR_3_2 : R 3 2 = some 21) (hR_3_3 : R 3 3 = some 16) {x : Int32 × (Nat → Nat → Int32)} (h : rs_X_judge_41 16 21 67 I J = some x) {Q : Option Value → az_S → Prop} (hQ : ∀ R' : Nat → Nat → Option Nat, R' 3 2 = some 21 → R' 3 3 = some 16 → Q (some (.int x.1)) (97, x.2, J, R')) : az_E az_F ex 6 106 41 [.retAddr 0, .retAddr 0, .retAddr 0, .retAddr 0] [.ref 67, .ref 3] (97, I, J, (az_u (az_u R 26 2 (some 21)) 26 3 (some 5))) Q := by
  unfold rs_X_judge_41 at h
  cases hx_22 : rs_X_firstWrongTwo 67 I J with
  | none => rw [hx_22] at h; cases h
  | some o =>
    rw [hx_22] at h
    obtain ⟨x_20, I_21⟩ := o
    dsimp only at h
    refine az_E.call (d := 5) (k' := 151) (vs := [.ref 3, .ref 67]) (pc' := 44) (S' := []) (Q1 := fun v s => v = some (.int x_20) ∧ s = (97, I_21, J, (az_u (az_u R 26 2 (some 21)) 26 3 (some 5)))) rfl (az_E.deep (by omega) (re_X_firstWrongTwo_67_5 (J := J) (R := (az_u (az_u R 26 2 (some 21)) 26 3 (some 5))) rfl hx_22 ⟨rfl, rfl⟩)) (fun v s hq => ?_)
    obtain ⟨rfl, rfl⟩ := hq
    show az_E az_F ex 6 106 44 [.retAddr 0, .retAddr 0, .retAddr 0, .retAddr 0] [.int x_20] (97, I_21, J, (az_u (az_u R 26 2 (some 21)) 26 3 (some 5))) _
    have h := Option.some.inj h
    subst h
    exact az_E.ret (v := some (.int x_20)) (σ' := (97, I_21, J, (az_u (az_u R 26 2 (some 21)) 26 3 (some 5)))) rfl (hQ _ hR_3_2 hR_3_3)
set_option maxRecDepth 100000 in
set_option maxHeartbeats 4000000 in
theorem re_X_judge_41_21_16_69 {ex : az_X} {I : Nat → Nat → Int32} {J : Nat → Nat → Int64} {R : Nat → Nat → Option Nat} (hR_3_2 : R 3 2 = some 21) (hR_3_3 : R 3 3 = some 16) {x : Int32 × (Nat → Nat → Int32)} (h : rs_X_judge_41 16 21 69 I J = some x) {Q : Option Value → az_S → Prop} (hQ : ∀ R' : Nat → Nat → Option Nat, R' 3 2 = some 21 → R' 3 3 = some 16 → Q (some (.int x.1)) (97, x.2, J, R')) : az_E az_F ex 6 106 41 [.retAddr 0, .retAddr 0, .retAddr 0, .retAddr 0] [.ref 69, .ref 3] (97, I, J, (az_u (az_u R 26 2 (some 21)) 26 3 (some 5))) Q := by
  unfold rs_X_judge_41 at h
  cases hx_25 : rs_X_firstWrongTwo 69 I J with
  | none => rw [hx_25] at h; cases h
  | some o =>
    rw [hx_25] at h
    obtain ⟨x_23, I_24⟩ := o
    dsimp only at h
    refine az_E.call (d := 5) (k' := 151) (vs := [.ref 3, .ref 69]) (pc' := 44) (S' := []) (Q1 := fun v s => v = some (.int x_23) ∧ s = (97, I_24, J, (az_u (az_u R 26 2 (some 21)) 26 3 (some 5)))) rfl (az_E.deep (by omega) (re_X_firstWrongTwo_69_5 (J := J) (R := (az_u (az_u R 26 2 (some 21)) 26 3 (some 5))) rfl hx_25 ⟨rfl, rfl⟩)) (fun v s hq => ?_)
    obtain ⟨rfl, rfl⟩ := hq
    show az_E az_F ex 6 106 44 [.retAddr 0, .retAddr 0, .retAddr 0, .retAddr 0] [.int x_23] (97, I_24, J, (az_u (az_u R 26 2 (some 21)) 26 3 (some 5))) _
    have h := Option.some.inj h
    subst h
    exact az_E.ret (v := some (.int x_23)) (σ' := (97, I_24, J, (az_u (az_u R 26 2 (some 21)) 26 3 (some 5)))) rfl (hQ _ hR_3_2 hR_3_3)
set_option maxRecDepth 100000 in
set_option maxHeartbeats 4000000 in
theorem re_X_judge_41_21_16_71 {ex : az_X} {I : Nat → Nat → Int32} {J : Nat → Nat → Int64} {R : Nat → Nat → Option Nat} (hR_3_2 : R 3 2 = some 21) (hR_3_3 : R 3 3 = some 16) {x : Int32 × (Nat → Nat → Int32)} (h : rs_X_judge_41 16 21 71 I J = some x) {Q : Option Value → az_S → Prop} (hQ : ∀ R' : Nat → Nat → Option Nat, R' 3 2 = some 21 → R' 3 3 = some 16 → Q (some (.int x.1)) (97, x.2, J, R')) : az_E az_F ex 6 106 41 [.retAddr 0, .retAddr 0, .retAddr 0, .retAddr 0] [.ref 71, .ref 3] (97, I, J, (az_u (az_u R 26 2 (some 21)) 26 3 (some 5))) Q := by
  unfold rs_X_judge_41 at h
  cases hx_28 : rs_X_firstWrongTwo 71 I J with
  | none => rw [hx_28] at h; cases h
  | some o =>
    rw [hx_28] at h
    obtain ⟨x_26, I_27⟩ := o
    dsimp only at h
    refine az_E.call (d := 5) (k' := 151) (vs := [.ref 3, .ref 71]) (pc' := 44) (S' := []) (Q1 := fun v s => v = some (.int x_26) ∧ s = (97, I_27, J, (az_u (az_u R 26 2 (some 21)) 26 3 (some 5)))) rfl (az_E.deep (by omega) (re_X_firstWrongTwo_71_5 (J := J) (R := (az_u (az_u R 26 2 (some 21)) 26 3 (some 5))) rfl hx_28 ⟨rfl, rfl⟩)) (fun v s hq => ?_)
    obtain ⟨rfl, rfl⟩ := hq
    show az_E az_F ex 6 106 44 [.retAddr 0, .retAddr 0, .retAddr 0, .retAddr 0] [.int x_26] (97, I_27, J, (az_u (az_u R 26 2 (some 21)) 26 3 (some 5))) _
    have h := Option.some.inj h
    subst h
    exact az_E.ret (v := some (.int x_26)) (σ' := (97, I_27, J, (az_u (az_u R 26 2 (some 21)) 26 3 (some 5)))) rfl (hQ _ hR_3_2 hR_3_3)
set_option maxRecDepth 100000 in
set_option maxHeartbeats 4000000 in
theorem re_X_judge_21_16 {ex : az_X} {I : Nat → Nat → Int32} {J : Nat → Nat → Int64} {R : Nat → Nat → Option Nat} {a1 : Int32} {a2 : Int32} (hR_3_2 : R 3 2 = some 21) (hR_3_3 : R 3 3 = some 16) {o : Int32 × (Nat → Nat → Int32)} (h : rs_X_judge 16 21 I J a1 a2 = some o) {Q : Option Value → az_S → Prop} (hQ : ∀ R' : Nat → Nat → Option Nat, R' 3 2 = some 21 → R' 3 3 = some 16 → Q (some (.int o.1)) (97, o.2, J, R')) : az_E az_F ex 6 106 0 [.ref 3, .int a1, .int a2, .retAddr 0] [] (97, I, J, R) Q := by
  unfold rs_X_judge at h
  refine az_E.sn 1 (pc' := 1) (L' := [.ref 3, .int a1, .int a2, .retAddr 0]) (S' := [.int a1]) (σ' := (97, I, J, R)) rfl ?_
  refine az_E.call (d := 5) (k' := 137) (vs := [.int a1]) (pc' := 4) (S' := []) rfl ?_ (fun _ _ hq => hq)
  show az_E az_F ex 5 137 0 [.int a1] [] (97, I, J, R) _
  refine az_E.sn 3 (pc' := 3) (L' := [.int a1]) (S' := [.int (5 : Int32), .int (0 : Int32), .int a1]) (σ' := (97, I, J, R)) rfl ?_
  refine az_E.call (d := 4) (k' := 131) (vs := [.int a1, .int (0 : Int32), .int (5 : Int32)]) (pc' := 6) (S' := []) rfl ?_ (fun _ _ hq => hq)
  show az_E az_F ex 4 131 0 [.int a1, .int (0 : Int32), .int (5 : Int32)] [] (97, I, J, R) _
  refine az_E.sn 2 (pc' := 2) (L' := [.int a1, .int (0 : Int32), .int (5 : Int32)]) (S' := [.int (0 : Int32), .int a1]) (σ' := (97, I, J, R)) rfl ?_
  refine az_E.br (c := a1 < (0 : Int32)) (tt := 14) (ff := 5) (L' := [.int a1, .int (0 : Int32), .int (5 : Int32)]) (S' := []) (σ' := (97, I, J, R)) rfl (fun hc_1 => ?_) (fun hc_1 => ?_)
  · rw [if_pos hc_1] at h
    refine az_E.sn 1 (pc' := 15) (L' := [.int a1, .int (0 : Int32), .int (5 : Int32)]) (S' := [.int (0 : Int32)]) (σ' := (97, I, J, R)) rfl ?_
    refine az_E.ret (v := some (.int (0 : Int32))) (σ' := (97, I, J, R)) rfl ?_
    show az_E az_F ex 5 137 6 [.int a1] [.int (0 : Int32)] (97, I, J, R) _
    refine az_E.ret (v := some (.int (0 : Int32))) (σ' := (97, I, J, R)) rfl ?_
    show az_E az_F ex 6 106 4 [.ref 3, .int a1, .int a2, .retAddr 0] [.int (0 : Int32)] (97, I, J, R) _
    refine az_E.br (c := (0 : Int32) = 0) (tt := 15) (ff := 7) (L' := [.ref 3, .int a1, .int a2, .retAddr 0]) (S' := []) (σ' := (97, I, J, R)) rfl (fun _ => ?_) (fun hn => absurd (by decide) hn)
    refine az_E.sn 1 (pc' := 16) (L' := [.ref 3, .int a1, .int a2, .retAddr 0]) (S' := [.int (-1 : Int32)]) (σ' := (97, I, J, R)) rfl ?_
    have h := Option.some.inj h
    subst h
    exact az_E.ret (v := some (.int (-1 : Int32))) (σ' := (97, I, J, R)) rfl (hQ _ hR_3_2 hR_3_3)
  · rw [if_neg hc_1] at h
    refine az_E.sn 2 (pc' := 7) (L' := [.int a1, .int (0 : Int32), .int (5 : Int32)]) (S' := [.int (5 : Int32), .int a1]) (σ' := (97, I, J, R)) rfl ?_
    refine az_E.br (c := (5 : Int32) < a1) (tt := 14) (ff := 10) (L' := [.int a1, .int (0 : Int32), .int (5 : Int32)]) (S' := []) (σ' := (97, I, J, R)) rfl (fun hc_2 => ?_) (fun hc_2 => ?_)
    · rw [if_pos hc_2] at h
      refine az_E.sn 1 (pc' := 15) (L' := [.int a1, .int (0 : Int32), .int (5 : Int32)]) (S' := [.int (0 : Int32)]) (σ' := (97, I, J, R)) rfl ?_
      refine az_E.ret (v := some (.int (0 : Int32))) (σ' := (97, I, J, R)) rfl ?_
      show az_E az_F ex 5 137 6 [.int a1] [.int (0 : Int32)] (97, I, J, R) _
      refine az_E.ret (v := some (.int (0 : Int32))) (σ' := (97, I, J, R)) rfl ?_
      show az_E az_F ex 6 106 4 [.ref 3, .int a1, .int a2, .retAddr 0] [.int (0 : Int32)] (97, I, J, R) _
      refine az_E.br (c := (0 : Int32) = 0) (tt := 15) (ff := 7) (L' := [.ref 3, .int a1, .int a2, .retAddr 0]) (S' := []) (σ' := (97, I, J, R)) rfl (fun _ => ?_) (fun hn => absurd (by decide) hn)
      refine az_E.sn 1 (pc' := 16) (L' := [.ref 3, .int a1, .int a2, .retAddr 0]) (S' := [.int (-1 : Int32)]) (σ' := (97, I, J, R)) rfl ?_
      have h := Option.some.inj h
      subst h
      exact az_E.ret (v := some (.int (-1 : Int32))) (σ' := (97, I, J, R)) rfl (hQ _ hR_3_2 hR_3_3)
    · rw [if_neg hc_2] at h
      refine az_E.sn 2 (pc' := 15) (L' := [.int a1, .int (0 : Int32), .int (5 : Int32)]) (S' := [.int (1 : Int32)]) (σ' := (97, I, J, R)) rfl ?_
      refine az_E.ret (v := some (.int (1 : Int32))) (σ' := (97, I, J, R)) rfl ?_
      show az_E az_F ex 5 137 6 [.int a1] [.int (1 : Int32)] (97, I, J, R) _
      refine az_E.ret (v := some (.int (1 : Int32))) (σ' := (97, I, J, R)) rfl ?_
      show az_E az_F ex 6 106 4 [.ref 3, .int a1, .int a2, .retAddr 0] [.int (1 : Int32)] (97, I, J, R) _
      refine az_E.br (c := (1 : Int32) = 0) (tt := 15) (ff := 7) (L' := [.ref 3, .int a1, .int a2, .retAddr 0]) (S' := []) (σ' := (97, I, J, R)) rfl (fun hn => absurd hn (by decide)) (fun _ => ?_)
      refine az_E.sn 2 (pc' := 9) (L' := [.ref 3, .int a1, .int a2, .retAddr 0]) (S' := [.int a2, .ref 3]) (σ' := (97, I, J, R)) rfl ?_
      refine az_E.call (d := 5) (k' := 138) (vs := [.ref 3, .int a2]) (pc' := 12) (S' := []) rfl ?_ (fun _ _ hq => hq)
      show az_E az_F ex 5 138 0 [.ref 3, .int a2] [] (97, I, J, R) _
      refine az_E.sn 7 (pc' := 11) (L' := [.ref 3, .int a2]) (S' := [.int ((I 4 9) - (1 : Int32)), .int (0 : Int32), .int a2]) (σ' := (97, I, J, R)) rfl ?_
      refine az_E.call (d := 4) (k' := 131) (vs := [.int a2, .int (0 : Int32), .int ((I 4 9) - (1 : Int32))]) (pc' := 14) (S' := []) rfl ?_ (fun _ _ hq => hq)
      show az_E az_F ex 4 131 0 [.int a2, .int (0 : Int32), .int ((I 4 9) - (1 : Int32))] [] (97, I, J, R) _
      refine az_E.sn 2 (pc' := 2) (L' := [.int a2, .int (0 : Int32), .int ((I 4 9) - (1 : Int32))]) (S' := [.int (0 : Int32), .int a2]) (σ' := (97, I, J, R)) rfl ?_
      refine az_E.br (c := a2 < (0 : Int32)) (tt := 14) (ff := 5) (L' := [.int a2, .int (0 : Int32), .int ((I 4 9) - (1 : Int32))]) (S' := []) (σ' := (97, I, J, R)) rfl (fun hc_3 => ?_) (fun hc_3 => ?_)
      · rw [if_pos hc_3] at h
        refine az_E.sn 1 (pc' := 15) (L' := [.int a2, .int (0 : Int32), .int ((I 4 9) - (1 : Int32))]) (S' := [.int (0 : Int32)]) (σ' := (97, I, J, R)) rfl ?_
        refine az_E.ret (v := some (.int (0 : Int32))) (σ' := (97, I, J, R)) rfl ?_
        show az_E az_F ex 5 138 14 [.ref 3, .int a2] [.int (0 : Int32)] (97, I, J, R) _
        refine az_E.ret (v := some (.int (0 : Int32))) (σ' := (97, I, J, R)) rfl ?_
        show az_E az_F ex 6 106 12 [.ref 3, .int a1, .int a2, .retAddr 0] [.int (0 : Int32)] (97, I, J, R) _
        refine az_E.br (c := (0 : Int32) = 0) (tt := 15) (ff := 17) (L' := [.ref 3, .int a1, .int a2, .retAddr 0]) (S' := []) (σ' := (97, I, J, R)) rfl (fun _ => ?_) (fun hn => absurd (by decide) hn)
        refine az_E.sn 1 (pc' := 16) (L' := [.ref 3, .int a1, .int a2, .retAddr 0]) (S' := [.int (-1 : Int32)]) (σ' := (97, I, J, R)) rfl ?_
        have h := Option.some.inj h
        subst h
        exact az_E.ret (v := some (.int (-1 : Int32))) (σ' := (97, I, J, R)) rfl (hQ _ hR_3_2 hR_3_3)
      · rw [if_neg hc_3] at h
        refine az_E.sn 2 (pc' := 7) (L' := [.int a2, .int (0 : Int32), .int ((I 4 9) - (1 : Int32))]) (S' := [.int ((I 4 9) - (1 : Int32)), .int a2]) (σ' := (97, I, J, R)) rfl ?_
        refine az_E.br (c := ((I 4 9) - (1 : Int32)) < a2) (tt := 14) (ff := 10) (L' := [.int a2, .int (0 : Int32), .int ((I 4 9) - (1 : Int32))]) (S' := []) (σ' := (97, I, J, R)) rfl (fun hc_4 => ?_) (fun hc_4 => ?_)
        · rw [if_pos hc_4] at h
          refine az_E.sn 1 (pc' := 15) (L' := [.int a2, .int (0 : Int32), .int ((I 4 9) - (1 : Int32))]) (S' := [.int (0 : Int32)]) (σ' := (97, I, J, R)) rfl ?_
          refine az_E.ret (v := some (.int (0 : Int32))) (σ' := (97, I, J, R)) rfl ?_
          show az_E az_F ex 5 138 14 [.ref 3, .int a2] [.int (0 : Int32)] (97, I, J, R) _
          refine az_E.ret (v := some (.int (0 : Int32))) (σ' := (97, I, J, R)) rfl ?_
          show az_E az_F ex 6 106 12 [.ref 3, .int a1, .int a2, .retAddr 0] [.int (0 : Int32)] (97, I, J, R) _
          refine az_E.br (c := (0 : Int32) = 0) (tt := 15) (ff := 17) (L' := [.ref 3, .int a1, .int a2, .retAddr 0]) (S' := []) (σ' := (97, I, J, R)) rfl (fun _ => ?_) (fun hn => absurd (by decide) hn)
          refine az_E.sn 1 (pc' := 16) (L' := [.ref 3, .int a1, .int a2, .retAddr 0]) (S' := [.int (-1 : Int32)]) (σ' := (97, I, J, R)) rfl ?_
          have h := Option.some.inj h
          subst h
          exact az_E.ret (v := some (.int (-1 : Int32))) (σ' := (97, I, J, R)) rfl (hQ _ hR_3_2 hR_3_3)
        · rw [if_neg hc_4] at h
          refine az_E.sn 2 (pc' := 15) (L' := [.int a2, .int (0 : Int32), .int ((I 4 9) - (1 : Int32))]) (S' := [.int (1 : Int32)]) (σ' := (97, I, J, R)) rfl ?_
          refine az_E.ret (v := some (.int (1 : Int32))) (σ' := (97, I, J, R)) rfl ?_
          show az_E az_F ex 5 138 14 [.ref 3, .int a2] [.int (1 : Int32)] (97, I, J, R) _
          refine az_E.ret (v := some (.int (1 : Int32))) (σ' := (97, I, J, R)) rfl ?_
          show az_E az_F ex 6 106 12 [.ref 3, .int a1, .int a2, .retAddr 0] [.int (1 : Int32)] (97, I, J, R) _
          refine az_E.br (c := (1 : Int32) = 0) (tt := 15) (ff := 17) (L' := [.ref 3, .int a1, .int a2, .retAddr 0]) (S' := []) (σ' := (97, I, J, R)) rfl (fun hn => absurd hn (by decide)) (fun _ => ?_)
          refine az_E.sn 2 (pc' := 19) (L' := [.ref 3, .int a1, .int a2, .retAddr 0]) (S' := [.int a1, .ref 3]) (σ' := (97, I, J, R)) rfl ?_
          cases hx_6 : rs_X_refusalOfBook I a1 with
          | none => rw [hx_6] at h; cases h
          | some x_5 =>
            rw [hx_6] at h
            dsimp only at h
            refine az_E.call (d := 5) (k' := 150) (vs := [.ref 3, .int a1]) (pc' := 22) (S' := []) (Q1 := fun v s => v = some (.int x_5) ∧ s = (97, I, J, R)) rfl (az_E.deep (by omega) (re_X_refusalOfBook (J := J) (R := R)  hx_6 ⟨rfl, rfl⟩)) (fun v s hq => ?_)
            obtain ⟨rfl, rfl⟩ := hq
            show az_E az_F ex 6 106 22 [.ref 3, .int a1, .int a2, .retAddr 0] [.int x_5] (97, I, J, R) _
            refine az_E.sn 2 (pc' := 24) (L' := [.ref 3, .int a1, .int a2, .int x_5]) (S' := [.int x_5]) (σ' := (97, I, J, R)) rfl ?_
            refine az_E.br (c := x_5 = 0) (tt := 29) (ff := 27) (L' := [.ref 3, .int a1, .int a2, .int x_5]) (S' := []) (σ' := (97, I, J, R)) rfl (fun hc_7 => ?_) (fun hc_7 => ?_)
            · rw [if_pos hc_7] at h
              refine az_E.sn 2 (pc' := 31) (L' := [.ref 3, .int a1, .int a2, .int x_5]) (S' := [.int a2, .ref 3]) (σ' := (97, I, J, R)) rfl ?_
              cases hx_9 : rs_X_setPace 21 I a2 with
              | none => rw [hx_9] at h; cases h
              | some I_8 =>
                rw [hx_9] at h
                dsimp only at h
                refine az_E.call (d := 5) (k' := 144) (vs := [.ref 3, .int a2]) (pc' := 34) (S' := []) (Q1 := fun v s => v = none ∧ s = (97, I_8, J, (az_u (az_u R 26 2 (some 21)) 26 3 (some 5)))) rfl (az_E.deep (by omega) (re_X_setPace_21 (J := J) (R := R) hR_3_2 hx_9 ⟨rfl, rfl⟩)) (fun v s hq => ?_)
                obtain ⟨rfl, rfl⟩ := hq
                show az_E az_F ex 6 106 34 [.ref 3, .int a1, .int a2, .int x_5] [] (97, I_8, J, (az_u (az_u R 26 2 (some 21)) 26 3 (some 5))) _
                refine az_E.sn 4 (pc' := 40) (L' := [.ref 3, .int a1, .int a2, .int x_5]) (S' := [.int a1, .ref 58, .ref 3]) (σ' := (97, I_8, J, (az_u (az_u R 26 2 (some 21)) 26 3 (some 5)))) rfl ?_
                by_cases hc_10 : a1 < 0 ∨ 6 ≤ a1.toNatClampNeg
                · rw [if_pos hc_10] at h; cases h
                · rw [if_neg hc_10] at h
                  rcases az_six hc_10 with ehc_10 | ehc_10 | ehc_10 | ehc_10 | ehc_10 | ehc_10
                  · subst ehc_10
                    refine az_E.ov (pc' := 41) (L' := [.ref 3, .int (0 : Int32), .int a2, .int x_5]) (S' := [.ref 3]) (σ' := (97, I_8, J, (az_u (az_u R 26 2 (some 21)) 26 3 (some 5)))) (x := .ref 61) (o := az_aa az_F (97, I_8, J, (az_u (az_u R 26 2 (some 21)) 26 3 (some 5))) 58 (0 : Int32)) rfl rfl ?_
                    exact az_E.forget (L := [.retAddr 0, .retAddr 0, .retAddr 0, .retAddr 0]) ⟨trivial, trivial, trivial, trivial, trivial⟩ (re_X_judge_41_21_16_61 (I := I_8) (J := J) (R := R) hR_3_2 hR_3_3 h hQ)
                  · subst ehc_10
                    refine az_E.ov (pc' := 41) (L' := [.ref 3, .int (1 : Int32), .int a2, .int x_5]) (S' := [.ref 3]) (σ' := (97, I_8, J, (az_u (az_u R 26 2 (some 21)) 26 3 (some 5)))) (x := .ref 63) (o := az_aa az_F (97, I_8, J, (az_u (az_u R 26 2 (some 21)) 26 3 (some 5))) 58 (1 : Int32)) rfl rfl ?_
                    exact az_E.forget (L := [.retAddr 0, .retAddr 0, .retAddr 0, .retAddr 0]) ⟨trivial, trivial, trivial, trivial, trivial⟩ (re_X_judge_41_21_16_63 (I := I_8) (J := J) (R := R) hR_3_2 hR_3_3 h hQ)
                  · subst ehc_10
                    refine az_E.ov (pc' := 41) (L' := [.ref 3, .int (2 : Int32), .int a2, .int x_5]) (S' := [.ref 3]) (σ' := (97, I_8, J, (az_u (az_u R 26 2 (some 21)) 26 3 (some 5)))) (x := .ref 65) (o := az_aa az_F (97, I_8, J, (az_u (az_u R 26 2 (some 21)) 26 3 (some 5))) 58 (2 : Int32)) rfl rfl ?_
                    exact az_E.forget (L := [.retAddr 0, .retAddr 0, .retAddr 0, .retAddr 0]) ⟨trivial, trivial, trivial, trivial, trivial⟩ (re_X_judge_41_21_16_65 (I := I_8) (J := J) (R := R) hR_3_2 hR_3_3 h hQ)
                  · subst ehc_10
                    refine az_E.ov (pc' := 41) (L' := [.ref 3, .int (3 : Int32), .int a2, .int x_5]) (S' := [.ref 3]) (σ' := (97, I_8, J, (az_u (az_u R 26 2 (some 21)) 26 3 (some 5)))) (x := .ref 67) (o := az_aa az_F (97, I_8, J, (az_u (az_u R 26 2 (some 21)) 26 3 (some 5))) 58 (3 : Int32)) rfl rfl ?_
                    exact az_E.forget (L := [.retAddr 0, .retAddr 0, .retAddr 0, .retAddr 0]) ⟨trivial, trivial, trivial, trivial, trivial⟩ (re_X_judge_41_21_16_67 (I := I_8) (J := J) (R := R) hR_3_2 hR_3_3 h hQ)
                  · subst ehc_10
                    refine az_E.ov (pc' := 41) (L' := [.ref 3, .int (4 : Int32), .int a2, .int x_5]) (S' := [.ref 3]) (σ' := (97, I_8, J, (az_u (az_u R 26 2 (some 21)) 26 3 (some 5)))) (x := .ref 69) (o := az_aa az_F (97, I_8, J, (az_u (az_u R 26 2 (some 21)) 26 3 (some 5))) 58 (4 : Int32)) rfl rfl ?_
                    exact az_E.forget (L := [.retAddr 0, .retAddr 0, .retAddr 0, .retAddr 0]) ⟨trivial, trivial, trivial, trivial, trivial⟩ (re_X_judge_41_21_16_69 (I := I_8) (J := J) (R := R) hR_3_2 hR_3_3 h hQ)
                  · subst ehc_10
                    refine az_E.ov (pc' := 41) (L' := [.ref 3, .int (5 : Int32), .int a2, .int x_5]) (S' := [.ref 3]) (σ' := (97, I_8, J, (az_u (az_u R 26 2 (some 21)) 26 3 (some 5)))) (x := .ref 71) (o := az_aa az_F (97, I_8, J, (az_u (az_u R 26 2 (some 21)) 26 3 (some 5))) 58 (5 : Int32)) rfl rfl ?_
                    exact az_E.forget (L := [.retAddr 0, .retAddr 0, .retAddr 0, .retAddr 0]) ⟨trivial, trivial, trivial, trivial, trivial⟩ (re_X_judge_41_21_16_71 (I := I_8) (J := J) (R := R) hR_3_2 hR_3_3 h hQ)
            · rw [if_neg hc_7] at h
              refine az_E.sn 1 (pc' := 28) (L' := [.ref 3, .int a1, .int a2, .int x_5]) (S' := [.int x_5]) (σ' := (97, I, J, R)) rfl ?_
              have h := Option.some.inj h
              subst h
              exact az_E.ret (v := some (.int x_5)) (σ' := (97, I, J, R)) rfl (hQ _ hR_3_2 hR_3_3)
set_option maxRecDepth 100000 in
set_option maxHeartbeats 4000000 in
theorem re_X_byHeart_103_21_16 {ex : az_X} {I : Nat → Nat → Int32} {J : Nat → Nat → Int64} {R : Nat → Nat → Option Nat} {v3 : Int32} {v4 : Int32} {v5 : Int32} (hR_3_2 : R 3 2 = some 21) (hR_3_3 : R 3 3 = some 16) {x : Int32 × (Nat → Nat → Int32)} (h : rs_X_byHeart_103 16 21 I J v3 v4 v5 = some x) {Q : Option Value → az_S → Prop} (hQ : ∀ R' : Nat → Nat → Option Nat, R' 3 2 = some 21 → R' 3 3 = some 16 → Q (some (.int x.1)) (97, x.2, J, R')) : az_E az_F ex 6 107 103 [.retAddr 0, .retAddr 0, .retAddr 0, .int v3, .int v4, .int v5, .retAddr 0] [] (97, I, J, (az_u (az_u R 26 2 (some 21)) 26 3 (some 5))) Q := by
  unfold rs_X_byHeart_103 at h
  refine az_E.sn 1 (pc' := 104) (L' := [.retAddr 0, .retAddr 0, .retAddr 0, .int v3, .int v4, .int v5, .retAddr 0]) (S' := [.int v3]) (σ' := (97, I, J, (az_u (az_u R 26 2 (some 21)) 26 3 (some 5)))) rfl ?_
  refine az_E.br (c := v3 = 0) (tt := 107) (ff := 112) (L' := [.retAddr 0, .retAddr 0, .retAddr 0, .int v3, .int v4, .int v5, .retAddr 0]) (S' := []) (σ' := (97, I, J, (az_u (az_u R 26 2 (some 21)) 26 3 (some 5)))) rfl (fun hc_12 => ?_) (fun hc_12 => ?_)
  · rw [if_pos hc_12] at h
    refine az_E.sn 2 (pc' := 114) (L' := [.retAddr 0, .retAddr 0, .retAddr 0, .int v3, .int v4, .int v5, .retAddr 0]) (S' := [.int v4]) (σ' := (97, I, J, (az_u (az_u R 26 2 (some 21)) 26 3 (some 5)))) rfl ?_
    have h := Option.some.inj h
    subst h
    exact az_E.ret (v := some (.int v4)) (σ' := (97, I, J, (az_u (az_u R 26 2 (some 21)) 26 3 (some 5)))) rfl (hQ _ hR_3_2 hR_3_3)
  · rw [if_neg hc_12] at h
    refine az_E.sn 1 (pc' := 114) (L' := [.retAddr 0, .retAddr 0, .retAddr 0, .int v3, .int v4, .int v5, .retAddr 0]) (S' := [.int v5]) (σ' := (97, I, J, (az_u (az_u R 26 2 (some 21)) 26 3 (some 5)))) rfl ?_
    have h := Option.some.inj h
    subst h
    exact az_E.ret (v := some (.int v5)) (σ' := (97, I, J, (az_u (az_u R 26 2 (some 21)) 26 3 (some 5)))) rfl (hQ _ hR_3_2 hR_3_3)
set_option maxRecDepth 100000 in
set_option maxHeartbeats 4000000 in
theorem re_X_byHeart_72_21_16_61 {ex : az_X} {I : Nat → Nat → Int32} {J : Nat → Nat → Int64} {R : Nat → Nat → Option Nat} {v1 : Int32} {v3 : Int32} {v4 : Int32} {v5 : Int32} {v6 : Int32} (hR_3_2 : R 3 2 = some 21) (hR_3_3 : R 3 3 = some 16) {x : ((Int32 × Int32 × Int32 × (Nat → Nat → Int32)) ⊕ (Int32 × (Nat → Nat → Int32)))} (h : rs_X_byHeart_72 16 21 61 I J v1 v3 v4 v5 v6 = some x) {Q : Option Value → az_S → Prop} (hQ : Sum.elim (fun s => az_E az_F ex 6 107 49 [.ref 3, .int v1, .retAddr 0, .int v3, .int s.1, .int s.2.1, .int s.2.2.1] [] (97, s.2.2.2, J, (az_u (az_u R 26 2 (some 21)) 26 3 (some 5))) Q) (fun x => ∀ R' : Nat → Nat → Option Nat, R' 3 2 = some 21 → R' 3 3 = some 16 → Q (some (.int x.1)) (97, x.2, J, R')) x) : az_E az_F ex 6 107 72 [.ref 3, .int v1, .retAddr 0, .int v3, .int v4, .int v5, .int v6] [.ref 61, .ref 3] (97, I, J, (az_u (az_u R 26 2 (some 21)) 26 3 (some 5))) Q := by
  unfold rs_X_byHeart_72 at h
  cases hx_18 : rs_X_firstWrongTwo 61 I J with
  | none => rw [hx_18] at h; cases h
  | some o =>
    rw [hx_18] at h
    obtain ⟨x_16, I_17⟩ := o
    dsimp only at h
    refine az_E.call (d := 5) (k' := 151) (vs := [.ref 3, .ref 61]) (pc' := 75) (S' := []) (Q1 := fun v s => v = some (.int x_16) ∧ s = (97, I_17, J, (az_u (az_u R 26 2 (some 21)) 26 3 (some 5)))) rfl (az_E.deep (by omega) (re_X_firstWrongTwo_61_5 (J := J) (R := (az_u (az_u R 26 2 (some 21)) 26 3 (some 5))) rfl hx_18 ⟨rfl, rfl⟩)) (fun v s hq => ?_)
    obtain ⟨rfl, rfl⟩ := hq
    show az_E az_F ex 6 107 75 [.ref 3, .int v1, .retAddr 0, .int v3, .int v4, .int v5, .int v6] [.int x_16] (97, I_17, J, (az_u (az_u R 26 2 (some 21)) 26 3 (some 5))) _
    refine az_E.sn 1 (pc' := 77) (L' := [.ref 3, .int v1, .retAddr 0, .int v3, .int v4, .int v5, .int v6]) (S' := [.int (-2 : Int32), .int x_16]) (σ' := (97, I_17, J, (az_u (az_u R 26 2 (some 21)) 26 3 (some 5)))) rfl ?_
    refine az_E.br (c := x_16 = (-2 : Int32)) (tt := 80) (ff := 97) (L' := [.ref 3, .int v1, .retAddr 0, .int v3, .int v4, .int v5, .int v6]) (S' := []) (σ' := (97, I_17, J, (az_u (az_u R 26 2 (some 21)) 26 3 (some 5)))) rfl (fun hc_19 => ?_) (fun hc_19 => ?_)
    · rw [if_pos hc_19] at h
      refine az_E.sn 1 (pc' := 82) (L' := [.ref 3, .int v1, .retAddr 0, .int v3, .int v4, .int v5, .int v6]) (S' := [.int v4]) (σ' := (97, I_17, J, (az_u (az_u R 26 2 (some 21)) 26 3 (some 5)))) rfl ?_
      refine az_E.br (c := v4 = 0) (tt := 85) (ff := 90) (L' := [.ref 3, .int v1, .retAddr 0, .int v3, .int v4, .int v5, .int v6]) (S' := []) (σ' := (97, I_17, J, (az_u (az_u R 26 2 (some 21)) 26 3 (some 5)))) rfl (fun hc_20 => ?_) (fun hc_20 => ?_)
      · rw [if_pos hc_20] at h
        refine az_E.sn 6 (pc' := 49) (L' := [.ref 3, .int v1, .retAddr 0, .int v3, .int (v4 + (1 : Int32)), .int v6, .int (v6 + (1 : Int32))]) (S' := []) (σ' := (97, I_17, J, (az_u (az_u R 26 2 (some 21)) 26 3 (some 5)))) rfl ?_
        have h := Option.some.inj h
        subst h
        exact az_E.forget (L := [.ref 3, .int v1, .retAddr 0, .int v3, .int (v4 + (1 : Int32)), .int v6, .int (v6 + (1 : Int32))]) ⟨rfl, rfl, trivial, rfl, rfl, rfl, rfl, trivial⟩ hQ
      · rw [if_neg hc_20] at h
        refine az_E.sn 5 (pc' := 49) (L' := [.ref 3, .int v1, .retAddr 0, .int v3, .int (v4 + (1 : Int32)), .int v5, .int (v6 + (1 : Int32))]) (S' := []) (σ' := (97, I_17, J, (az_u (az_u R 26 2 (some 21)) 26 3 (some 5)))) rfl ?_
        have h := Option.some.inj h
        subst h
        exact az_E.forget (L := [.ref 3, .int v1, .retAddr 0, .int v3, .int (v4 + (1 : Int32)), .int v5, .int (v6 + (1 : Int32))]) ⟨rfl, rfl, trivial, rfl, rfl, rfl, rfl, trivial⟩ hQ
    · rw [if_neg hc_19] at h
      refine az_E.sn 2 (pc' := 49) (L' := [.ref 3, .int v1, .retAddr 0, .int v3, .int v4, .int v5, .int (v6 + (1 : Int32))]) (S' := []) (σ' := (97, I_17, J, (az_u (az_u R 26 2 (some 21)) 26 3 (some 5)))) rfl ?_
      have h := Option.some.inj h
      subst h
      exact az_E.forget (L := [.ref 3, .int v1, .retAddr 0, .int v3, .int v4, .int v5, .int (v6 + (1 : Int32))]) ⟨rfl, rfl, trivial, rfl, rfl, rfl, rfl, trivial⟩ hQ
set_option maxRecDepth 100000 in
set_option maxHeartbeats 4000000 in
theorem re_X_byHeart_72_21_16_63 {ex : az_X} {I : Nat → Nat → Int32} {J : Nat → Nat → Int64} {R : Nat → Nat → Option Nat} {v1 : Int32} {v3 : Int32} {v4 : Int32} {v5 : Int32} {v6 : Int32} (hR_3_2 : R 3 2 = some 21) (hR_3_3 : R 3 3 = some 16) {x : ((Int32 × Int32 × Int32 × (Nat → Nat → Int32)) ⊕ (Int32 × (Nat → Nat → Int32)))} (h : rs_X_byHeart_72 16 21 63 I J v1 v3 v4 v5 v6 = some x) {Q : Option Value → az_S → Prop} (hQ : Sum.elim (fun s => az_E az_F ex 6 107 49 [.ref 3, .int v1, .retAddr 0, .int v3, .int s.1, .int s.2.1, .int s.2.2.1] [] (97, s.2.2.2, J, (az_u (az_u R 26 2 (some 21)) 26 3 (some 5))) Q) (fun x => ∀ R' : Nat → Nat → Option Nat, R' 3 2 = some 21 → R' 3 3 = some 16 → Q (some (.int x.1)) (97, x.2, J, R')) x) : az_E az_F ex 6 107 72 [.ref 3, .int v1, .retAddr 0, .int v3, .int v4, .int v5, .int v6] [.ref 63, .ref 3] (97, I, J, (az_u (az_u R 26 2 (some 21)) 26 3 (some 5))) Q := by
  unfold rs_X_byHeart_72 at h
  cases hx_23 : rs_X_firstWrongTwo 63 I J with
  | none => rw [hx_23] at h; cases h
  | some o =>
    rw [hx_23] at h
    obtain ⟨x_21, I_22⟩ := o
    dsimp only at h
    refine az_E.call (d := 5) (k' := 151) (vs := [.ref 3, .ref 63]) (pc' := 75) (S' := []) (Q1 := fun v s => v = some (.int x_21) ∧ s = (97, I_22, J, (az_u (az_u R 26 2 (some 21)) 26 3 (some 5)))) rfl (az_E.deep (by omega) (re_X_firstWrongTwo_63_5 (J := J) (R := (az_u (az_u R 26 2 (some 21)) 26 3 (some 5))) rfl hx_23 ⟨rfl, rfl⟩)) (fun v s hq => ?_)
    obtain ⟨rfl, rfl⟩ := hq
    show az_E az_F ex 6 107 75 [.ref 3, .int v1, .retAddr 0, .int v3, .int v4, .int v5, .int v6] [.int x_21] (97, I_22, J, (az_u (az_u R 26 2 (some 21)) 26 3 (some 5))) _
    refine az_E.sn 1 (pc' := 77) (L' := [.ref 3, .int v1, .retAddr 0, .int v3, .int v4, .int v5, .int v6]) (S' := [.int (-2 : Int32), .int x_21]) (σ' := (97, I_22, J, (az_u (az_u R 26 2 (some 21)) 26 3 (some 5)))) rfl ?_
    refine az_E.br (c := x_21 = (-2 : Int32)) (tt := 80) (ff := 97) (L' := [.ref 3, .int v1, .retAddr 0, .int v3, .int v4, .int v5, .int v6]) (S' := []) (σ' := (97, I_22, J, (az_u (az_u R 26 2 (some 21)) 26 3 (some 5)))) rfl (fun hc_24 => ?_) (fun hc_24 => ?_)
    · rw [if_pos hc_24] at h
      refine az_E.sn 1 (pc' := 82) (L' := [.ref 3, .int v1, .retAddr 0, .int v3, .int v4, .int v5, .int v6]) (S' := [.int v4]) (σ' := (97, I_22, J, (az_u (az_u R 26 2 (some 21)) 26 3 (some 5)))) rfl ?_
      refine az_E.br (c := v4 = 0) (tt := 85) (ff := 90) (L' := [.ref 3, .int v1, .retAddr 0, .int v3, .int v4, .int v5, .int v6]) (S' := []) (σ' := (97, I_22, J, (az_u (az_u R 26 2 (some 21)) 26 3 (some 5)))) rfl (fun hc_25 => ?_) (fun hc_25 => ?_)
      · rw [if_pos hc_25] at h
        refine az_E.sn 6 (pc' := 49) (L' := [.ref 3, .int v1, .retAddr 0, .int v3, .int (v4 + (1 : Int32)), .int v6, .int (v6 + (1 : Int32))]) (S' := []) (σ' := (97, I_22, J, (az_u (az_u R 26 2 (some 21)) 26 3 (some 5)))) rfl ?_
        have h := Option.some.inj h
        subst h
        exact az_E.forget (L := [.ref 3, .int v1, .retAddr 0, .int v3, .int (v4 + (1 : Int32)), .int v6, .int (v6 + (1 : Int32))]) ⟨rfl, rfl, trivial, rfl, rfl, rfl, rfl, trivial⟩ hQ
      · rw [if_neg hc_25] at h
        refine az_E.sn 5 (pc' := 49) (L' := [.ref 3, .int v1, .retAddr 0, .int v3, .int (v4 + (1 : Int32)), .int v5, .int (v6 + (1 : Int32))]) (S' := []) (σ' := (97, I_22, J, (az_u (az_u R 26 2 (some 21)) 26 3 (some 5)))) rfl ?_
        have h := Option.some.inj h
        subst h
        exact az_E.forget (L := [.ref 3, .int v1, .retAddr 0, .int v3, .int (v4 + (1 : Int32)), .int v5, .int (v6 + (1 : Int32))]) ⟨rfl, rfl, trivial, rfl, rfl, rfl, rfl, trivial⟩ hQ
    · rw [if_neg hc_24] at h
      refine az_E.sn 2 (pc' := 49) (L' := [.ref 3, .int v1, .retAddr 0, .int v3, .int v4, .int v5, .int (v6 + (1 : Int32))]) (S' := []) (σ' := (97, I_22, J, (az_u (az_u R 26 2 (some 21)) 26 3 (some 5)))) rfl ?_
      have h := Option.some.inj h
      subst h
      exact az_E.forget (L := [.ref 3, .int v1, .retAddr 0, .int v3, .int v4, .int v5, .int (v6 + (1 : Int32))]) ⟨rfl, rfl, trivial, rfl, rfl, rfl, rfl, trivial⟩ hQ
set_option maxRecDepth 100000 in
set_option maxHeartbeats 4000000 in
theorem re_X_byHeart_72_21_16_65 {ex : az_X} {I : Nat → Nat → Int32} {J : Nat → Nat → Int64} {R : Nat → Nat → Option Nat} {v1 : Int32} {v3 : Int32} {v4 : Int32} {v5 : Int32} {v6 : Int32} (hR_3_2 : R 3 2 = some 21) (hR_3_3 : R 3 3 = some 16) {x : ((Int32 × Int32 × Int32 × (Nat → Nat → Int32)) ⊕ (Int32 × (Nat → Nat → Int32)))} (h : rs_X_byHeart_72 16 21 65 I J v1 v3 v4 v5 v6 = some x) {Q : Option Value → az_S → Prop} (hQ : Sum.elim (fun s => az_E az_F ex 6 107 49 [.ref 3, .int v1, .retAddr 0, .int v3, .int s.1, .int s.2.1, .int s.2.2.1] [] (97, s.2.2.2, J, (az_u (az_u R 26 2 (some 21)) 26 3 (some 5))) Q) (fun x => ∀ R' : Nat → Nat → Option Nat, R' 3 2 = some 21 → R' 3 3 = some 16 → Q (some (.int x.1)) (97, x.2, J, R')) x) : az_E az_F ex 6 107 72 [.ref 3, .int v1, .retAddr 0, .int v3, .int v4, .int v5, .int v6] [.ref 65, .ref 3] (97, I, J, (az_u (az_u R 26 2 (some 21)) 26 3 (some 5))) Q := by
  unfold rs_X_byHeart_72 at h
  cases hx_28 : rs_X_firstWrongTwo 65 I J with
  | none => rw [hx_28] at h; cases h
  | some o =>
    rw [hx_28] at h
    obtain ⟨x_26, I_27⟩ := o
    dsimp only at h
    refine az_E.call (d := 5) (k' := 151) (vs := [.ref 3, .ref 65]) (pc' := 75) (S' := []) (Q1 := fun v s => v = some (.int x_26) ∧ s = (97, I_27, J, (az_u (az_u R 26 2 (some 21)) 26 3 (some 5)))) rfl (az_E.deep (by omega) (re_X_firstWrongTwo_65_5 (J := J) (R := (az_u (az_u R 26 2 (some 21)) 26 3 (some 5))) rfl hx_28 ⟨rfl, rfl⟩)) (fun v s hq => ?_)
    obtain ⟨rfl, rfl⟩ := hq
    show az_E az_F ex 6 107 75 [.ref 3, .int v1, .retAddr 0, .int v3, .int v4, .int v5, .int v6] [.int x_26] (97, I_27, J, (az_u (az_u R 26 2 (some 21)) 26 3 (some 5))) _
    refine az_E.sn 1 (pc' := 77) (L' := [.ref 3, .int v1, .retAddr 0, .int v3, .int v4, .int v5, .int v6]) (S' := [.int (-2 : Int32), .int x_26]) (σ' := (97, I_27, J, (az_u (az_u R 26 2 (some 21)) 26 3 (some 5)))) rfl ?_
    refine az_E.br (c := x_26 = (-2 : Int32)) (tt := 80) (ff := 97) (L' := [.ref 3, .int v1, .retAddr 0, .int v3, .int v4, .int v5, .int v6]) (S' := []) (σ' := (97, I_27, J, (az_u (az_u R 26 2 (some 21)) 26 3 (some 5)))) rfl (fun hc_29 => ?_) (fun hc_29 => ?_)
    · rw [if_pos hc_29] at h
      refine az_E.sn 1 (pc' := 82) (L' := [.ref 3, .int v1, .retAddr 0, .int v3, .int v4, .int v5, .int v6]) (S' := [.int v4]) (σ' := (97, I_27, J, (az_u (az_u R 26 2 (some 21)) 26 3 (some 5)))) rfl ?_
      refine az_E.br (c := v4 = 0) (tt := 85) (ff := 90) (L' := [.ref 3, .int v1, .retAddr 0, .int v3, .int v4, .int v5, .int v6]) (S' := []) (σ' := (97, I_27, J, (az_u (az_u R 26 2 (some 21)) 26 3 (some 5)))) rfl (fun hc_30 => ?_) (fun hc_30 => ?_)
      · rw [if_pos hc_30] at h
        refine az_E.sn 6 (pc' := 49) (L' := [.ref 3, .int v1, .retAddr 0, .int v3, .int (v4 + (1 : Int32)), .int v6, .int (v6 + (1 : Int32))]) (S' := []) (σ' := (97, I_27, J, (az_u (az_u R 26 2 (some 21)) 26 3 (some 5)))) rfl ?_
        have h := Option.some.inj h
        subst h
        exact az_E.forget (L := [.ref 3, .int v1, .retAddr 0, .int v3, .int (v4 + (1 : Int32)), .int v6, .int (v6 + (1 : Int32))]) ⟨rfl, rfl, trivial, rfl, rfl, rfl, rfl, trivial⟩ hQ
      · rw [if_neg hc_30] at h
        refine az_E.sn 5 (pc' := 49) (L' := [.ref 3, .int v1, .retAddr 0, .int v3, .int (v4 + (1 : Int32)), .int v5, .int (v6 + (1 : Int32))]) (S' := []) (σ' := (97, I_27, J, (az_u (az_u R 26 2 (some 21)) 26 3 (some 5)))) rfl ?_
        have h := Option.some.inj h
        subst h
        exact az_E.forget (L := [.ref 3, .int v1, .retAddr 0, .int v3, .int (v4 + (1 : Int32)), .int v5, .int (v6 + (1 : Int32))]) ⟨rfl, rfl, trivial, rfl, rfl, rfl, rfl, trivial⟩ hQ
    · rw [if_neg hc_29] at h
      refine az_E.sn 2 (pc' := 49) (L' := [.ref 3, .int v1, .retAddr 0, .int v3, .int v4, .int v5, .int (v6 + (1 : Int32))]) (S' := []) (σ' := (97, I_27, J, (az_u (az_u R 26 2 (some 21)) 26 3 (some 5)))) rfl ?_
      have h := Option.some.inj h
      subst h
      exact az_E.forget (L := [.ref 3, .int v1, .retAddr 0, .int v3, .int v4, .int v5, .int (v6 + (1 : Int32))]) ⟨rfl, rfl, trivial, rfl, rfl, rfl, rfl, trivial⟩ hQ
set_option maxRecDepth 100000 in
set_option maxHeartbeats 4000000 in
theorem re_X_byHeart_72_21_16_67 {ex : az_X} {I : Nat → Nat → Int32} {J : Nat → Nat → Int64} {R : Nat → Nat → Option Nat} {v1 : Int32} {v3 : Int32} {v4 : Int32} {v5 : Int32} {v6 : Int32} (hR_3_2 : R 3 2 = some 21) (hR_3_3 : R 3 3 = some 16) {x : ((Int32 × Int32 × Int32 × (Nat → Nat → Int32)) ⊕ (Int32 × (Nat → Nat → Int32)))} (h : rs_X_byHeart_72 16 21 67 I J v1 v3 v4 v5 v6 = some x) {Q : Option Value → az_S → Prop} (hQ : Sum.elim (fun s => az_E az_F ex 6 107 49 [.ref 3, .int v1, .retAddr 0, .int v3, .int s.1, .int s.2.1, .int s.2.2.1] [] (97, s.2.2.2, J, (az_u (az_u R 26 2 (some 21)) 26 3 (some 5))) Q) (fun x => ∀ R' : Nat → Nat → Option Nat, R' 3 2 = some 21 → R' 3 3 = some 16 → Q (some (.int x.1)) (97, x.2, J, R')) x) : az_E az_F ex 6 107 72 [.ref 3, .int v1, .retAddr 0, .int v3, .int v4, .int v5, .int v6] [.ref 67, .ref 3] (97, I, J, (az_u (az_u R 26 2 (some 21)) 26 3 (some 5))) Q := by
  unfold rs_X_byHeart_72 at h
  cases hx_33 : rs_X_firstWrongTwo 67 I J with
  | none => rw [hx_33] at h; cases h
  | some o =>
    rw [hx_33] at h
    obtain ⟨x_31, I_32⟩ := o
    dsimp only at h
    refine az_E.call (d := 5) (k' := 151) (vs := [.ref 3, .ref 67]) (pc' := 75) (S' := []) (Q1 := fun v s => v = some (.int x_31) ∧ s = (97, I_32, J, (az_u (az_u R 26 2 (some 21)) 26 3 (some 5)))) rfl (az_E.deep (by omega) (re_X_firstWrongTwo_67_5 (J := J) (R := (az_u (az_u R 26 2 (some 21)) 26 3 (some 5))) rfl hx_33 ⟨rfl, rfl⟩)) (fun v s hq => ?_)
    obtain ⟨rfl, rfl⟩ := hq
    show az_E az_F ex 6 107 75 [.ref 3, .int v1, .retAddr 0, .int v3, .int v4, .int v5, .int v6] [.int x_31] (97, I_32, J, (az_u (az_u R 26 2 (some 21)) 26 3 (some 5))) _
    refine az_E.sn 1 (pc' := 77) (L' := [.ref 3, .int v1, .retAddr 0, .int v3, .int v4, .int v5, .int v6]) (S' := [.int (-2 : Int32), .int x_31]) (σ' := (97, I_32, J, (az_u (az_u R 26 2 (some 21)) 26 3 (some 5)))) rfl ?_
    refine az_E.br (c := x_31 = (-2 : Int32)) (tt := 80) (ff := 97) (L' := [.ref 3, .int v1, .retAddr 0, .int v3, .int v4, .int v5, .int v6]) (S' := []) (σ' := (97, I_32, J, (az_u (az_u R 26 2 (some 21)) 26 3 (some 5)))) rfl (fun hc_34 => ?_) (fun hc_34 => ?_)
    · rw [if_pos hc_34] at h
      refine az_E.sn 1 (pc' := 82) (L' := [.ref 3, .int v1, .retAddr 0, .int v3, .int v4, .int v5, .int v6]) (S' := [.int v4]) (σ' := (97, I_32, J, (az_u (az_u R 26 2 (some 21)) 26 3 (some 5)))) rfl ?_
      refine az_E.br (c := v4 = 0) (tt := 85) (ff := 90) (L' := [.ref 3, .int v1, .retAddr 0, .int v3, .int v4, .int v5, .int v6]) (S' := []) (σ' := (97, I_32, J, (az_u (az_u R 26 2 (some 21)) 26 3 (some 5)))) rfl (fun hc_35 => ?_) (fun hc_35 => ?_)
      · rw [if_pos hc_35] at h
        refine az_E.sn 6 (pc' := 49) (L' := [.ref 3, .int v1, .retAddr 0, .int v3, .int (v4 + (1 : Int32)), .int v6, .int (v6 + (1 : Int32))]) (S' := []) (σ' := (97, I_32, J, (az_u (az_u R 26 2 (some 21)) 26 3 (some 5)))) rfl ?_
        have h := Option.some.inj h
        subst h
        exact az_E.forget (L := [.ref 3, .int v1, .retAddr 0, .int v3, .int (v4 + (1 : Int32)), .int v6, .int (v6 + (1 : Int32))]) ⟨rfl, rfl, trivial, rfl, rfl, rfl, rfl, trivial⟩ hQ
      · rw [if_neg hc_35] at h
        refine az_E.sn 5 (pc' := 49) (L' := [.ref 3, .int v1, .retAddr 0, .int v3, .int (v4 + (1 : Int32)), .int v5, .int (v6 + (1 : Int32))]) (S' := []) (σ' := (97, I_32, J, (az_u (az_u R 26 2 (some 21)) 26 3 (some 5)))) rfl ?_
        have h := Option.some.inj h
        subst h
        exact az_E.forget (L := [.ref 3, .int v1, .retAddr 0, .int v3, .int (v4 + (1 : Int32)), .int v5, .int (v6 + (1 : Int32))]) ⟨rfl, rfl, trivial, rfl, rfl, rfl, rfl, trivial⟩ hQ
    · rw [if_neg hc_34] at h
      refine az_E.sn 2 (pc' := 49) (L' := [.ref 3, .int v1, .retAddr 0, .int v3, .int v4, .int v5, .int (v6 + (1 : Int32))]) (S' := []) (σ' := (97, I_32, J, (az_u (az_u R 26 2 (some 21)) 26 3 (some 5)))) rfl ?_
      have h := Option.some.inj h
      subst h
      exact az_E.forget (L := [.ref 3, .int v1, .retAddr 0, .int v3, .int v4, .int v5, .int (v6 + (1 : Int32))]) ⟨rfl, rfl, trivial, rfl, rfl, rfl, rfl, trivial⟩ hQ
set_option maxRecDepth 100000 in
set_option maxHeartbeats 4000000 in
theorem re_X_byHeart_72_21_16_69 {ex : az_X} {I : Nat → Nat → Int32} {J : Nat → Nat → Int64} {R : Nat → Nat → Option Nat} {v1 : Int32} {v3 : Int32} {v4 : Int32} {v5 : Int32} {v6 : Int32} (hR_3_2 : R 3 2 = some 21) (hR_3_3 : R 3 3 = some 16) {x : ((Int32 × Int32 × Int32 × (Nat → Nat → Int32)) ⊕ (Int32 × (Nat → Nat → Int32)))} (h : rs_X_byHeart_72 16 21 69 I J v1 v3 v4 v5 v6 = some x) {Q : Option Value → az_S → Prop} (hQ : Sum.elim (fun s => az_E az_F ex 6 107 49 [.ref 3, .int v1, .retAddr 0, .int v3, .int s.1, .int s.2.1, .int s.2.2.1] [] (97, s.2.2.2, J, (az_u (az_u R 26 2 (some 21)) 26 3 (some 5))) Q) (fun x => ∀ R' : Nat → Nat → Option Nat, R' 3 2 = some 21 → R' 3 3 = some 16 → Q (some (.int x.1)) (97, x.2, J, R')) x) : az_E az_F ex 6 107 72 [.ref 3, .int v1, .retAddr 0, .int v3, .int v4, .int v5, .int v6] [.ref 69, .ref 3] (97, I, J, (az_u (az_u R 26 2 (some 21)) 26 3 (some 5))) Q := by
  unfold rs_X_byHeart_72 at h
  cases hx_38 : rs_X_firstWrongTwo 69 I J with
  | none => rw [hx_38] at h; cases h
  | some o =>
    rw [hx_38] at h
    obtain ⟨x_36, I_37⟩ := o
    dsimp only at h
    refine az_E.call (d := 5) (k' := 151) (vs := [.ref 3, .ref 69]) (pc' := 75) (S' := []) (Q1 := fun v s => v = some (.int x_36) ∧ s = (97, I_37, J, (az_u (az_u R 26 2 (some 21)) 26 3 (some 5)))) rfl (az_E.deep (by omega) (re_X_firstWrongTwo_69_5 (J := J) (R := (az_u (az_u R 26 2 (some 21)) 26 3 (some 5))) rfl hx_38 ⟨rfl, rfl⟩)) (fun v s hq => ?_)
    obtain ⟨rfl, rfl⟩ := hq
    show az_E az_F ex 6 107 75 [.ref 3, .int v1, .retAddr 0, .int v3, .int v4, .int v5, .int v6] [.int x_36] (97, I_37, J, (az_u (az_u R 26 2 (some 21)) 26 3 (some 5))) _
    refine az_E.sn 1 (pc' := 77) (L' := [.ref 3, .int v1, .retAddr 0, .int v3, .int v4, .int v5, .int v6]) (S' := [.int (-2 : Int32), .int x_36]) (σ' := (97, I_37, J, (az_u (az_u R 26 2 (some 21)) 26 3 (some 5)))) rfl ?_
    refine az_E.br (c := x_36 = (-2 : Int32)) (tt := 80) (ff := 97) (L' := [.ref 3, .int v1, .retAddr 0, .int v3, .int v4, .int v5, .int v6]) (S' := []) (σ' := (97, I_37, J, (az_u (az_u R 26 2 (some 21)) 26 3 (some 5)))) rfl (fun hc_39 => ?_) (fun hc_39 => ?_)
    · rw [if_pos hc_39] at h
      refine az_E.sn 1 (pc' := 82) (L' := [.ref 3, .int v1, .retAddr 0, .int v3, .int v4, .int v5, .int v6]) (S' := [.int v4]) (σ' := (97, I_37, J, (az_u (az_u R 26 2 (some 21)) 26 3 (some 5)))) rfl ?_
      refine az_E.br (c := v4 = 0) (tt := 85) (ff := 90) (L' := [.ref 3, .int v1, .retAddr 0, .int v3, .int v4, .int v5, .int v6]) (S' := []) (σ' := (97, I_37, J, (az_u (az_u R 26 2 (some 21)) 26 3 (some 5)))) rfl (fun hc_40 => ?_) (fun hc_40 => ?_)
      · rw [if_pos hc_40] at h
        refine az_E.sn 6 (pc' := 49) (L' := [.ref 3, .int v1, .retAddr 0, .int v3, .int (v4 + (1 : Int32)), .int v6, .int (v6 + (1 : Int32))]) (S' := []) (σ' := (97, I_37, J, (az_u (az_u R 26 2 (some 21)) 26 3 (some 5)))) rfl ?_
        have h := Option.some.inj h
        subst h
        exact az_E.forget (L := [.ref 3, .int v1, .retAddr 0, .int v3, .int (v4 + (1 : Int32)), .int v6, .int (v6 + (1 : Int32))]) ⟨rfl, rfl, trivial, rfl, rfl, rfl, rfl, trivial⟩ hQ
      · rw [if_neg hc_40] at h
        refine az_E.sn 5 (pc' := 49) (L' := [.ref 3, .int v1, .retAddr 0, .int v3, .int (v4 + (1 : Int32)), .int v5, .int (v6 + (1 : Int32))]) (S' := []) (σ' := (97, I_37, J, (az_u (az_u R 26 2 (some 21)) 26 3 (some 5)))) rfl ?_
        have h := Option.some.inj h
        subst h
        exact az_E.forget (L := [.ref 3, .int v1, .retAddr 0, .int v3, .int (v4 + (1 : Int32)), .int v5, .int (v6 + (1 : Int32))]) ⟨rfl, rfl, trivial, rfl, rfl, rfl, rfl, trivial⟩ hQ
    · rw [if_neg hc_39] at h
      refine az_E.sn 2 (pc' := 49) (L' := [.ref 3, .int v1, .retAddr 0, .int v3, .int v4, .int v5, .int (v6 + (1 : Int32))]) (S' := []) (σ' := (97, I_37, J, (az_u (az_u R 26 2 (some 21)) 26 3 (some 5)))) rfl ?_
      have h := Option.some.inj h
      subst h
      exact az_E.forget (L := [.ref 3, .int v1, .retAddr 0, .int v3, .int v4, .int v5, .int (v6 + (1 : Int32))]) ⟨rfl, rfl, trivial, rfl, rfl, rfl, rfl, trivial⟩ hQ
set_option maxRecDepth 100000 in
set_option maxHeartbeats 4000000 in
theorem re_X_byHeart_72_21_16_71 {ex : az_X} {I : Nat → Nat → Int32} {J : Nat → Nat → Int64} {R : Nat → Nat → Option Nat} {v1 : Int32} {v3 : Int32} {v4 : Int32} {v5 : Int32} {v6 : Int32} (hR_3_2 : R 3 2 = some 21) (hR_3_3 : R 3 3 = some 16) {x : ((Int32 × Int32 × Int32 × (Nat → Nat → Int32)) ⊕ (Int32 × (Nat → Nat → Int32)))} (h : rs_X_byHeart_72 16 21 71 I J v1 v3 v4 v5 v6 = some x) {Q : Option Value → az_S → Prop} (hQ : Sum.elim (fun s => az_E az_F ex 6 107 49 [.ref 3, .int v1, .retAddr 0, .int v3, .int s.1, .int s.2.1, .int s.2.2.1] [] (97, s.2.2.2, J, (az_u (az_u R 26 2 (some 21)) 26 3 (some 5))) Q) (fun x => ∀ R' : Nat → Nat → Option Nat, R' 3 2 = some 21 → R' 3 3 = some 16 → Q (some (.int x.1)) (97, x.2, J, R')) x) : az_E az_F ex 6 107 72 [.ref 3, .int v1, .retAddr 0, .int v3, .int v4, .int v5, .int v6] [.ref 71, .ref 3] (97, I, J, (az_u (az_u R 26 2 (some 21)) 26 3 (some 5))) Q := by
  unfold rs_X_byHeart_72 at h
  cases hx_43 : rs_X_firstWrongTwo 71 I J with
  | none => rw [hx_43] at h; cases h
  | some o =>
    rw [hx_43] at h
    obtain ⟨x_41, I_42⟩ := o
    dsimp only at h
    refine az_E.call (d := 5) (k' := 151) (vs := [.ref 3, .ref 71]) (pc' := 75) (S' := []) (Q1 := fun v s => v = some (.int x_41) ∧ s = (97, I_42, J, (az_u (az_u R 26 2 (some 21)) 26 3 (some 5)))) rfl (az_E.deep (by omega) (re_X_firstWrongTwo_71_5 (J := J) (R := (az_u (az_u R 26 2 (some 21)) 26 3 (some 5))) rfl hx_43 ⟨rfl, rfl⟩)) (fun v s hq => ?_)
    obtain ⟨rfl, rfl⟩ := hq
    show az_E az_F ex 6 107 75 [.ref 3, .int v1, .retAddr 0, .int v3, .int v4, .int v5, .int v6] [.int x_41] (97, I_42, J, (az_u (az_u R 26 2 (some 21)) 26 3 (some 5))) _
    refine az_E.sn 1 (pc' := 77) (L' := [.ref 3, .int v1, .retAddr 0, .int v3, .int v4, .int v5, .int v6]) (S' := [.int (-2 : Int32), .int x_41]) (σ' := (97, I_42, J, (az_u (az_u R 26 2 (some 21)) 26 3 (some 5)))) rfl ?_
    refine az_E.br (c := x_41 = (-2 : Int32)) (tt := 80) (ff := 97) (L' := [.ref 3, .int v1, .retAddr 0, .int v3, .int v4, .int v5, .int v6]) (S' := []) (σ' := (97, I_42, J, (az_u (az_u R 26 2 (some 21)) 26 3 (some 5)))) rfl (fun hc_44 => ?_) (fun hc_44 => ?_)
    · rw [if_pos hc_44] at h
      refine az_E.sn 1 (pc' := 82) (L' := [.ref 3, .int v1, .retAddr 0, .int v3, .int v4, .int v5, .int v6]) (S' := [.int v4]) (σ' := (97, I_42, J, (az_u (az_u R 26 2 (some 21)) 26 3 (some 5)))) rfl ?_
      refine az_E.br (c := v4 = 0) (tt := 85) (ff := 90) (L' := [.ref 3, .int v1, .retAddr 0, .int v3, .int v4, .int v5, .int v6]) (S' := []) (σ' := (97, I_42, J, (az_u (az_u R 26 2 (some 21)) 26 3 (some 5)))) rfl (fun hc_45 => ?_) (fun hc_45 => ?_)
      · rw [if_pos hc_45] at h
        refine az_E.sn 6 (pc' := 49) (L' := [.ref 3, .int v1, .retAddr 0, .int v3, .int (v4 + (1 : Int32)), .int v6, .int (v6 + (1 : Int32))]) (S' := []) (σ' := (97, I_42, J, (az_u (az_u R 26 2 (some 21)) 26 3 (some 5)))) rfl ?_
        have h := Option.some.inj h
        subst h
        exact az_E.forget (L := [.ref 3, .int v1, .retAddr 0, .int v3, .int (v4 + (1 : Int32)), .int v6, .int (v6 + (1 : Int32))]) ⟨rfl, rfl, trivial, rfl, rfl, rfl, rfl, trivial⟩ hQ
      · rw [if_neg hc_45] at h
        refine az_E.sn 5 (pc' := 49) (L' := [.ref 3, .int v1, .retAddr 0, .int v3, .int (v4 + (1 : Int32)), .int v5, .int (v6 + (1 : Int32))]) (S' := []) (σ' := (97, I_42, J, (az_u (az_u R 26 2 (some 21)) 26 3 (some 5)))) rfl ?_
        have h := Option.some.inj h
        subst h
        exact az_E.forget (L := [.ref 3, .int v1, .retAddr 0, .int v3, .int (v4 + (1 : Int32)), .int v5, .int (v6 + (1 : Int32))]) ⟨rfl, rfl, trivial, rfl, rfl, rfl, rfl, trivial⟩ hQ
    · rw [if_neg hc_44] at h
      refine az_E.sn 2 (pc' := 49) (L' := [.ref 3, .int v1, .retAddr 0, .int v3, .int v4, .int v5, .int (v6 + (1 : Int32))]) (S' := []) (σ' := (97, I_42, J, (az_u (az_u R 26 2 (some 21)) 26 3 (some 5)))) rfl ?_
      have h := Option.some.inj h
      subst h
      exact az_E.forget (L := [.ref 3, .int v1, .retAddr 0, .int v3, .int v4, .int v5, .int (v6 + (1 : Int32))]) ⟨rfl, rfl, trivial, rfl, rfl, rfl, rfl, trivial⟩ hQ
set_option maxRecDepth 100000 in
set_option maxHeartbeats 4000000 in
theorem re_X_byHeart_49_b_21_16 {ex : az_X} {I : Nat → Nat → Int32} {J : Nat → Nat → Int64} {R : Nat → Nat → Option Nat} {v1 : Int32} {v3 : Int32} {v4 : Int32} {v5 : Int32} {v6 : Int32} (hR_3_2 : R 3 2 = some 21) (hR_3_3 : R 3 3 = some 16) {x : ((Int32 × Int32 × Int32 × (Nat → Nat → Int32)) ⊕ (Int32 × (Nat → Nat → Int32)))} (h : rs_X_byHeart_49_b 16 21 J v1 v3 v4 v5 v6 I = some x) {Q : Option Value → az_S → Prop} (hQ : Sum.elim (fun s => az_E az_F ex 6 107 49 [.ref 3, .int v1, .retAddr 0, .int v3, .int s.1, .int s.2.1, .int s.2.2.1] [] (97, s.2.2.2, J, (az_u (az_u R 26 2 (some 21)) 26 3 (some 5))) Q) (fun x => ∀ R' : Nat → Nat → Option Nat, R' 3 2 = some 21 → R' 3 3 = some 16 → Q (some (.int x.1)) (97, x.2, J, R')) x) : az_E az_F ex 6 107 49 [.ref 3, .int v1, .retAddr 0, .int v3, .int v4, .int v5, .int v6] [] (97, I, J, (az_u (az_u R 26 2 (some 21)) 26 3 (some 5))) Q := by
  unfold rs_X_byHeart_49_b at h
  refine az_E.sn 2 (pc' := 53) (L' := [.ref 3, .int v1, .retAddr 0, .int v3, .int v4, .int v5, .int v6]) (S' := [.int (9 : Int32), .int v6]) (σ' := (97, I, J, (az_u (az_u R 26 2 (some 21)) 26 3 (some 5)))) rfl ?_
  refine az_E.br (c := (9 : Int32) < v6) (tt := 103) (ff := 56) (L' := [.ref 3, .int v1, .retAddr 0, .int v3, .int v4, .int v5, .int v6]) (S' := []) (σ' := (97, I, J, (az_u (az_u R 26 2 (some 21)) 26 3 (some 5)))) rfl (fun hc_11 => ?_) (fun hc_11 => ?_)
  · rw [if_pos hc_11] at h
    obtain ⟨x, hx, rfl⟩ := Option.map_eq_some_iff.mp h
    exact az_E.forget (L := [.retAddr 0, .retAddr 0, .retAddr 0, .int v3, .int v4, .int v5, .retAddr 0]) ⟨trivial, trivial, trivial, rfl, rfl, rfl, trivial, trivial⟩ (re_X_byHeart_103_21_16 (I := I) (J := J) (R := R) hR_3_2 hR_3_3 hx hQ)
  · rw [if_neg hc_11] at h
    refine az_E.sn 3 (pc' := 62) (L' := [.ref 3, .int v1, .retAddr 0, .int v3, .int v4, .int v5, .int v6]) (S' := [.int v6, .ref 26]) (σ' := (97, I, J, (az_u (az_u R 26 2 (some 21)) 26 3 (some 5)))) rfl ?_
    cases hx_14 : rs_Pa_withHeart 26 21 I v6 with
    | none => rw [hx_14] at h; cases h
    | some I_13 =>
      rw [hx_14] at h
      dsimp only at h
      refine az_E.call (d := 5) (k' := 44) (vs := [.ref 26, .int v6]) (pc' := 65) (S' := []) (Q1 := fun v s => v = none ∧ s = (97, I_13, J, (az_u (az_u R 26 2 (some 21)) 26 3 (some 5)))) rfl (az_E.deep (by omega) (re_Pa_withHeart_26_21 (J := J) (R := (az_u (az_u R 26 2 (some 21)) 26 3 (some 5))) rfl hx_14 ⟨rfl, rfl⟩)) (fun v s hq => ?_)
      obtain ⟨rfl, rfl⟩ := hq
      show az_E az_F ex 6 107 65 [.ref 3, .int v1, .retAddr 0, .int v3, .int v4, .int v5, .int v6] [] (97, I_13, J, (az_u (az_u R 26 2 (some 21)) 26 3 (some 5))) _
      refine az_E.sn 4 (pc' := 71) (L' := [.ref 3, .int v1, .retAddr 0, .int v3, .int v4, .int v5, .int v6]) (S' := [.int v1, .ref 58, .ref 3]) (σ' := (97, I_13, J, (az_u (az_u R 26 2 (some 21)) 26 3 (some 5)))) rfl ?_
      by_cases hc_15 : v1 < 0 ∨ 6 ≤ v1.toNatClampNeg
      · rw [if_pos hc_15] at h; cases h
      · rw [if_neg hc_15] at h
        rcases az_six hc_15 with ehc_15 | ehc_15 | ehc_15 | ehc_15 | ehc_15 | ehc_15
        · rw [ehc_15] at h ⊢; (try rw [ehc_15] at hQ)
          refine az_E.ov (pc' := 72) (L' := [.ref 3, .int (0 : Int32), .retAddr 0, .int v3, .int v4, .int v5, .int v6]) (S' := [.ref 3]) (σ' := (97, I_13, J, (az_u (az_u R 26 2 (some 21)) 26 3 (some 5)))) (x := .ref 61) (o := az_aa az_F (97, I_13, J, (az_u (az_u R 26 2 (some 21)) 26 3 (some 5))) 58 (0 : Int32)) rfl rfl ?_
          exact az_E.forget (L := [.ref 3, .int (0 : Int32), .retAddr 0, .int v3, .int v4, .int v5, .int v6]) ⟨rfl, rfl, trivial, rfl, rfl, rfl, rfl, trivial⟩ (re_X_byHeart_72_21_16_61 (I := I_13) (J := J) (R := R) hR_3_2 hR_3_3 h hQ)
        · rw [ehc_15] at h ⊢; (try rw [ehc_15] at hQ)
          refine az_E.ov (pc' := 72) (L' := [.ref 3, .int (1 : Int32), .retAddr 0, .int v3, .int v4, .int v5, .int v6]) (S' := [.ref 3]) (σ' := (97, I_13, J, (az_u (az_u R 26 2 (some 21)) 26 3 (some 5)))) (x := .ref 63) (o := az_aa az_F (97, I_13, J, (az_u (az_u R 26 2 (some 21)) 26 3 (some 5))) 58 (1 : Int32)) rfl rfl ?_
          exact az_E.forget (L := [.ref 3, .int (1 : Int32), .retAddr 0, .int v3, .int v4, .int v5, .int v6]) ⟨rfl, rfl, trivial, rfl, rfl, rfl, rfl, trivial⟩ (re_X_byHeart_72_21_16_63 (I := I_13) (J := J) (R := R) hR_3_2 hR_3_3 h hQ)
        · rw [ehc_15] at h ⊢; (try rw [ehc_15] at hQ)
          refine az_E.ov (pc' := 72) (L' := [.ref 3, .int (2 : Int32), .retAddr 0, .int v3, .int v4, .int v5, .int v6]) (S' := [.ref 3]) (σ' := (97, I_13, J, (az_u (az_u R 26 2 (some 21)) 26 3 (some 5)))) (x := .ref 65) (o := az_aa az_F (97, I_13, J, (az_u (az_u R 26 2 (some 21)) 26 3 (some 5))) 58 (2 : Int32)) rfl rfl ?_
          exact az_E.forget (L := [.ref 3, .int (2 : Int32), .retAddr 0, .int v3, .int v4, .int v5, .int v6]) ⟨rfl, rfl, trivial, rfl, rfl, rfl, rfl, trivial⟩ (re_X_byHeart_72_21_16_65 (I := I_13) (J := J) (R := R) hR_3_2 hR_3_3 h hQ)
        · rw [ehc_15] at h ⊢; (try rw [ehc_15] at hQ)
          refine az_E.ov (pc' := 72) (L' := [.ref 3, .int (3 : Int32), .retAddr 0, .int v3, .int v4, .int v5, .int v6]) (S' := [.ref 3]) (σ' := (97, I_13, J, (az_u (az_u R 26 2 (some 21)) 26 3 (some 5)))) (x := .ref 67) (o := az_aa az_F (97, I_13, J, (az_u (az_u R 26 2 (some 21)) 26 3 (some 5))) 58 (3 : Int32)) rfl rfl ?_
          exact az_E.forget (L := [.ref 3, .int (3 : Int32), .retAddr 0, .int v3, .int v4, .int v5, .int v6]) ⟨rfl, rfl, trivial, rfl, rfl, rfl, rfl, trivial⟩ (re_X_byHeart_72_21_16_67 (I := I_13) (J := J) (R := R) hR_3_2 hR_3_3 h hQ)
        · rw [ehc_15] at h ⊢; (try rw [ehc_15] at hQ)
          refine az_E.ov (pc' := 72) (L' := [.ref 3, .int (4 : Int32), .retAddr 0, .int v3, .int v4, .int v5, .int v6]) (S' := [.ref 3]) (σ' := (97, I_13, J, (az_u (az_u R 26 2 (some 21)) 26 3 (some 5)))) (x := .ref 69) (o := az_aa az_F (97, I_13, J, (az_u (az_u R 26 2 (some 21)) 26 3 (some 5))) 58 (4 : Int32)) rfl rfl ?_
          exact az_E.forget (L := [.ref 3, .int (4 : Int32), .retAddr 0, .int v3, .int v4, .int v5, .int v6]) ⟨rfl, rfl, trivial, rfl, rfl, rfl, rfl, trivial⟩ (re_X_byHeart_72_21_16_69 (I := I_13) (J := J) (R := R) hR_3_2 hR_3_3 h hQ)
        · rw [ehc_15] at h ⊢; (try rw [ehc_15] at hQ)
          refine az_E.ov (pc' := 72) (L' := [.ref 3, .int (5 : Int32), .retAddr 0, .int v3, .int v4, .int v5, .int v6]) (S' := [.ref 3]) (σ' := (97, I_13, J, (az_u (az_u R 26 2 (some 21)) 26 3 (some 5)))) (x := .ref 71) (o := az_aa az_F (97, I_13, J, (az_u (az_u R 26 2 (some 21)) 26 3 (some 5))) 58 (5 : Int32)) rfl rfl ?_
          exact az_E.forget (L := [.ref 3, .int (5 : Int32), .retAddr 0, .int v3, .int v4, .int v5, .int v6]) ⟨rfl, rfl, trivial, rfl, rfl, rfl, rfl, trivial⟩ (re_X_byHeart_72_21_16_71 (I := I_13) (J := J) (R := R) hR_3_2 hR_3_3 h hQ)
set_option maxRecDepth 100000 in
set_option maxHeartbeats 4000000 in
theorem re_X_byHeart_49_21_16 {ex : az_X} {I : Nat → Nat → Int32} {J : Nat → Nat → Int64} {R : Nat → Nat → Option Nat} {v1 : Int32} {v3 : Int32} {v4 : Int32} {v5 : Int32} {v6 : Int32} (hR_3_2 : R 3 2 = some 21) (hR_3_3 : R 3 3 = some 16) {x : Int32 × (Nat → Nat → Int32)} (h : rs_X_byHeart_49 16 21 I J v1 v3 v4 v5 v6 = some x) {Q : Option Value → az_S → Prop} (hQ : ∀ R' : Nat → Nat → Option Nat, R' 3 2 = some 21 → R' 3 3 = some 16 → Q (some (.int x.1)) (97, x.2, J, R')) : az_E az_F ex 6 107 49 [.ref 3, .int v1, .retAddr 0, .int v3, .int v4, .int v5, .int v6] [] (97, I, J, (az_u (az_u R 26 2 (some 21)) 26 3 (some 5))) Q := by
  unfold rs_X_byHeart_49 at h
  refine az_lp_E (G := fun s => az_E az_F ex 6 107 49 [.ref 3, .int v1, .retAddr 0, .int v3, .int s.1, .int s.2.1, .int s.2.2.1] [] (97, s.2.2.2, J, (az_u (az_u R 26 2 (some 21)) 26 3 (some 5))) Q) (H := fun x => ∀ R' : Nat → Nat → Option Nat, R' 3 2 = some 21 → R' 3 3 = some 16 → Q (some (.int x.1)) (97, x.2, J, R')) (fun s o hb ho => ?_) _ _ _ h hQ
  exact re_X_byHeart_49_b_21_16 hR_3_2 hR_3_3 hb ho
set_option maxRecDepth 100000 in
set_option maxHeartbeats 4000000 in
theorem re_X_byHeart_21_16 {ex : az_X} {I : Nat → Nat → Int32} {J : Nat → Nat → Int64} {R : Nat → Nat → Option Nat} {a1 : Int32} {a2 : Int32} {a3 : Int32} (hR_3_2 : R 3 2 = some 21) (hR_3_3 : R 3 3 = some 16) {o : Int32 × (Nat → Nat → Int32)} (h : rs_X_byHeart 16 21 I J a1 a2 a3 = some o) {Q : Option Value → az_S → Prop} (hQ : ∀ R' : Nat → Nat → Option Nat, R' 3 2 = some 21 → R' 3 3 = some 16 → Q (some (.int o.1)) (97, o.2, J, R')) : az_E az_F ex 6 107 0 [.ref 3, .int a1, .int a2, .int a3, .retAddr 0, .retAddr 0, .retAddr 0] [] (97, I, J, R) Q := by
  unfold rs_X_byHeart at h
  refine az_E.sn 1 (pc' := 1) (L' := [.ref 3, .int a1, .int a2, .int a3, .retAddr 0, .retAddr 0, .retAddr 0]) (S' := [.int a1]) (σ' := (97, I, J, R)) rfl ?_
  refine az_E.call (d := 5) (k' := 137) (vs := [.int a1]) (pc' := 4) (S' := []) rfl ?_ (fun _ _ hq => hq)
  show az_E az_F ex 5 137 0 [.int a1] [] (97, I, J, R) _
  refine az_E.sn 3 (pc' := 3) (L' := [.int a1]) (S' := [.int (5 : Int32), .int (0 : Int32), .int a1]) (σ' := (97, I, J, R)) rfl ?_
  refine az_E.call (d := 4) (k' := 131) (vs := [.int a1, .int (0 : Int32), .int (5 : Int32)]) (pc' := 6) (S' := []) rfl ?_ (fun _ _ hq => hq)
  show az_E az_F ex 4 131 0 [.int a1, .int (0 : Int32), .int (5 : Int32)] [] (97, I, J, R) _
  refine az_E.sn 2 (pc' := 2) (L' := [.int a1, .int (0 : Int32), .int (5 : Int32)]) (S' := [.int (0 : Int32), .int a1]) (σ' := (97, I, J, R)) rfl ?_
  refine az_E.br (c := a1 < (0 : Int32)) (tt := 14) (ff := 5) (L' := [.int a1, .int (0 : Int32), .int (5 : Int32)]) (S' := []) (σ' := (97, I, J, R)) rfl (fun hc_1 => ?_) (fun hc_1 => ?_)
  · rw [if_pos hc_1] at h
    refine az_E.sn 1 (pc' := 15) (L' := [.int a1, .int (0 : Int32), .int (5 : Int32)]) (S' := [.int (0 : Int32)]) (σ' := (97, I, J, R)) rfl ?_
    refine az_E.ret (v := some (.int (0 : Int32))) (σ' := (97, I, J, R)) rfl ?_
    show az_E az_F ex 5 137 6 [.int a1] [.int (0 : Int32)] (97, I, J, R) _
    refine az_E.ret (v := some (.int (0 : Int32))) (σ' := (97, I, J, R)) rfl ?_
    show az_E az_F ex 6 107 4 [.ref 3, .int a1, .int a2, .int a3, .retAddr 0, .retAddr 0, .retAddr 0] [.int (0 : Int32)] (97, I, J, R) _
    refine az_E.br (c := (0 : Int32) = 0) (tt := 30) (ff := 7) (L' := [.ref 3, .int a1, .int a2, .int a3, .retAddr 0, .retAddr 0, .retAddr 0]) (S' := []) (σ' := (97, I, J, R)) rfl (fun _ => ?_) (fun hn => absurd (by decide) hn)
    refine az_E.sn 1 (pc' := 32) (L' := [.ref 3, .int a1, .int a2, .int a3, .retAddr 0, .retAddr 0, .retAddr 0]) (S' := [.int (-2000000000 : Int32)]) (σ' := (97, I, J, R)) rfl ?_
    have h := Option.some.inj h
    subst h
    exact az_E.ret (v := some (.int (-2000000000 : Int32))) (σ' := (97, I, J, R)) rfl (hQ _ hR_3_2 hR_3_3)
  · rw [if_neg hc_1] at h
    refine az_E.sn 2 (pc' := 7) (L' := [.int a1, .int (0 : Int32), .int (5 : Int32)]) (S' := [.int (5 : Int32), .int a1]) (σ' := (97, I, J, R)) rfl ?_
    refine az_E.br (c := (5 : Int32) < a1) (tt := 14) (ff := 10) (L' := [.int a1, .int (0 : Int32), .int (5 : Int32)]) (S' := []) (σ' := (97, I, J, R)) rfl (fun hc_2 => ?_) (fun hc_2 => ?_)
    · rw [if_pos hc_2] at h
      refine az_E.sn 1 (pc' := 15) (L' := [.int a1, .int (0 : Int32), .int (5 : Int32)]) (S' := [.int (0 : Int32)]) (σ' := (97, I, J, R)) rfl ?_
      refine az_E.ret (v := some (.int (0 : Int32))) (σ' := (97, I, J, R)) rfl ?_
      show az_E az_F ex 5 137 6 [.int a1] [.int (0 : Int32)] (97, I, J, R) _
      refine az_E.ret (v := some (.int (0 : Int32))) (σ' := (97, I, J, R)) rfl ?_
      show az_E az_F ex 6 107 4 [.ref 3, .int a1, .int a2, .int a3, .retAddr 0, .retAddr 0, .retAddr 0] [.int (0 : Int32)] (97, I, J, R) _
      refine az_E.br (c := (0 : Int32) = 0) (tt := 30) (ff := 7) (L' := [.ref 3, .int a1, .int a2, .int a3, .retAddr 0, .retAddr 0, .retAddr 0]) (S' := []) (σ' := (97, I, J, R)) rfl (fun _ => ?_) (fun hn => absurd (by decide) hn)
      refine az_E.sn 1 (pc' := 32) (L' := [.ref 3, .int a1, .int a2, .int a3, .retAddr 0, .retAddr 0, .retAddr 0]) (S' := [.int (-2000000000 : Int32)]) (σ' := (97, I, J, R)) rfl ?_
      have h := Option.some.inj h
      subst h
      exact az_E.ret (v := some (.int (-2000000000 : Int32))) (σ' := (97, I, J, R)) rfl (hQ _ hR_3_2 hR_3_3)
    · rw [if_neg hc_2] at h
      refine az_E.sn 2 (pc' := 15) (L' := [.int a1, .int (0 : Int32), .int (5 : Int32)]) (S' := [.int (1 : Int32)]) (σ' := (97, I, J, R)) rfl ?_
      refine az_E.ret (v := some (.int (1 : Int32))) (σ' := (97, I, J, R)) rfl ?_
      show az_E az_F ex 5 137 6 [.int a1] [.int (1 : Int32)] (97, I, J, R) _
      refine az_E.ret (v := some (.int (1 : Int32))) (σ' := (97, I, J, R)) rfl ?_
      show az_E az_F ex 6 107 4 [.ref 3, .int a1, .int a2, .int a3, .retAddr 0, .retAddr 0, .retAddr 0] [.int (1 : Int32)] (97, I, J, R) _
      refine az_E.br (c := (1 : Int32) = 0) (tt := 30) (ff := 7) (L' := [.ref 3, .int a1, .int a2, .int a3, .retAddr 0, .retAddr 0, .retAddr 0]) (S' := []) (σ' := (97, I, J, R)) rfl (fun hn => absurd hn (by decide)) (fun _ => ?_)
      refine az_E.sn 2 (pc' := 9) (L' := [.ref 3, .int a1, .int a2, .int a3, .retAddr 0, .retAddr 0, .retAddr 0]) (S' := [.int a2, .ref 3]) (σ' := (97, I, J, R)) rfl ?_
      refine az_E.call (d := 5) (k' := 138) (vs := [.ref 3, .int a2]) (pc' := 12) (S' := []) rfl ?_ (fun _ _ hq => hq)
      show az_E az_F ex 5 138 0 [.ref 3, .int a2] [] (97, I, J, R) _
      refine az_E.sn 7 (pc' := 11) (L' := [.ref 3, .int a2]) (S' := [.int ((I 4 9) - (1 : Int32)), .int (0 : Int32), .int a2]) (σ' := (97, I, J, R)) rfl ?_
      refine az_E.call (d := 4) (k' := 131) (vs := [.int a2, .int (0 : Int32), .int ((I 4 9) - (1 : Int32))]) (pc' := 14) (S' := []) rfl ?_ (fun _ _ hq => hq)
      show az_E az_F ex 4 131 0 [.int a2, .int (0 : Int32), .int ((I 4 9) - (1 : Int32))] [] (97, I, J, R) _
      refine az_E.sn 2 (pc' := 2) (L' := [.int a2, .int (0 : Int32), .int ((I 4 9) - (1 : Int32))]) (S' := [.int (0 : Int32), .int a2]) (σ' := (97, I, J, R)) rfl ?_
      refine az_E.br (c := a2 < (0 : Int32)) (tt := 14) (ff := 5) (L' := [.int a2, .int (0 : Int32), .int ((I 4 9) - (1 : Int32))]) (S' := []) (σ' := (97, I, J, R)) rfl (fun hc_3 => ?_) (fun hc_3 => ?_)
      · rw [if_pos hc_3] at h
        refine az_E.sn 1 (pc' := 15) (L' := [.int a2, .int (0 : Int32), .int ((I 4 9) - (1 : Int32))]) (S' := [.int (0 : Int32)]) (σ' := (97, I, J, R)) rfl ?_
        refine az_E.ret (v := some (.int (0 : Int32))) (σ' := (97, I, J, R)) rfl ?_
        show az_E az_F ex 5 138 14 [.ref 3, .int a2] [.int (0 : Int32)] (97, I, J, R) _
        refine az_E.ret (v := some (.int (0 : Int32))) (σ' := (97, I, J, R)) rfl ?_
        show az_E az_F ex 6 107 12 [.ref 3, .int a1, .int a2, .int a3, .retAddr 0, .retAddr 0, .retAddr 0] [.int (0 : Int32)] (97, I, J, R) _
        refine az_E.br (c := (0 : Int32) = 0) (tt := 30) (ff := 15) (L' := [.ref 3, .int a1, .int a2, .int a3, .retAddr 0, .retAddr 0, .retAddr 0]) (S' := []) (σ' := (97, I, J, R)) rfl (fun _ => ?_) (fun hn => absurd (by decide) hn)
        refine az_E.sn 1 (pc' := 32) (L' := [.ref 3, .int a1, .int a2, .int a3, .retAddr 0, .retAddr 0, .retAddr 0]) (S' := [.int (-2000000000 : Int32)]) (σ' := (97, I, J, R)) rfl ?_
        have h := Option.some.inj h
        subst h
        exact az_E.ret (v := some (.int (-2000000000 : Int32))) (σ' := (97, I, J, R)) rfl (hQ _ hR_3_2 hR_3_3)
      · rw [if_neg hc_3] at h
        refine az_E.sn 2 (pc' := 7) (L' := [.int a2, .int (0 : Int32), .int ((I 4 9) - (1 : Int32))]) (S' := [.int ((I 4 9) - (1 : Int32)), .int a2]) (σ' := (97, I, J, R)) rfl ?_
        refine az_E.br (c := ((I 4 9) - (1 : Int32)) < a2) (tt := 14) (ff := 10) (L' := [.int a2, .int (0 : Int32), .int ((I 4 9) - (1 : Int32))]) (S' := []) (σ' := (97, I, J, R)) rfl (fun hc_4 => ?_) (fun hc_4 => ?_)
        · rw [if_pos hc_4] at h
          refine az_E.sn 1 (pc' := 15) (L' := [.int a2, .int (0 : Int32), .int ((I 4 9) - (1 : Int32))]) (S' := [.int (0 : Int32)]) (σ' := (97, I, J, R)) rfl ?_
          refine az_E.ret (v := some (.int (0 : Int32))) (σ' := (97, I, J, R)) rfl ?_
          show az_E az_F ex 5 138 14 [.ref 3, .int a2] [.int (0 : Int32)] (97, I, J, R) _
          refine az_E.ret (v := some (.int (0 : Int32))) (σ' := (97, I, J, R)) rfl ?_
          show az_E az_F ex 6 107 12 [.ref 3, .int a1, .int a2, .int a3, .retAddr 0, .retAddr 0, .retAddr 0] [.int (0 : Int32)] (97, I, J, R) _
          refine az_E.br (c := (0 : Int32) = 0) (tt := 30) (ff := 15) (L' := [.ref 3, .int a1, .int a2, .int a3, .retAddr 0, .retAddr 0, .retAddr 0]) (S' := []) (σ' := (97, I, J, R)) rfl (fun _ => ?_) (fun hn => absurd (by decide) hn)
          refine az_E.sn 1 (pc' := 32) (L' := [.ref 3, .int a1, .int a2, .int a3, .retAddr 0, .retAddr 0, .retAddr 0]) (S' := [.int (-2000000000 : Int32)]) (σ' := (97, I, J, R)) rfl ?_
          have h := Option.some.inj h
          subst h
          exact az_E.ret (v := some (.int (-2000000000 : Int32))) (σ' := (97, I, J, R)) rfl (hQ _ hR_3_2 hR_3_3)
        · rw [if_neg hc_4] at h
          refine az_E.sn 2 (pc' := 15) (L' := [.int a2, .int (0 : Int32), .int ((I 4 9) - (1 : Int32))]) (S' := [.int (1 : Int32)]) (σ' := (97, I, J, R)) rfl ?_
          refine az_E.ret (v := some (.int (1 : Int32))) (σ' := (97, I, J, R)) rfl ?_
          show az_E az_F ex 5 138 14 [.ref 3, .int a2] [.int (1 : Int32)] (97, I, J, R) _
          refine az_E.ret (v := some (.int (1 : Int32))) (σ' := (97, I, J, R)) rfl ?_
          show az_E az_F ex 6 107 12 [.ref 3, .int a1, .int a2, .int a3, .retAddr 0, .retAddr 0, .retAddr 0] [.int (1 : Int32)] (97, I, J, R) _
          refine az_E.br (c := (1 : Int32) = 0) (tt := 30) (ff := 15) (L' := [.ref 3, .int a1, .int a2, .int a3, .retAddr 0, .retAddr 0, .retAddr 0]) (S' := []) (σ' := (97, I, J, R)) rfl (fun hn => absurd hn (by decide)) (fun _ => ?_)
          refine az_E.sn 1 (pc' := 16) (L' := [.ref 3, .int a1, .int a2, .int a3, .retAddr 0, .retAddr 0, .retAddr 0]) (S' := [.int a3]) (σ' := (97, I, J, R)) rfl ?_
          refine az_E.call (d := 5) (k' := 132) (vs := [.int a3]) (pc' := 19) (S' := []) rfl ?_ (fun _ _ hq => hq)
          show az_E az_F ex 5 132 0 [.int a3] [] (97, I, J, R) _
          refine az_E.sn 1 (pc' := 1) (L' := [.int a3]) (S' := [.int a3]) (σ' := (97, I, J, R)) rfl ?_
          refine az_E.br (c := a3 = 0) (tt := 9) (ff := 4) (L' := [.int a3]) (S' := []) (σ' := (97, I, J, R)) rfl (fun hc_5 => ?_) (fun hc_5 => ?_)
          · rw [if_pos hc_5] at h
            refine az_E.sn 2 (pc' := 14) (L' := [.int a3]) (S' := [.int (1 : Int32)]) (σ' := (97, I, J, R)) rfl ?_
            refine az_E.ret (v := some (.int (1 : Int32))) (σ' := (97, I, J, R)) rfl ?_
            show az_E az_F ex 6 107 19 [.ref 3, .int a1, .int a2, .int a3, .retAddr 0, .retAddr 0, .retAddr 0] [.int (1 : Int32)] (97, I, J, R) _
            refine az_E.br (c := (1 : Int32) = 0) (tt := 30) (ff := 22) (L' := [.ref 3, .int a1, .int a2, .int a3, .retAddr 0, .retAddr 0, .retAddr 0]) (S' := []) (σ' := (97, I, J, R)) rfl (fun hn => absurd hn (by decide)) (fun _ => ?_)
            refine az_E.sn 2 (pc' := 24) (L' := [.ref 3, .int a1, .int a2, .int a3, .retAddr 0, .retAddr 0, .retAddr 0]) (S' := [.int a1, .ref 3]) (σ' := (97, I, J, R)) rfl ?_
            cases hx_7 : rs_X_refusalOfBook I a1 with
            | none => rw [hx_7] at h; cases h
            | some x_6 =>
              rw [hx_7] at h
              dsimp only at h
              refine az_E.call (d := 5) (k' := 150) (vs := [.ref 3, .int a1]) (pc' := 27) (S' := []) (Q1 := fun v s => v = some (.int x_6) ∧ s = (97, I, J, R)) rfl (az_E.deep (by omega) (re_X_refusalOfBook (J := J) (R := R)  hx_7 ⟨rfl, rfl⟩)) (fun v s hq => ?_)
              obtain ⟨rfl, rfl⟩ := hq
              show az_E az_F ex 6 107 27 [.ref 3, .int a1, .int a2, .int a3, .retAddr 0, .retAddr 0, .retAddr 0] [.int x_6] (97, I, J, R) _
              refine az_E.br (c := x_6 = 0) (tt := 33) (ff := 30) (L' := [.ref 3, .int a1, .int a2, .int a3, .retAddr 0, .retAddr 0, .retAddr 0]) (S' := []) (σ' := (97, I, J, R)) rfl (fun hc_8 => ?_) (fun hc_8 => ?_)
              · rw [if_pos hc_8] at h
                refine az_E.sn 2 (pc' := 35) (L' := [.ref 3, .int a1, .int a2, .int a3, .retAddr 0, .retAddr 0, .retAddr 0]) (S' := [.int a2, .ref 3]) (σ' := (97, I, J, R)) rfl ?_
                cases hx_10 : rs_X_setPace 21 I a2 with
                | none => rw [hx_10] at h; cases h
                | some I_9 =>
                  rw [hx_10] at h
                  dsimp only at h
                  refine az_E.call (d := 5) (k' := 144) (vs := [.ref 3, .int a2]) (pc' := 38) (S' := []) (Q1 := fun v s => v = none ∧ s = (97, I_9, J, (az_u (az_u R 26 2 (some 21)) 26 3 (some 5)))) rfl (az_E.deep (by omega) (re_X_setPace_21 (J := J) (R := R) hR_3_2 hx_10 ⟨rfl, rfl⟩)) (fun v s hq => ?_)
                  obtain ⟨rfl, rfl⟩ := hq
                  show az_E az_F ex 6 107 38 [.ref 3, .int a1, .int a2, .int a3, .retAddr 0, .retAddr 0, .retAddr 0] [] (97, I_9, J, (az_u (az_u R 26 2 (some 21)) 26 3 (some 5))) _
                  refine az_E.sn 6 (pc' := 49) (L' := [.ref 3, .int a1, .int a2, .int a3, .int (0 : Int32), .int (-99 : Int32), .int (-9 : Int32)]) (S' := []) (σ' := (97, I_9, J, (az_u (az_u R 26 2 (some 21)) 26 3 (some 5)))) rfl ?_
                  exact az_E.forget (L := [.ref 3, .int a1, .retAddr 0, .int a3, .int (0 : Int32), .int (-99 : Int32), .int (-9 : Int32)]) ⟨rfl, rfl, trivial, rfl, rfl, rfl, rfl, trivial⟩ (re_X_byHeart_49_21_16 (I := I_9) (J := J) (R := R) hR_3_2 hR_3_3 h hQ)
              · rw [if_neg hc_8] at h
                refine az_E.sn 1 (pc' := 32) (L' := [.ref 3, .int a1, .int a2, .int a3, .retAddr 0, .retAddr 0, .retAddr 0]) (S' := [.int (-2000000000 : Int32)]) (σ' := (97, I, J, R)) rfl ?_
                have h := Option.some.inj h
                subst h
                exact az_E.ret (v := some (.int (-2000000000 : Int32))) (σ' := (97, I, J, R)) rfl (hQ _ hR_3_2 hR_3_3)
          · rw [if_neg hc_5] at h
            refine az_E.sn 2 (pc' := 6) (L' := [.int a3]) (S' := [.int (1 : Int32), .int a3]) (σ' := (97, I, J, R)) rfl ?_
            refine az_E.br (c := a3 = (1 : Int32)) (tt := 9) (ff := 13) (L' := [.int a3]) (S' := []) (σ' := (97, I, J, R)) rfl (fun hc_46 => ?_) (fun hc_46 => ?_)
            · rw [if_pos hc_46] at h
              refine az_E.sn 2 (pc' := 14) (L' := [.int a3]) (S' := [.int (1 : Int32)]) (σ' := (97, I, J, R)) rfl ?_
              refine az_E.ret (v := some (.int (1 : Int32))) (σ' := (97, I, J, R)) rfl ?_
              show az_E az_F ex 6 107 19 [.ref 3, .int a1, .int a2, .int a3, .retAddr 0, .retAddr 0, .retAddr 0] [.int (1 : Int32)] (97, I, J, R) _
              refine az_E.br (c := (1 : Int32) = 0) (tt := 30) (ff := 22) (L' := [.ref 3, .int a1, .int a2, .int a3, .retAddr 0, .retAddr 0, .retAddr 0]) (S' := []) (σ' := (97, I, J, R)) rfl (fun hn => absurd hn (by decide)) (fun _ => ?_)
              refine az_E.sn 2 (pc' := 24) (L' := [.ref 3, .int a1, .int a2, .int a3, .retAddr 0, .retAddr 0, .retAddr 0]) (S' := [.int a1, .ref 3]) (σ' := (97, I, J, R)) rfl ?_
              cases hx_48 : rs_X_refusalOfBook I a1 with
              | none => rw [hx_48] at h; cases h
              | some x_47 =>
                rw [hx_48] at h
                dsimp only at h
                refine az_E.call (d := 5) (k' := 150) (vs := [.ref 3, .int a1]) (pc' := 27) (S' := []) (Q1 := fun v s => v = some (.int x_47) ∧ s = (97, I, J, R)) rfl (az_E.deep (by omega) (re_X_refusalOfBook (J := J) (R := R)  hx_48 ⟨rfl, rfl⟩)) (fun v s hq => ?_)
                obtain ⟨rfl, rfl⟩ := hq
                show az_E az_F ex 6 107 27 [.ref 3, .int a1, .int a2, .int a3, .retAddr 0, .retAddr 0, .retAddr 0] [.int x_47] (97, I, J, R) _
                refine az_E.br (c := x_47 = 0) (tt := 33) (ff := 30) (L' := [.ref 3, .int a1, .int a2, .int a3, .retAddr 0, .retAddr 0, .retAddr 0]) (S' := []) (σ' := (97, I, J, R)) rfl (fun hc_49 => ?_) (fun hc_49 => ?_)
                · rw [if_pos hc_49] at h
                  refine az_E.sn 2 (pc' := 35) (L' := [.ref 3, .int a1, .int a2, .int a3, .retAddr 0, .retAddr 0, .retAddr 0]) (S' := [.int a2, .ref 3]) (σ' := (97, I, J, R)) rfl ?_
                  cases hx_51 : rs_X_setPace 21 I a2 with
                  | none => rw [hx_51] at h; cases h
                  | some I_50 =>
                    rw [hx_51] at h
                    dsimp only at h
                    refine az_E.call (d := 5) (k' := 144) (vs := [.ref 3, .int a2]) (pc' := 38) (S' := []) (Q1 := fun v s => v = none ∧ s = (97, I_50, J, (az_u (az_u R 26 2 (some 21)) 26 3 (some 5)))) rfl (az_E.deep (by omega) (re_X_setPace_21 (J := J) (R := R) hR_3_2 hx_51 ⟨rfl, rfl⟩)) (fun v s hq => ?_)
                    obtain ⟨rfl, rfl⟩ := hq
                    show az_E az_F ex 6 107 38 [.ref 3, .int a1, .int a2, .int a3, .retAddr 0, .retAddr 0, .retAddr 0] [] (97, I_50, J, (az_u (az_u R 26 2 (some 21)) 26 3 (some 5))) _
                    refine az_E.sn 6 (pc' := 49) (L' := [.ref 3, .int a1, .int a2, .int a3, .int (0 : Int32), .int (-99 : Int32), .int (-9 : Int32)]) (S' := []) (σ' := (97, I_50, J, (az_u (az_u R 26 2 (some 21)) 26 3 (some 5)))) rfl ?_
                    exact az_E.forget (L := [.ref 3, .int a1, .retAddr 0, .int a3, .int (0 : Int32), .int (-99 : Int32), .int (-9 : Int32)]) ⟨rfl, rfl, trivial, rfl, rfl, rfl, rfl, trivial⟩ (re_X_byHeart_49_21_16 (I := I_50) (J := J) (R := R) hR_3_2 hR_3_3 h hQ)
                · rw [if_neg hc_49] at h
                  refine az_E.sn 1 (pc' := 32) (L' := [.ref 3, .int a1, .int a2, .int a3, .retAddr 0, .retAddr 0, .retAddr 0]) (S' := [.int (-2000000000 : Int32)]) (σ' := (97, I, J, R)) rfl ?_
                  have h := Option.some.inj h
                  subst h
                  exact az_E.ret (v := some (.int (-2000000000 : Int32))) (σ' := (97, I, J, R)) rfl (hQ _ hR_3_2 hR_3_3)
            · rw [if_neg hc_46] at h
              refine az_E.sn 1 (pc' := 14) (L' := [.int a3]) (S' := [.int (0 : Int32)]) (σ' := (97, I, J, R)) rfl ?_
              refine az_E.ret (v := some (.int (0 : Int32))) (σ' := (97, I, J, R)) rfl ?_
              show az_E az_F ex 6 107 19 [.ref 3, .int a1, .int a2, .int a3, .retAddr 0, .retAddr 0, .retAddr 0] [.int (0 : Int32)] (97, I, J, R) _
              refine az_E.br (c := (0 : Int32) = 0) (tt := 30) (ff := 22) (L' := [.ref 3, .int a1, .int a2, .int a3, .retAddr 0, .retAddr 0, .retAddr 0]) (S' := []) (σ' := (97, I, J, R)) rfl (fun _ => ?_) (fun hn => absurd (by decide) hn)
              refine az_E.sn 1 (pc' := 32) (L' := [.ref 3, .int a1, .int a2, .int a3, .retAddr 0, .retAddr 0, .retAddr 0]) (S' := [.int (-2000000000 : Int32)]) (σ' := (97, I, J, R)) rfl ?_
              have h := Option.some.inj h
              subst h
              exact az_E.ret (v := some (.int (-2000000000 : Int32))) (σ' := (97, I, J, R)) rfl (hQ _ hR_3_2 hR_3_3)
set_option maxRecDepth 100000 in
set_option maxHeartbeats 4000000 in
theorem re_X_whose_51_21_16_61 {ex : az_X} {I : Nat → Nat → Int32} {J : Nat → Nat → Int64} {R : Nat → Nat → Option Nat} {v1 : Int32} {v3 : Int32} {v4 : Int32} (hR_3_2 : R 3 2 = some 21) (hR_3_3 : R 3 3 = some 16) {x : ((Int32 × Int32 × (Nat → Nat → Int32)) ⊕ (Int32 × (Nat → Nat → Int32)))} (h : rs_X_whose_51 16 21 61 I J v1 v3 v4 = some x) {Q : Option Value → az_S → Prop} (hQ : Sum.elim (fun s => ∀ R : Nat → Nat → Option Nat, R 3 2 = some 21 → R 3 3 = some 16 → az_E az_F ex 6 108 26 [.ref 3, .int v1, .retAddr 0, .int s.1, .int s.2.1] [] (97, s.2.2, J, R) Q) (fun x => ∀ R' : Nat → Nat → Option Nat, R' 3 2 = some 21 → R' 3 3 = some 16 → Q (some (.int x.1)) (97, x.2, J, R')) x) : az_E az_F ex 6 108 51 [.ref 3, .int v1, .retAddr 0, .int v3, .int v4] [.ref 61, .ref 3] (97, I, J, (az_u (az_u R 26 2 (some 21)) 26 3 (some 5))) Q := by
  unfold rs_X_whose_51 at h
  cases hx_12 : rs_X_firstWrongTwo 61 I J with
  | none => rw [hx_12] at h; cases h
  | some o =>
    rw [hx_12] at h
    obtain ⟨x_10, I_11⟩ := o
    dsimp only at h
    refine az_E.call (d := 5) (k' := 151) (vs := [.ref 3, .ref 61]) (pc' := 54) (S' := []) (Q1 := fun v s => v = some (.int x_10) ∧ s = (97, I_11, J, (az_u (az_u R 26 2 (some 21)) 26 3 (some 5)))) rfl (az_E.deep (by omega) (re_X_firstWrongTwo_61_5 (J := J) (R := (az_u (az_u R 26 2 (some 21)) 26 3 (some 5))) rfl hx_12 ⟨rfl, rfl⟩)) (fun v s hq => ?_)
    obtain ⟨rfl, rfl⟩ := hq
    show az_E az_F ex 6 108 54 [.ref 3, .int v1, .retAddr 0, .int v3, .int v4] [.int x_10] (97, I_11, J, (az_u (az_u R 26 2 (some 21)) 26 3 (some 5))) _
    refine az_E.sn 1 (pc' := 56) (L' := [.ref 3, .int v1, .retAddr 0, .int v3, .int v4]) (S' := [.int (-2 : Int32), .int x_10]) (σ' := (97, I_11, J, (az_u (az_u R 26 2 (some 21)) 26 3 (some 5)))) rfl ?_
    refine az_E.br (c := x_10 = (-2 : Int32)) (tt := 59) (ff := 66) (L' := [.ref 3, .int v1, .retAddr 0, .int v3, .int v4]) (S' := []) (σ' := (97, I_11, J, (az_u (az_u R 26 2 (some 21)) 26 3 (some 5)))) rfl (fun hc_13 => ?_) (fun hc_13 => ?_)
    · rw [if_pos hc_13] at h
      refine az_E.sn 8 (pc' := 26) (L' := [.ref 3, .int v1, .retAddr 0, .int (v3 ||| ((1 : Int32) <<< (v4 &&& 31))), .int (v4 + (1 : Int32))]) (S' := []) (σ' := (97, I_11, J, (az_u (az_u R 26 2 (some 21)) 26 3 (some 5)))) rfl ?_
      have h := Option.some.inj h
      subst h
      simp only [Sum.elim_inl, Sum.elim_inr] at hQ
      exact az_E.forget (L := [.ref 3, .int v1, .retAddr 0, .int (v3 ||| ((1 : Int32) <<< (v4 &&& 31))), .int (v4 + (1 : Int32))]) ⟨rfl, rfl, trivial, rfl, rfl, trivial⟩ (hQ (az_u (az_u R 26 2 (some 21)) 26 3 (some 5)) hR_3_2 hR_3_3)
    · rw [if_neg hc_13] at h
      refine az_E.sn 2 (pc' := 26) (L' := [.ref 3, .int v1, .retAddr 0, .int v3, .int (v4 + (1 : Int32))]) (S' := []) (σ' := (97, I_11, J, (az_u (az_u R 26 2 (some 21)) 26 3 (some 5)))) rfl ?_
      have h := Option.some.inj h
      subst h
      simp only [Sum.elim_inl, Sum.elim_inr] at hQ
      exact az_E.forget (L := [.ref 3, .int v1, .retAddr 0, .int v3, .int (v4 + (1 : Int32))]) ⟨rfl, rfl, trivial, rfl, rfl, trivial⟩ (hQ (az_u (az_u R 26 2 (some 21)) 26 3 (some 5)) hR_3_2 hR_3_3)
set_option maxRecDepth 100000 in
set_option maxHeartbeats 4000000 in
theorem re_X_whose_51_21_16_63 {ex : az_X} {I : Nat → Nat → Int32} {J : Nat → Nat → Int64} {R : Nat → Nat → Option Nat} {v1 : Int32} {v3 : Int32} {v4 : Int32} (hR_3_2 : R 3 2 = some 21) (hR_3_3 : R 3 3 = some 16) {x : ((Int32 × Int32 × (Nat → Nat → Int32)) ⊕ (Int32 × (Nat → Nat → Int32)))} (h : rs_X_whose_51 16 21 63 I J v1 v3 v4 = some x) {Q : Option Value → az_S → Prop} (hQ : Sum.elim (fun s => ∀ R : Nat → Nat → Option Nat, R 3 2 = some 21 → R 3 3 = some 16 → az_E az_F ex 6 108 26 [.ref 3, .int v1, .retAddr 0, .int s.1, .int s.2.1] [] (97, s.2.2, J, R) Q) (fun x => ∀ R' : Nat → Nat → Option Nat, R' 3 2 = some 21 → R' 3 3 = some 16 → Q (some (.int x.1)) (97, x.2, J, R')) x) : az_E az_F ex 6 108 51 [.ref 3, .int v1, .retAddr 0, .int v3, .int v4] [.ref 63, .ref 3] (97, I, J, (az_u (az_u R 26 2 (some 21)) 26 3 (some 5))) Q := by
  unfold rs_X_whose_51 at h
  cases hx_16 : rs_X_firstWrongTwo 63 I J with
  | none => rw [hx_16] at h; cases h
  | some o =>
    rw [hx_16] at h
    obtain ⟨x_14, I_15⟩ := o
    dsimp only at h
    refine az_E.call (d := 5) (k' := 151) (vs := [.ref 3, .ref 63]) (pc' := 54) (S' := []) (Q1 := fun v s => v = some (.int x_14) ∧ s = (97, I_15, J, (az_u (az_u R 26 2 (some 21)) 26 3 (some 5)))) rfl (az_E.deep (by omega) (re_X_firstWrongTwo_63_5 (J := J) (R := (az_u (az_u R 26 2 (some 21)) 26 3 (some 5))) rfl hx_16 ⟨rfl, rfl⟩)) (fun v s hq => ?_)
    obtain ⟨rfl, rfl⟩ := hq
    show az_E az_F ex 6 108 54 [.ref 3, .int v1, .retAddr 0, .int v3, .int v4] [.int x_14] (97, I_15, J, (az_u (az_u R 26 2 (some 21)) 26 3 (some 5))) _
    refine az_E.sn 1 (pc' := 56) (L' := [.ref 3, .int v1, .retAddr 0, .int v3, .int v4]) (S' := [.int (-2 : Int32), .int x_14]) (σ' := (97, I_15, J, (az_u (az_u R 26 2 (some 21)) 26 3 (some 5)))) rfl ?_
    refine az_E.br (c := x_14 = (-2 : Int32)) (tt := 59) (ff := 66) (L' := [.ref 3, .int v1, .retAddr 0, .int v3, .int v4]) (S' := []) (σ' := (97, I_15, J, (az_u (az_u R 26 2 (some 21)) 26 3 (some 5)))) rfl (fun hc_17 => ?_) (fun hc_17 => ?_)
    · rw [if_pos hc_17] at h
      refine az_E.sn 8 (pc' := 26) (L' := [.ref 3, .int v1, .retAddr 0, .int (v3 ||| ((1 : Int32) <<< (v4 &&& 31))), .int (v4 + (1 : Int32))]) (S' := []) (σ' := (97, I_15, J, (az_u (az_u R 26 2 (some 21)) 26 3 (some 5)))) rfl ?_
      have h := Option.some.inj h
      subst h
      simp only [Sum.elim_inl, Sum.elim_inr] at hQ
      exact az_E.forget (L := [.ref 3, .int v1, .retAddr 0, .int (v3 ||| ((1 : Int32) <<< (v4 &&& 31))), .int (v4 + (1 : Int32))]) ⟨rfl, rfl, trivial, rfl, rfl, trivial⟩ (hQ (az_u (az_u R 26 2 (some 21)) 26 3 (some 5)) hR_3_2 hR_3_3)
    · rw [if_neg hc_17] at h
      refine az_E.sn 2 (pc' := 26) (L' := [.ref 3, .int v1, .retAddr 0, .int v3, .int (v4 + (1 : Int32))]) (S' := []) (σ' := (97, I_15, J, (az_u (az_u R 26 2 (some 21)) 26 3 (some 5)))) rfl ?_
      have h := Option.some.inj h
      subst h
      simp only [Sum.elim_inl, Sum.elim_inr] at hQ
      exact az_E.forget (L := [.ref 3, .int v1, .retAddr 0, .int v3, .int (v4 + (1 : Int32))]) ⟨rfl, rfl, trivial, rfl, rfl, trivial⟩ (hQ (az_u (az_u R 26 2 (some 21)) 26 3 (some 5)) hR_3_2 hR_3_3)
set_option maxRecDepth 100000 in
set_option maxHeartbeats 4000000 in
theorem re_X_whose_51_21_16_65 {ex : az_X} {I : Nat → Nat → Int32} {J : Nat → Nat → Int64} {R : Nat → Nat → Option Nat} {v1 : Int32} {v3 : Int32} {v4 : Int32} (hR_3_2 : R 3 2 = some 21) (hR_3_3 : R 3 3 = some 16) {x : ((Int32 × Int32 × (Nat → Nat → Int32)) ⊕ (Int32 × (Nat → Nat → Int32)))} (h : rs_X_whose_51 16 21 65 I J v1 v3 v4 = some x) {Q : Option Value → az_S → Prop} (hQ : Sum.elim (fun s => ∀ R : Nat → Nat → Option Nat, R 3 2 = some 21 → R 3 3 = some 16 → az_E az_F ex 6 108 26 [.ref 3, .int v1, .retAddr 0, .int s.1, .int s.2.1] [] (97, s.2.2, J, R) Q) (fun x => ∀ R' : Nat → Nat → Option Nat, R' 3 2 = some 21 → R' 3 3 = some 16 → Q (some (.int x.1)) (97, x.2, J, R')) x) : az_E az_F ex 6 108 51 [.ref 3, .int v1, .retAddr 0, .int v3, .int v4] [.ref 65, .ref 3] (97, I, J, (az_u (az_u R 26 2 (some 21)) 26 3 (some 5))) Q := by
  unfold rs_X_whose_51 at h
  cases hx_20 : rs_X_firstWrongTwo 65 I J with
  | none => rw [hx_20] at h; cases h
  | some o =>
    rw [hx_20] at h
    obtain ⟨x_18, I_19⟩ := o
    dsimp only at h
    refine az_E.call (d := 5) (k' := 151) (vs := [.ref 3, .ref 65]) (pc' := 54) (S' := []) (Q1 := fun v s => v = some (.int x_18) ∧ s = (97, I_19, J, (az_u (az_u R 26 2 (some 21)) 26 3 (some 5)))) rfl (az_E.deep (by omega) (re_X_firstWrongTwo_65_5 (J := J) (R := (az_u (az_u R 26 2 (some 21)) 26 3 (some 5))) rfl hx_20 ⟨rfl, rfl⟩)) (fun v s hq => ?_)
    obtain ⟨rfl, rfl⟩ := hq
    show az_E az_F ex 6 108 54 [.ref 3, .int v1, .retAddr 0, .int v3, .int v4] [.int x_18] (97, I_19, J, (az_u (az_u R 26 2 (some 21)) 26 3 (some 5))) _
    refine az_E.sn 1 (pc' := 56) (L' := [.ref 3, .int v1, .retAddr 0, .int v3, .int v4]) (S' := [.int (-2 : Int32), .int x_18]) (σ' := (97, I_19, J, (az_u (az_u R 26 2 (some 21)) 26 3 (some 5)))) rfl ?_
    refine az_E.br (c := x_18 = (-2 : Int32)) (tt := 59) (ff := 66) (L' := [.ref 3, .int v1, .retAddr 0, .int v3, .int v4]) (S' := []) (σ' := (97, I_19, J, (az_u (az_u R 26 2 (some 21)) 26 3 (some 5)))) rfl (fun hc_21 => ?_) (fun hc_21 => ?_)
    · rw [if_pos hc_21] at h
      refine az_E.sn 8 (pc' := 26) (L' := [.ref 3, .int v1, .retAddr 0, .int (v3 ||| ((1 : Int32) <<< (v4 &&& 31))), .int (v4 + (1 : Int32))]) (S' := []) (σ' := (97, I_19, J, (az_u (az_u R 26 2 (some 21)) 26 3 (some 5)))) rfl ?_
      have h := Option.some.inj h
      subst h
      simp only [Sum.elim_inl, Sum.elim_inr] at hQ
      exact az_E.forget (L := [.ref 3, .int v1, .retAddr 0, .int (v3 ||| ((1 : Int32) <<< (v4 &&& 31))), .int (v4 + (1 : Int32))]) ⟨rfl, rfl, trivial, rfl, rfl, trivial⟩ (hQ (az_u (az_u R 26 2 (some 21)) 26 3 (some 5)) hR_3_2 hR_3_3)
    · rw [if_neg hc_21] at h
      refine az_E.sn 2 (pc' := 26) (L' := [.ref 3, .int v1, .retAddr 0, .int v3, .int (v4 + (1 : Int32))]) (S' := []) (σ' := (97, I_19, J, (az_u (az_u R 26 2 (some 21)) 26 3 (some 5)))) rfl ?_
      have h := Option.some.inj h
      subst h
      simp only [Sum.elim_inl, Sum.elim_inr] at hQ
      exact az_E.forget (L := [.ref 3, .int v1, .retAddr 0, .int v3, .int (v4 + (1 : Int32))]) ⟨rfl, rfl, trivial, rfl, rfl, trivial⟩ (hQ (az_u (az_u R 26 2 (some 21)) 26 3 (some 5)) hR_3_2 hR_3_3)
set_option maxRecDepth 100000 in
set_option maxHeartbeats 4000000 in
theorem re_X_whose_51_21_16_67 {ex : az_X} {I : Nat → Nat → Int32} {J : Nat → Nat → Int64} {R : Nat → Nat → Option Nat} {v1 : Int32} {v3 : Int32} {v4 : Int32} (hR_3_2 : R 3 2 = some 21) (hR_3_3 : R 3 3 = some 16) {x : ((Int32 × Int32 × (Nat → Nat → Int32)) ⊕ (Int32 × (Nat → Nat → Int32)))} (h : rs_X_whose_51 16 21 67 I J v1 v3 v4 = some x) {Q : Option Value → az_S → Prop} (hQ : Sum.elim (fun s => ∀ R : Nat → Nat → Option Nat, R 3 2 = some 21 → R 3 3 = some 16 → az_E az_F ex 6 108 26 [.ref 3, .int v1, .retAddr 0, .int s.1, .int s.2.1] [] (97, s.2.2, J, R) Q) (fun x => ∀ R' : Nat → Nat → Option Nat, R' 3 2 = some 21 → R' 3 3 = some 16 → Q (some (.int x.1)) (97, x.2, J, R')) x) : az_E az_F ex 6 108 51 [.ref 3, .int v1, .retAddr 0, .int v3, .int v4] [.ref 67, .ref 3] (97, I, J, (az_u (az_u R 26 2 (some 21)) 26 3 (some 5))) Q := by
  unfold rs_X_whose_51 at h
  cases hx_24 : rs_X_firstWrongTwo 67 I J with
  | none => rw [hx_24] at h; cases h
  | some o =>
    rw [hx_24] at h
    obtain ⟨x_22, I_23⟩ := o
    dsimp only at h
    refine az_E.call (d := 5) (k' := 151) (vs := [.ref 3, .ref 67]) (pc' := 54) (S' := []) (Q1 := fun v s => v = some (.int x_22) ∧ s = (97, I_23, J, (az_u (az_u R 26 2 (some 21)) 26 3 (some 5)))) rfl (az_E.deep (by omega) (re_X_firstWrongTwo_67_5 (J := J) (R := (az_u (az_u R 26 2 (some 21)) 26 3 (some 5))) rfl hx_24 ⟨rfl, rfl⟩)) (fun v s hq => ?_)
    obtain ⟨rfl, rfl⟩ := hq
    show az_E az_F ex 6 108 54 [.ref 3, .int v1, .retAddr 0, .int v3, .int v4] [.int x_22] (97, I_23, J, (az_u (az_u R 26 2 (some 21)) 26 3 (some 5))) _
    refine az_E.sn 1 (pc' := 56) (L' := [.ref 3, .int v1, .retAddr 0, .int v3, .int v4]) (S' := [.int (-2 : Int32), .int x_22]) (σ' := (97, I_23, J, (az_u (az_u R 26 2 (some 21)) 26 3 (some 5)))) rfl ?_
    refine az_E.br (c := x_22 = (-2 : Int32)) (tt := 59) (ff := 66) (L' := [.ref 3, .int v1, .retAddr 0, .int v3, .int v4]) (S' := []) (σ' := (97, I_23, J, (az_u (az_u R 26 2 (some 21)) 26 3 (some 5)))) rfl (fun hc_25 => ?_) (fun hc_25 => ?_)
    · rw [if_pos hc_25] at h
      refine az_E.sn 8 (pc' := 26) (L' := [.ref 3, .int v1, .retAddr 0, .int (v3 ||| ((1 : Int32) <<< (v4 &&& 31))), .int (v4 + (1 : Int32))]) (S' := []) (σ' := (97, I_23, J, (az_u (az_u R 26 2 (some 21)) 26 3 (some 5)))) rfl ?_
      have h := Option.some.inj h
      subst h
      simp only [Sum.elim_inl, Sum.elim_inr] at hQ
      exact az_E.forget (L := [.ref 3, .int v1, .retAddr 0, .int (v3 ||| ((1 : Int32) <<< (v4 &&& 31))), .int (v4 + (1 : Int32))]) ⟨rfl, rfl, trivial, rfl, rfl, trivial⟩ (hQ (az_u (az_u R 26 2 (some 21)) 26 3 (some 5)) hR_3_2 hR_3_3)
    · rw [if_neg hc_25] at h
      refine az_E.sn 2 (pc' := 26) (L' := [.ref 3, .int v1, .retAddr 0, .int v3, .int (v4 + (1 : Int32))]) (S' := []) (σ' := (97, I_23, J, (az_u (az_u R 26 2 (some 21)) 26 3 (some 5)))) rfl ?_
      have h := Option.some.inj h
      subst h
      simp only [Sum.elim_inl, Sum.elim_inr] at hQ
      exact az_E.forget (L := [.ref 3, .int v1, .retAddr 0, .int v3, .int (v4 + (1 : Int32))]) ⟨rfl, rfl, trivial, rfl, rfl, trivial⟩ (hQ (az_u (az_u R 26 2 (some 21)) 26 3 (some 5)) hR_3_2 hR_3_3)
set_option maxRecDepth 100000 in
set_option maxHeartbeats 4000000 in
theorem re_X_whose_51_21_16_69 {ex : az_X} {I : Nat → Nat → Int32} {J : Nat → Nat → Int64} {R : Nat → Nat → Option Nat} {v1 : Int32} {v3 : Int32} {v4 : Int32} (hR_3_2 : R 3 2 = some 21) (hR_3_3 : R 3 3 = some 16) {x : ((Int32 × Int32 × (Nat → Nat → Int32)) ⊕ (Int32 × (Nat → Nat → Int32)))} (h : rs_X_whose_51 16 21 69 I J v1 v3 v4 = some x) {Q : Option Value → az_S → Prop} (hQ : Sum.elim (fun s => ∀ R : Nat → Nat → Option Nat, R 3 2 = some 21 → R 3 3 = some 16 → az_E az_F ex 6 108 26 [.ref 3, .int v1, .retAddr 0, .int s.1, .int s.2.1] [] (97, s.2.2, J, R) Q) (fun x => ∀ R' : Nat → Nat → Option Nat, R' 3 2 = some 21 → R' 3 3 = some 16 → Q (some (.int x.1)) (97, x.2, J, R')) x) : az_E az_F ex 6 108 51 [.ref 3, .int v1, .retAddr 0, .int v3, .int v4] [.ref 69, .ref 3] (97, I, J, (az_u (az_u R 26 2 (some 21)) 26 3 (some 5))) Q := by
  unfold rs_X_whose_51 at h
  cases hx_28 : rs_X_firstWrongTwo 69 I J with
  | none => rw [hx_28] at h; cases h
  | some o =>
    rw [hx_28] at h
    obtain ⟨x_26, I_27⟩ := o
    dsimp only at h
    refine az_E.call (d := 5) (k' := 151) (vs := [.ref 3, .ref 69]) (pc' := 54) (S' := []) (Q1 := fun v s => v = some (.int x_26) ∧ s = (97, I_27, J, (az_u (az_u R 26 2 (some 21)) 26 3 (some 5)))) rfl (az_E.deep (by omega) (re_X_firstWrongTwo_69_5 (J := J) (R := (az_u (az_u R 26 2 (some 21)) 26 3 (some 5))) rfl hx_28 ⟨rfl, rfl⟩)) (fun v s hq => ?_)
    obtain ⟨rfl, rfl⟩ := hq
    show az_E az_F ex 6 108 54 [.ref 3, .int v1, .retAddr 0, .int v3, .int v4] [.int x_26] (97, I_27, J, (az_u (az_u R 26 2 (some 21)) 26 3 (some 5))) _
    refine az_E.sn 1 (pc' := 56) (L' := [.ref 3, .int v1, .retAddr 0, .int v3, .int v4]) (S' := [.int (-2 : Int32), .int x_26]) (σ' := (97, I_27, J, (az_u (az_u R 26 2 (some 21)) 26 3 (some 5)))) rfl ?_
    refine az_E.br (c := x_26 = (-2 : Int32)) (tt := 59) (ff := 66) (L' := [.ref 3, .int v1, .retAddr 0, .int v3, .int v4]) (S' := []) (σ' := (97, I_27, J, (az_u (az_u R 26 2 (some 21)) 26 3 (some 5)))) rfl (fun hc_29 => ?_) (fun hc_29 => ?_)
    · rw [if_pos hc_29] at h
      refine az_E.sn 8 (pc' := 26) (L' := [.ref 3, .int v1, .retAddr 0, .int (v3 ||| ((1 : Int32) <<< (v4 &&& 31))), .int (v4 + (1 : Int32))]) (S' := []) (σ' := (97, I_27, J, (az_u (az_u R 26 2 (some 21)) 26 3 (some 5)))) rfl ?_
      have h := Option.some.inj h
      subst h
      simp only [Sum.elim_inl, Sum.elim_inr] at hQ
      exact az_E.forget (L := [.ref 3, .int v1, .retAddr 0, .int (v3 ||| ((1 : Int32) <<< (v4 &&& 31))), .int (v4 + (1 : Int32))]) ⟨rfl, rfl, trivial, rfl, rfl, trivial⟩ (hQ (az_u (az_u R 26 2 (some 21)) 26 3 (some 5)) hR_3_2 hR_3_3)
    · rw [if_neg hc_29] at h
      refine az_E.sn 2 (pc' := 26) (L' := [.ref 3, .int v1, .retAddr 0, .int v3, .int (v4 + (1 : Int32))]) (S' := []) (σ' := (97, I_27, J, (az_u (az_u R 26 2 (some 21)) 26 3 (some 5)))) rfl ?_
      have h := Option.some.inj h
      subst h
      simp only [Sum.elim_inl, Sum.elim_inr] at hQ
      exact az_E.forget (L := [.ref 3, .int v1, .retAddr 0, .int v3, .int (v4 + (1 : Int32))]) ⟨rfl, rfl, trivial, rfl, rfl, trivial⟩ (hQ (az_u (az_u R 26 2 (some 21)) 26 3 (some 5)) hR_3_2 hR_3_3)
set_option maxRecDepth 100000 in
set_option maxHeartbeats 4000000 in
theorem re_X_whose_51_21_16_71 {ex : az_X} {I : Nat → Nat → Int32} {J : Nat → Nat → Int64} {R : Nat → Nat → Option Nat} {v1 : Int32} {v3 : Int32} {v4 : Int32} (hR_3_2 : R 3 2 = some 21) (hR_3_3 : R 3 3 = some 16) {x : ((Int32 × Int32 × (Nat → Nat → Int32)) ⊕ (Int32 × (Nat → Nat → Int32)))} (h : rs_X_whose_51 16 21 71 I J v1 v3 v4 = some x) {Q : Option Value → az_S → Prop} (hQ : Sum.elim (fun s => ∀ R : Nat → Nat → Option Nat, R 3 2 = some 21 → R 3 3 = some 16 → az_E az_F ex 6 108 26 [.ref 3, .int v1, .retAddr 0, .int s.1, .int s.2.1] [] (97, s.2.2, J, R) Q) (fun x => ∀ R' : Nat → Nat → Option Nat, R' 3 2 = some 21 → R' 3 3 = some 16 → Q (some (.int x.1)) (97, x.2, J, R')) x) : az_E az_F ex 6 108 51 [.ref 3, .int v1, .retAddr 0, .int v3, .int v4] [.ref 71, .ref 3] (97, I, J, (az_u (az_u R 26 2 (some 21)) 26 3 (some 5))) Q := by
  unfold rs_X_whose_51 at h
  cases hx_32 : rs_X_firstWrongTwo 71 I J with
  | none => rw [hx_32] at h; cases h
  | some o =>
    rw [hx_32] at h
    obtain ⟨x_30, I_31⟩ := o
    dsimp only at h
    refine az_E.call (d := 5) (k' := 151) (vs := [.ref 3, .ref 71]) (pc' := 54) (S' := []) (Q1 := fun v s => v = some (.int x_30) ∧ s = (97, I_31, J, (az_u (az_u R 26 2 (some 21)) 26 3 (some 5)))) rfl (az_E.deep (by omega) (re_X_firstWrongTwo_71_5 (J := J) (R := (az_u (az_u R 26 2 (some 21)) 26 3 (some 5))) rfl hx_32 ⟨rfl, rfl⟩)) (fun v s hq => ?_)
    obtain ⟨rfl, rfl⟩ := hq
    show az_E az_F ex 6 108 54 [.ref 3, .int v1, .retAddr 0, .int v3, .int v4] [.int x_30] (97, I_31, J, (az_u (az_u R 26 2 (some 21)) 26 3 (some 5))) _
    refine az_E.sn 1 (pc' := 56) (L' := [.ref 3, .int v1, .retAddr 0, .int v3, .int v4]) (S' := [.int (-2 : Int32), .int x_30]) (σ' := (97, I_31, J, (az_u (az_u R 26 2 (some 21)) 26 3 (some 5)))) rfl ?_
    refine az_E.br (c := x_30 = (-2 : Int32)) (tt := 59) (ff := 66) (L' := [.ref 3, .int v1, .retAddr 0, .int v3, .int v4]) (S' := []) (σ' := (97, I_31, J, (az_u (az_u R 26 2 (some 21)) 26 3 (some 5)))) rfl (fun hc_33 => ?_) (fun hc_33 => ?_)
    · rw [if_pos hc_33] at h
      refine az_E.sn 8 (pc' := 26) (L' := [.ref 3, .int v1, .retAddr 0, .int (v3 ||| ((1 : Int32) <<< (v4 &&& 31))), .int (v4 + (1 : Int32))]) (S' := []) (σ' := (97, I_31, J, (az_u (az_u R 26 2 (some 21)) 26 3 (some 5)))) rfl ?_
      have h := Option.some.inj h
      subst h
      simp only [Sum.elim_inl, Sum.elim_inr] at hQ
      exact az_E.forget (L := [.ref 3, .int v1, .retAddr 0, .int (v3 ||| ((1 : Int32) <<< (v4 &&& 31))), .int (v4 + (1 : Int32))]) ⟨rfl, rfl, trivial, rfl, rfl, trivial⟩ (hQ (az_u (az_u R 26 2 (some 21)) 26 3 (some 5)) hR_3_2 hR_3_3)
    · rw [if_neg hc_33] at h
      refine az_E.sn 2 (pc' := 26) (L' := [.ref 3, .int v1, .retAddr 0, .int v3, .int (v4 + (1 : Int32))]) (S' := []) (σ' := (97, I_31, J, (az_u (az_u R 26 2 (some 21)) 26 3 (some 5)))) rfl ?_
      have h := Option.some.inj h
      subst h
      simp only [Sum.elim_inl, Sum.elim_inr] at hQ
      exact az_E.forget (L := [.ref 3, .int v1, .retAddr 0, .int v3, .int (v4 + (1 : Int32))]) ⟨rfl, rfl, trivial, rfl, rfl, trivial⟩ (hQ (az_u (az_u R 26 2 (some 21)) 26 3 (some 5)) hR_3_2 hR_3_3)
set_option maxRecDepth 100000 in
set_option maxHeartbeats 4000000 in
theorem re_X_whose_26_b_21_16 {ex : az_X} {I : Nat → Nat → Int32} {J : Nat → Nat → Int64} {R : Nat → Nat → Option Nat} {v1 : Int32} {v3 : Int32} {v4 : Int32} (hR_3_2 : R 3 2 = some 21) (hR_3_3 : R 3 3 = some 16) {x : ((Int32 × Int32 × (Nat → Nat → Int32)) ⊕ (Int32 × (Nat → Nat → Int32)))} (h : rs_X_whose_26_b 16 21 J v1 v3 v4 I = some x) {Q : Option Value → az_S → Prop} (hQ : Sum.elim (fun s => ∀ R : Nat → Nat → Option Nat, R 3 2 = some 21 → R 3 3 = some 16 → az_E az_F ex 6 108 26 [.ref 3, .int v1, .retAddr 0, .int s.1, .int s.2.1] [] (97, s.2.2, J, R) Q) (fun x => ∀ R' : Nat → Nat → Option Nat, R' 3 2 = some 21 → R' 3 3 = some 16 → Q (some (.int x.1)) (97, x.2, J, R')) x) : az_E az_F ex 6 108 26 [.ref 3, .int v1, .retAddr 0, .int v3, .int v4] [] (97, I, J, R) Q := by
  unfold rs_X_whose_26_b at h
  refine az_E.sn 4 (pc' := 35) (L' := [.ref 3, .int v1, .retAddr 0, .int v3, .int v4]) (S' := [.int (I 4 9), .int v4]) (σ' := (97, I, J, R)) rfl ?_
  refine az_E.br (c := (I 4 9) ≤ v4) (tt := 72) (ff := 38) (L' := [.ref 3, .int v1, .retAddr 0, .int v3, .int v4]) (S' := []) (σ' := (97, I, J, R)) rfl (fun hc_6 => ?_) (fun hc_6 => ?_)
  · rw [if_pos hc_6] at h
    refine az_E.sn 1 (pc' := 73) (L' := [.ref 3, .int v1, .retAddr 0, .int v3, .int v4]) (S' := [.int v3]) (σ' := (97, I, J, R)) rfl ?_
    have h := Option.some.inj h
    subst h
    try simp only [Sum.elim_inl, Sum.elim_inr] at hQ
    exact az_E.ret (v := some (.int v3)) (σ' := (97, I, J, R)) rfl (hQ _ hR_3_2 hR_3_3)
  · rw [if_neg hc_6] at h
    refine az_E.sn 2 (pc' := 41) (L' := [.ref 3, .int v1, .retAddr 0, .int v3, .int v4]) (S' := [.int v4, .ref 3]) (σ' := (97, I, J, R)) rfl ?_
    cases hx_8 : rs_X_setPace 21 I v4 with
    | none => rw [hx_8] at h; cases h
    | some I_7 =>
      rw [hx_8] at h
      dsimp only at h
      refine az_E.call (d := 5) (k' := 144) (vs := [.ref 3, .int v4]) (pc' := 44) (S' := []) (Q1 := fun v s => v = none ∧ s = (97, I_7, J, (az_u (az_u R 26 2 (some 21)) 26 3 (some 5)))) rfl (az_E.deep (by omega) (re_X_setPace_21 (J := J) (R := R) hR_3_2 hx_8 ⟨rfl, rfl⟩)) (fun v s hq => ?_)
      obtain ⟨rfl, rfl⟩ := hq
      show az_E az_F ex 6 108 44 [.ref 3, .int v1, .retAddr 0, .int v3, .int v4] [] (97, I_7, J, (az_u (az_u R 26 2 (some 21)) 26 3 (some 5))) _
      refine az_E.sn 4 (pc' := 50) (L' := [.ref 3, .int v1, .retAddr 0, .int v3, .int v4]) (S' := [.int v1, .ref 58, .ref 3]) (σ' := (97, I_7, J, (az_u (az_u R 26 2 (some 21)) 26 3 (some 5)))) rfl ?_
      by_cases hc_9 : v1 < 0 ∨ 6 ≤ v1.toNatClampNeg
      · rw [if_pos hc_9] at h; cases h
      · rw [if_neg hc_9] at h
        rcases az_six hc_9 with ehc_9 | ehc_9 | ehc_9 | ehc_9 | ehc_9 | ehc_9
        · rw [ehc_9] at h ⊢; (try rw [ehc_9] at hQ)
          refine az_E.ov (pc' := 51) (L' := [.ref 3, .int (0 : Int32), .retAddr 0, .int v3, .int v4]) (S' := [.ref 3]) (σ' := (97, I_7, J, (az_u (az_u R 26 2 (some 21)) 26 3 (some 5)))) (x := .ref 61) (o := az_aa az_F (97, I_7, J, (az_u (az_u R 26 2 (some 21)) 26 3 (some 5))) 58 (0 : Int32)) rfl rfl ?_
          exact az_E.forget (L := [.ref 3, .int (0 : Int32), .retAddr 0, .int v3, .int v4]) ⟨rfl, rfl, trivial, rfl, rfl, trivial⟩ (re_X_whose_51_21_16_61 (I := I_7) (J := J) (R := R) hR_3_2 hR_3_3 h hQ)
        · rw [ehc_9] at h ⊢; (try rw [ehc_9] at hQ)
          refine az_E.ov (pc' := 51) (L' := [.ref 3, .int (1 : Int32), .retAddr 0, .int v3, .int v4]) (S' := [.ref 3]) (σ' := (97, I_7, J, (az_u (az_u R 26 2 (some 21)) 26 3 (some 5)))) (x := .ref 63) (o := az_aa az_F (97, I_7, J, (az_u (az_u R 26 2 (some 21)) 26 3 (some 5))) 58 (1 : Int32)) rfl rfl ?_
          exact az_E.forget (L := [.ref 3, .int (1 : Int32), .retAddr 0, .int v3, .int v4]) ⟨rfl, rfl, trivial, rfl, rfl, trivial⟩ (re_X_whose_51_21_16_63 (I := I_7) (J := J) (R := R) hR_3_2 hR_3_3 h hQ)
        · rw [ehc_9] at h ⊢; (try rw [ehc_9] at hQ)
          refine az_E.ov (pc' := 51) (L' := [.ref 3, .int (2 : Int32), .retAddr 0, .int v3, .int v4]) (S' := [.ref 3]) (σ' := (97, I_7, J, (az_u (az_u R 26 2 (some 21)) 26 3 (some 5)))) (x := .ref 65) (o := az_aa az_F (97, I_7, J, (az_u (az_u R 26 2 (some 21)) 26 3 (some 5))) 58 (2 : Int32)) rfl rfl ?_
          exact az_E.forget (L := [.ref 3, .int (2 : Int32), .retAddr 0, .int v3, .int v4]) ⟨rfl, rfl, trivial, rfl, rfl, trivial⟩ (re_X_whose_51_21_16_65 (I := I_7) (J := J) (R := R) hR_3_2 hR_3_3 h hQ)
        · rw [ehc_9] at h ⊢; (try rw [ehc_9] at hQ)
          refine az_E.ov (pc' := 51) (L' := [.ref 3, .int (3 : Int32), .retAddr 0, .int v3, .int v4]) (S' := [.ref 3]) (σ' := (97, I_7, J, (az_u (az_u R 26 2 (some 21)) 26 3 (some 5)))) (x := .ref 67) (o := az_aa az_F (97, I_7, J, (az_u (az_u R 26 2 (some 21)) 26 3 (some 5))) 58 (3 : Int32)) rfl rfl ?_
          exact az_E.forget (L := [.ref 3, .int (3 : Int32), .retAddr 0, .int v3, .int v4]) ⟨rfl, rfl, trivial, rfl, rfl, trivial⟩ (re_X_whose_51_21_16_67 (I := I_7) (J := J) (R := R) hR_3_2 hR_3_3 h hQ)
        · rw [ehc_9] at h ⊢; (try rw [ehc_9] at hQ)
          refine az_E.ov (pc' := 51) (L' := [.ref 3, .int (4 : Int32), .retAddr 0, .int v3, .int v4]) (S' := [.ref 3]) (σ' := (97, I_7, J, (az_u (az_u R 26 2 (some 21)) 26 3 (some 5)))) (x := .ref 69) (o := az_aa az_F (97, I_7, J, (az_u (az_u R 26 2 (some 21)) 26 3 (some 5))) 58 (4 : Int32)) rfl rfl ?_
          exact az_E.forget (L := [.ref 3, .int (4 : Int32), .retAddr 0, .int v3, .int v4]) ⟨rfl, rfl, trivial, rfl, rfl, trivial⟩ (re_X_whose_51_21_16_69 (I := I_7) (J := J) (R := R) hR_3_2 hR_3_3 h hQ)
        · rw [ehc_9] at h ⊢; (try rw [ehc_9] at hQ)
          refine az_E.ov (pc' := 51) (L' := [.ref 3, .int (5 : Int32), .retAddr 0, .int v3, .int v4]) (S' := [.ref 3]) (σ' := (97, I_7, J, (az_u (az_u R 26 2 (some 21)) 26 3 (some 5)))) (x := .ref 71) (o := az_aa az_F (97, I_7, J, (az_u (az_u R 26 2 (some 21)) 26 3 (some 5))) 58 (5 : Int32)) rfl rfl ?_
          exact az_E.forget (L := [.ref 3, .int (5 : Int32), .retAddr 0, .int v3, .int v4]) ⟨rfl, rfl, trivial, rfl, rfl, trivial⟩ (re_X_whose_51_21_16_71 (I := I_7) (J := J) (R := R) hR_3_2 hR_3_3 h hQ)
set_option maxRecDepth 100000 in
set_option maxHeartbeats 4000000 in
theorem re_X_whose_26_21_16 {ex : az_X} {I : Nat → Nat → Int32} {J : Nat → Nat → Int64} {R : Nat → Nat → Option Nat} {v1 : Int32} {v3 : Int32} {v4 : Int32} (hR_3_2 : R 3 2 = some 21) (hR_3_3 : R 3 3 = some 16) {x : Int32 × (Nat → Nat → Int32)} (h : rs_X_whose_26 16 21 I J v1 v3 v4 = some x) {Q : Option Value → az_S → Prop} (hQ : ∀ R' : Nat → Nat → Option Nat, R' 3 2 = some 21 → R' 3 3 = some 16 → Q (some (.int x.1)) (97, x.2, J, R')) : az_E az_F ex 6 108 26 [.ref 3, .int v1, .retAddr 0, .int v3, .int v4] [] (97, I, J, R) Q := by
  unfold rs_X_whose_26 at h
  refine az_lp_E (G := fun s => ∀ R : Nat → Nat → Option Nat, R 3 2 = some 21 → R 3 3 = some 16 → az_E az_F ex 6 108 26 [.ref 3, .int v1, .retAddr 0, .int s.1, .int s.2.1] [] (97, s.2.2, J, R) Q) (H := fun x => ∀ R' : Nat → Nat → Option Nat, R' 3 2 = some 21 → R' 3 3 = some 16 → Q (some (.int x.1)) (97, x.2, J, R')) (fun s o hb ho => fun R hR_3_2 hR_3_3 => ?_) _ _ _ h hQ R hR_3_2 hR_3_3
  exact re_X_whose_26_b_21_16 hR_3_2 hR_3_3 hb ho
set_option maxRecDepth 100000 in
set_option maxHeartbeats 4000000 in
theorem re_X_whose_21_16 {ex : az_X} {I : Nat → Nat → Int32} {J : Nat → Nat → Int64} {R : Nat → Nat → Option Nat} {a1 : Int32} (hR_3_2 : R 3 2 = some 21) (hR_3_3 : R 3 3 = some 16) {o : Int32 × (Nat → Nat → Int32)} (h : rs_X_whose 16 21 I J a1 = some o) {Q : Option Value → az_S → Prop} (hQ : ∀ R' : Nat → Nat → Option Nat, R' 3 2 = some 21 → R' 3 3 = some 16 → Q (some (.int o.1)) (97, o.2, J, R')) : az_E az_F ex 6 108 0 [.ref 3, .int a1, .retAddr 0, .retAddr 0, .retAddr 0] [] (97, I, J, R) Q := by
  unfold rs_X_whose at h
  refine az_E.sn 1 (pc' := 1) (L' := [.ref 3, .int a1, .retAddr 0, .retAddr 0, .retAddr 0]) (S' := [.int a1]) (σ' := (97, I, J, R)) rfl ?_
  refine az_E.call (d := 5) (k' := 137) (vs := [.int a1]) (pc' := 4) (S' := []) rfl ?_ (fun _ _ hq => hq)
  show az_E az_F ex 5 137 0 [.int a1] [] (97, I, J, R) _
  refine az_E.sn 3 (pc' := 3) (L' := [.int a1]) (S' := [.int (5 : Int32), .int (0 : Int32), .int a1]) (σ' := (97, I, J, R)) rfl ?_
  refine az_E.call (d := 4) (k' := 131) (vs := [.int a1, .int (0 : Int32), .int (5 : Int32)]) (pc' := 6) (S' := []) rfl ?_ (fun _ _ hq => hq)
  show az_E az_F ex 4 131 0 [.int a1, .int (0 : Int32), .int (5 : Int32)] [] (97, I, J, R) _
  refine az_E.sn 2 (pc' := 2) (L' := [.int a1, .int (0 : Int32), .int (5 : Int32)]) (S' := [.int (0 : Int32), .int a1]) (σ' := (97, I, J, R)) rfl ?_
  refine az_E.br (c := a1 < (0 : Int32)) (tt := 14) (ff := 5) (L' := [.int a1, .int (0 : Int32), .int (5 : Int32)]) (S' := []) (σ' := (97, I, J, R)) rfl (fun hc_1 => ?_) (fun hc_1 => ?_)
  · rw [if_pos hc_1] at h
    refine az_E.sn 1 (pc' := 15) (L' := [.int a1, .int (0 : Int32), .int (5 : Int32)]) (S' := [.int (0 : Int32)]) (σ' := (97, I, J, R)) rfl ?_
    refine az_E.ret (v := some (.int (0 : Int32))) (σ' := (97, I, J, R)) rfl ?_
    show az_E az_F ex 5 137 6 [.int a1] [.int (0 : Int32)] (97, I, J, R) _
    refine az_E.ret (v := some (.int (0 : Int32))) (σ' := (97, I, J, R)) rfl ?_
    show az_E az_F ex 6 108 4 [.ref 3, .int a1, .retAddr 0, .retAddr 0, .retAddr 0] [.int (0 : Int32)] (97, I, J, R) _
    refine az_E.br (c := (0 : Int32) = 0) (tt := 7) (ff := 9) (L' := [.ref 3, .int a1, .retAddr 0, .retAddr 0, .retAddr 0]) (S' := []) (σ' := (97, I, J, R)) rfl (fun _ => ?_) (fun hn => absurd (by decide) hn)
    refine az_E.sn 1 (pc' := 8) (L' := [.ref 3, .int a1, .retAddr 0, .retAddr 0, .retAddr 0]) (S' := [.int (-1 : Int32)]) (σ' := (97, I, J, R)) rfl ?_
    have h := Option.some.inj h
    subst h
    exact az_E.ret (v := some (.int (-1 : Int32))) (σ' := (97, I, J, R)) rfl (hQ _ hR_3_2 hR_3_3)
  · rw [if_neg hc_1] at h
    refine az_E.sn 2 (pc' := 7) (L' := [.int a1, .int (0 : Int32), .int (5 : Int32)]) (S' := [.int (5 : Int32), .int a1]) (σ' := (97, I, J, R)) rfl ?_
    refine az_E.br (c := (5 : Int32) < a1) (tt := 14) (ff := 10) (L' := [.int a1, .int (0 : Int32), .int (5 : Int32)]) (S' := []) (σ' := (97, I, J, R)) rfl (fun hc_2 => ?_) (fun hc_2 => ?_)
    · rw [if_pos hc_2] at h
      refine az_E.sn 1 (pc' := 15) (L' := [.int a1, .int (0 : Int32), .int (5 : Int32)]) (S' := [.int (0 : Int32)]) (σ' := (97, I, J, R)) rfl ?_
      refine az_E.ret (v := some (.int (0 : Int32))) (σ' := (97, I, J, R)) rfl ?_
      show az_E az_F ex 5 137 6 [.int a1] [.int (0 : Int32)] (97, I, J, R) _
      refine az_E.ret (v := some (.int (0 : Int32))) (σ' := (97, I, J, R)) rfl ?_
      show az_E az_F ex 6 108 4 [.ref 3, .int a1, .retAddr 0, .retAddr 0, .retAddr 0] [.int (0 : Int32)] (97, I, J, R) _
      refine az_E.br (c := (0 : Int32) = 0) (tt := 7) (ff := 9) (L' := [.ref 3, .int a1, .retAddr 0, .retAddr 0, .retAddr 0]) (S' := []) (σ' := (97, I, J, R)) rfl (fun _ => ?_) (fun hn => absurd (by decide) hn)
      refine az_E.sn 1 (pc' := 8) (L' := [.ref 3, .int a1, .retAddr 0, .retAddr 0, .retAddr 0]) (S' := [.int (-1 : Int32)]) (σ' := (97, I, J, R)) rfl ?_
      have h := Option.some.inj h
      subst h
      exact az_E.ret (v := some (.int (-1 : Int32))) (σ' := (97, I, J, R)) rfl (hQ _ hR_3_2 hR_3_3)
    · rw [if_neg hc_2] at h
      refine az_E.sn 2 (pc' := 15) (L' := [.int a1, .int (0 : Int32), .int (5 : Int32)]) (S' := [.int (1 : Int32)]) (σ' := (97, I, J, R)) rfl ?_
      refine az_E.ret (v := some (.int (1 : Int32))) (σ' := (97, I, J, R)) rfl ?_
      show az_E az_F ex 5 137 6 [.int a1] [.int (1 : Int32)] (97, I, J, R) _
      refine az_E.ret (v := some (.int (1 : Int32))) (σ' := (97, I, J, R)) rfl ?_
      show az_E az_F ex 6 108 4 [.ref 3, .int a1, .retAddr 0, .retAddr 0, .retAddr 0] [.int (1 : Int32)] (97, I, J, R) _
      refine az_E.br (c := (1 : Int32) = 0) (tt := 7) (ff := 9) (L' := [.ref 3, .int a1, .retAddr 0, .retAddr 0, .retAddr 0]) (S' := []) (σ' := (97, I, J, R)) rfl (fun hn => absurd hn (by decide)) (fun _ => ?_)
      refine az_E.sn 2 (pc' := 11) (L' := [.ref 3, .int a1, .retAddr 0, .retAddr 0, .retAddr 0]) (S' := [.int a1, .ref 3]) (σ' := (97, I, J, R)) rfl ?_
      cases hx_4 : rs_X_refusalOfBook I a1 with
      | none => rw [hx_4] at h; cases h
      | some x_3 =>
        rw [hx_4] at h
        dsimp only at h
        refine az_E.call (d := 5) (k' := 150) (vs := [.ref 3, .int a1]) (pc' := 14) (S' := []) (Q1 := fun v s => v = some (.int x_3) ∧ s = (97, I, J, R)) rfl (az_E.deep (by omega) (re_X_refusalOfBook (J := J) (R := R)  hx_4 ⟨rfl, rfl⟩)) (fun v s hq => ?_)
        obtain ⟨rfl, rfl⟩ := hq
        show az_E az_F ex 6 108 14 [.ref 3, .int a1, .retAddr 0, .retAddr 0, .retAddr 0] [.int x_3] (97, I, J, R) _
        refine az_E.sn 2 (pc' := 16) (L' := [.ref 3, .int a1, .int x_3, .retAddr 0, .retAddr 0]) (S' := [.int x_3]) (σ' := (97, I, J, R)) rfl ?_
        refine az_E.br (c := x_3 = 0) (tt := 21) (ff := 19) (L' := [.ref 3, .int a1, .int x_3, .retAddr 0, .retAddr 0]) (S' := []) (σ' := (97, I, J, R)) rfl (fun hc_5 => ?_) (fun hc_5 => ?_)
        · rw [if_pos hc_5] at h
          refine az_E.sn 4 (pc' := 26) (L' := [.ref 3, .int a1, .int x_3, .int (0 : Int32), .int (0 : Int32)]) (S' := []) (σ' := (97, I, J, R)) rfl ?_
          exact az_E.forget (L := [.ref 3, .int a1, .retAddr 0, .int (0 : Int32), .int (0 : Int32)]) ⟨rfl, rfl, trivial, rfl, rfl, trivial⟩ (re_X_whose_26_21_16 (I := I) (J := J) (R := R) hR_3_2 hR_3_3 h hQ)
        · rw [if_neg hc_5] at h
          refine az_E.sn 1 (pc' := 20) (L' := [.ref 3, .int a1, .int x_3, .retAddr 0, .retAddr 0]) (S' := [.int x_3]) (σ' := (97, I, J, R)) rfl ?_
          have h := Option.some.inj h
          subst h
          exact az_E.ret (v := some (.int x_3)) (σ' := (97, I, J, R)) rfl (hQ _ hR_3_2 hR_3_3)
set_option maxRecDepth 100000 in
set_option maxHeartbeats 4000000 in
theorem re_X_longest_87_21_16 {ex : az_X} {I : Nat → Nat → Int32} {J : Nat → Nat → Int64} {R : Nat → Nat → Option Nat} {v2 : Int32} {v3 : Int32} {v5 : Int32} (hR_3_2 : R 3 2 = some 21) (hR_3_3 : R 3 3 = some 16) {x : Int32 × (Nat → Nat → Int32)} (h : rs_X_longest_87 16 21 I v2 v3 v5 = some x) {Q : Option Value → az_S → Prop} (hQ : ∀ R' : Nat → Nat → Option Nat, R' 3 2 = some 21 → R' 3 3 = some 16 → Q (some (.int x.1)) (97, x.2, J, R')) : az_E az_F ex 6 110 87 [.retAddr 0, .retAddr 0, .int v2, .int v3, .retAddr 0, .int v5, .retAddr 0, .retAddr 0] [] (97, I, J, (az_u (az_u R 26 2 (some 21)) 26 3 (some 5))) Q := by
  unfold rs_X_longest_87 at h
  refine az_E.sn 1 (pc' := 88) (L' := [.retAddr 0, .retAddr 0, .int v2, .int v3, .retAddr 0, .int v5, .retAddr 0, .retAddr 0]) (S' := [.int v2]) (σ' := (97, I, J, (az_u (az_u R 26 2 (some 21)) 26 3 (some 5)))) rfl ?_
  refine az_E.br (c := v2 = 0) (tt := 91) (ff := 95) (L' := [.retAddr 0, .retAddr 0, .int v2, .int v3, .retAddr 0, .int v5, .retAddr 0, .retAddr 0]) (S' := []) (σ' := (97, I, J, (az_u (az_u R 26 2 (some 21)) 26 3 (some 5)))) rfl (fun hc_7 => ?_) (fun hc_7 => ?_)
  · rw [if_pos hc_7] at h
    refine az_E.sn 2 (pc' := 97) (L' := [.retAddr 0, .retAddr 0, .int v2, .int v3, .retAddr 0, .int v5, .retAddr 0, .retAddr 0]) (S' := [.int v3]) (σ' := (97, I, J, (az_u (az_u R 26 2 (some 21)) 26 3 (some 5)))) rfl ?_
    have h := Option.some.inj h
    subst h
    exact az_E.ret (v := some (.int v3)) (σ' := (97, I, J, (az_u (az_u R 26 2 (some 21)) 26 3 (some 5)))) rfl (hQ _ hR_3_2 hR_3_3)
  · rw [if_neg hc_7] at h
    refine az_E.sn 1 (pc' := 97) (L' := [.retAddr 0, .retAddr 0, .int v2, .int v3, .retAddr 0, .int v5, .retAddr 0, .retAddr 0]) (S' := [.int v5]) (σ' := (97, I, J, (az_u (az_u R 26 2 (some 21)) 26 3 (some 5)))) rfl ?_
    have h := Option.some.inj h
    subst h
    exact az_E.ret (v := some (.int v5)) (σ' := (97, I, J, (az_u (az_u R 26 2 (some 21)) 26 3 (some 5)))) rfl (hQ _ hR_3_2 hR_3_3)
set_option maxRecDepth 100000 in
set_option maxHeartbeats 4000000 in
theorem re_X_longest_34_b_21_16 {ex : az_X} {I : Nat → Nat → Int32} {J : Nat → Nat → Int64} {R : Nat → Nat → Option Nat} {v2 : Int32} {v3 : Int32} {v4 : Int32} {v5 : Int32} {v6 : Int32} (hR_3_2 : R 3 2 = some 21) (hR_3_3 : R 3 3 = some 16) {x : ((Int32 × Int32 × Int32 × Int32 × (Nat → Nat → Int32)) ⊕ (Int32 × (Nat → Nat → Int32)))} (h : rs_X_longest_34_b 16 21 v2 v3 v4 v5 v6 I = some x) {Q : Option Value → az_S → Prop} (hQ : Sum.elim (fun s => az_E az_F ex 6 110 34 [.ref 3, .retAddr 0, .int v2, .int s.1, .int s.2.1, .int s.2.2.1, .int s.2.2.2.1, .retAddr 0] [] (97, s.2.2.2.2, J, (az_u (az_u R 26 2 (some 21)) 26 3 (some 5))) Q) (fun x => ∀ R' : Nat → Nat → Option Nat, R' 3 2 = some 21 → R' 3 3 = some 16 → Q (some (.int x.1)) (97, x.2, J, R')) x) : az_E az_F ex 6 110 34 [.ref 3, .retAddr 0, .int v2, .int v3, .int v4, .int v5, .int v6, .retAddr 0] [] (97, I, J, (az_u (az_u R 26 2 (some 21)) 26 3 (some 5))) Q := by
  unfold rs_X_longest_34_b at h
  refine az_E.sn 4 (pc' := 43) (L' := [.ref 3, .retAddr 0, .int v2, .int v3, .int v4, .int v5, .int v6, .retAddr 0]) (S' := [.int (I 4 3), .int v6]) (σ' := (97, I, J, (az_u (az_u R 26 2 (some 21)) 26 3 (some 5)))) rfl ?_
  refine az_E.br (c := (I 4 3) ≤ v6) (tt := 87) (ff := 46) (L' := [.ref 3, .retAddr 0, .int v2, .int v3, .int v4, .int v5, .int v6, .retAddr 0]) (S' := []) (σ' := (97, I, J, (az_u (az_u R 26 2 (some 21)) 26 3 (some 5)))) rfl (fun hc_6 => ?_) (fun hc_6 => ?_)
  · rw [if_pos hc_6] at h
    obtain ⟨x, hx, rfl⟩ := Option.map_eq_some_iff.mp h
    exact az_E.forget (L := [.retAddr 0, .retAddr 0, .int v2, .int v3, .retAddr 0, .int v5, .retAddr 0, .retAddr 0]) ⟨trivial, trivial, rfl, rfl, trivial, rfl, trivial, trivial, trivial⟩ (re_X_longest_87_21_16 (I := I) (J := J) (R := R) hR_3_2 hR_3_3 hx hQ)
  · rw [if_neg hc_6] at h
    refine az_E.sn 2 (pc' := 49) (L' := [.ref 3, .retAddr 0, .int v2, .int v3, .int v4, .int v5, .int v6, .retAddr 0]) (S' := [.int v6, .ref 3]) (σ' := (97, I, J, (az_u (az_u R 26 2 (some 21)) 26 3 (some 5)))) rfl ?_
    cases hx_10 : rs_X_armAt I v6 with
    | none => rw [hx_10] at h; cases h
    | some o =>
      rw [hx_10] at h
      obtain ⟨x_8, I_9⟩ := o
      dsimp only at h
      refine az_E.call (d := 5) (k' := 146) (vs := [.ref 3, .int v6]) (pc' := 52) (S' := []) (Q1 := fun v s => v = some (.int x_8) ∧ s = (97, I_9, J, (az_u (az_u R 26 2 (some 21)) 26 3 (some 5)))) rfl (az_E.deep (by omega) (re_X_armAt_5 (J := J) (R := (az_u (az_u R 26 2 (some 21)) 26 3 (some 5))) rfl hx_10 ⟨rfl, rfl⟩)) (fun v s hq => ?_)
      obtain ⟨rfl, rfl⟩ := hq
      show az_E az_F ex 6 110 52 [.ref 3, .retAddr 0, .int v2, .int v3, .int v4, .int v5, .int v6, .retAddr 0] [.int x_8] (97, I_9, J, (az_u (az_u R 26 2 (some 21)) 26 3 (some 5))) _
      refine az_E.sn 7 (pc' := 64) (L' := [.ref 3, .retAddr 0, .int v2, .int v3, .int v4, .int (v5 + x_8), .int v6, .int x_8]) (S' := [.int (-2 : Int32), .int v3]) (σ' := (97, I_9, J, (az_u (az_u R 26 2 (some 21)) 26 3 (some 5)))) rfl ?_
      refine az_E.br (c := v3 = (-2 : Int32)) (tt := 74) (ff := 67) (L' := [.ref 3, .retAddr 0, .int v2, .int v3, .int v4, .int (v5 + x_8), .int v6, .int x_8]) (S' := []) (σ' := (97, I_9, J, (az_u (az_u R 26 2 (some 21)) 26 3 (some 5)))) rfl (fun hc_11 => ?_) (fun hc_11 => ?_)
      · rw [if_pos hc_11] at h
        refine az_E.sn 6 (pc' := 34) (L' := [.ref 3, .retAddr 0, .int v2, .int v6, .int x_8, .int (v5 + x_8), .int (v6 + (1 : Int32)), .int x_8]) (S' := []) (σ' := (97, I_9, J, (az_u (az_u R 26 2 (some 21)) 26 3 (some 5)))) rfl ?_
        have h := Option.some.inj h
        subst h
        exact az_E.forget (L := [.ref 3, .retAddr 0, .int v2, .int v6, .int x_8, .int (v5 + x_8), .int (v6 + (1 : Int32)), .retAddr 0]) ⟨rfl, trivial, rfl, rfl, rfl, rfl, rfl, trivial, trivial⟩ hQ
      · rw [if_neg hc_11] at h
        refine az_E.sn 2 (pc' := 71) (L' := [.ref 3, .retAddr 0, .int v2, .int v3, .int v4, .int (v5 + x_8), .int v6, .int x_8]) (S' := [.int v4, .int x_8]) (σ' := (97, I_9, J, (az_u (az_u R 26 2 (some 21)) 26 3 (some 5)))) rfl ?_
        refine az_E.br (c := x_8 ≤ v4) (tt := 81) (ff := 74) (L' := [.ref 3, .retAddr 0, .int v2, .int v3, .int v4, .int (v5 + x_8), .int v6, .int x_8]) (S' := []) (σ' := (97, I_9, J, (az_u (az_u R 26 2 (some 21)) 26 3 (some 5)))) rfl (fun hc_12 => ?_) (fun hc_12 => ?_)
        · rw [if_pos hc_12] at h
          refine az_E.sn 2 (pc' := 34) (L' := [.ref 3, .retAddr 0, .int v2, .int v3, .int v4, .int (v5 + x_8), .int (v6 + (1 : Int32)), .int x_8]) (S' := []) (σ' := (97, I_9, J, (az_u (az_u R 26 2 (some 21)) 26 3 (some 5)))) rfl ?_
          have h := Option.some.inj h
          subst h
          exact az_E.forget (L := [.ref 3, .retAddr 0, .int v2, .int v3, .int v4, .int (v5 + x_8), .int (v6 + (1 : Int32)), .retAddr 0]) ⟨rfl, trivial, rfl, rfl, rfl, rfl, rfl, trivial, trivial⟩ hQ
        · rw [if_neg hc_12] at h
          refine az_E.sn 6 (pc' := 34) (L' := [.ref 3, .retAddr 0, .int v2, .int v6, .int x_8, .int (v5 + x_8), .int (v6 + (1 : Int32)), .int x_8]) (S' := []) (σ' := (97, I_9, J, (az_u (az_u R 26 2 (some 21)) 26 3 (some 5)))) rfl ?_
          have h := Option.some.inj h
          subst h
          exact az_E.forget (L := [.ref 3, .retAddr 0, .int v2, .int v6, .int x_8, .int (v5 + x_8), .int (v6 + (1 : Int32)), .retAddr 0]) ⟨rfl, trivial, rfl, rfl, rfl, rfl, rfl, trivial, trivial⟩ hQ
set_option maxRecDepth 100000 in
set_option maxHeartbeats 4000000 in
theorem re_X_longest_34_21_16 {ex : az_X} {I : Nat → Nat → Int32} {J : Nat → Nat → Int64} {R : Nat → Nat → Option Nat} {v2 : Int32} {v3 : Int32} {v4 : Int32} {v5 : Int32} {v6 : Int32} (hR_3_2 : R 3 2 = some 21) (hR_3_3 : R 3 3 = some 16) {x : Int32 × (Nat → Nat → Int32)} (h : rs_X_longest_34 16 21 I v2 v3 v4 v5 v6 = some x) {Q : Option Value → az_S → Prop} (hQ : ∀ R' : Nat → Nat → Option Nat, R' 3 2 = some 21 → R' 3 3 = some 16 → Q (some (.int x.1)) (97, x.2, J, R')) : az_E az_F ex 6 110 34 [.ref 3, .retAddr 0, .int v2, .int v3, .int v4, .int v5, .int v6, .retAddr 0] [] (97, I, J, (az_u (az_u R 26 2 (some 21)) 26 3 (some 5))) Q := by
  unfold rs_X_longest_34 at h
  refine az_lp_E (G := fun s => az_E az_F ex 6 110 34 [.ref 3, .retAddr 0, .int v2, .int s.1, .int s.2.1, .int s.2.2.1, .int s.2.2.2.1, .retAddr 0] [] (97, s.2.2.2.2, J, (az_u (az_u R 26 2 (some 21)) 26 3 (some 5))) Q) (H := fun x => ∀ R' : Nat → Nat → Option Nat, R' 3 2 = some 21 → R' 3 3 = some 16 → Q (some (.int x.1)) (97, x.2, J, R')) (fun s o hb ho => ?_) _ _ _ h hQ
  exact re_X_longest_34_b_21_16 hR_3_2 hR_3_3 hb ho
set_option maxRecDepth 100000 in
set_option maxHeartbeats 4000000 in
theorem re_X_longest_21_16 {ex : az_X} {I : Nat → Nat → Int32} {J : Nat → Nat → Int64} {R : Nat → Nat → Option Nat} {a1 : Int32} {a2 : Int32} (hR_3_2 : R 3 2 = some 21) (hR_3_3 : R 3 3 = some 16) {o : Int32 × (Nat → Nat → Int32)} (h : rs_X_longest 16 21 I a1 a2 = some o) {Q : Option Value → az_S → Prop} (hQ : ∀ R' : Nat → Nat → Option Nat, R' 3 2 = some 21 → R' 3 3 = some 16 → Q (some (.int o.1)) (97, o.2, J, R')) : az_E az_F ex 6 110 0 [.ref 3, .int a1, .int a2, .retAddr 0, .retAddr 0, .retAddr 0, .retAddr 0, .retAddr 0] [] (97, I, J, R) Q := by
  unfold rs_X_longest at h
  refine az_E.sn 2 (pc' := 2) (L' := [.ref 3, .int a1, .int a2, .retAddr 0, .retAddr 0, .retAddr 0, .retAddr 0, .retAddr 0]) (S' := [.int a1, .ref 3]) (σ' := (97, I, J, R)) rfl ?_
  refine az_E.call (d := 5) (k' := 138) (vs := [.ref 3, .int a1]) (pc' := 5) (S' := []) rfl ?_ (fun _ _ hq => hq)
  show az_E az_F ex 5 138 0 [.ref 3, .int a1] [] (97, I, J, R) _
  refine az_E.sn 7 (pc' := 11) (L' := [.ref 3, .int a1]) (S' := [.int ((I 4 9) - (1 : Int32)), .int (0 : Int32), .int a1]) (σ' := (97, I, J, R)) rfl ?_
  refine az_E.call (d := 4) (k' := 131) (vs := [.int a1, .int (0 : Int32), .int ((I 4 9) - (1 : Int32))]) (pc' := 14) (S' := []) rfl ?_ (fun _ _ hq => hq)
  show az_E az_F ex 4 131 0 [.int a1, .int (0 : Int32), .int ((I 4 9) - (1 : Int32))] [] (97, I, J, R) _
  refine az_E.sn 2 (pc' := 2) (L' := [.int a1, .int (0 : Int32), .int ((I 4 9) - (1 : Int32))]) (S' := [.int (0 : Int32), .int a1]) (σ' := (97, I, J, R)) rfl ?_
  refine az_E.br (c := a1 < (0 : Int32)) (tt := 14) (ff := 5) (L' := [.int a1, .int (0 : Int32), .int ((I 4 9) - (1 : Int32))]) (S' := []) (σ' := (97, I, J, R)) rfl (fun hc_1 => ?_) (fun hc_1 => ?_)
  · rw [if_pos hc_1] at h
    refine az_E.sn 1 (pc' := 15) (L' := [.int a1, .int (0 : Int32), .int ((I 4 9) - (1 : Int32))]) (S' := [.int (0 : Int32)]) (σ' := (97, I, J, R)) rfl ?_
    refine az_E.ret (v := some (.int (0 : Int32))) (σ' := (97, I, J, R)) rfl ?_
    show az_E az_F ex 5 138 14 [.ref 3, .int a1] [.int (0 : Int32)] (97, I, J, R) _
    refine az_E.ret (v := some (.int (0 : Int32))) (σ' := (97, I, J, R)) rfl ?_
    show az_E az_F ex 6 110 5 [.ref 3, .int a1, .int a2, .retAddr 0, .retAddr 0, .retAddr 0, .retAddr 0, .retAddr 0] [.int (0 : Int32)] (97, I, J, R) _
    refine az_E.br (c := (0 : Int32) = 0) (tt := 15) (ff := 8) (L' := [.ref 3, .int a1, .int a2, .retAddr 0, .retAddr 0, .retAddr 0, .retAddr 0, .retAddr 0]) (S' := []) (σ' := (97, I, J, R)) rfl (fun _ => ?_) (fun hn => absurd (by decide) hn)
    refine az_E.sn 1 (pc' := 16) (L' := [.ref 3, .int a1, .int a2, .retAddr 0, .retAddr 0, .retAddr 0, .retAddr 0, .retAddr 0]) (S' := [.int (-1 : Int32)]) (σ' := (97, I, J, R)) rfl ?_
    have h := Option.some.inj h
    subst h
    exact az_E.ret (v := some (.int (-1 : Int32))) (σ' := (97, I, J, R)) rfl (hQ _ hR_3_2 hR_3_3)
  · rw [if_neg hc_1] at h
    refine az_E.sn 2 (pc' := 7) (L' := [.int a1, .int (0 : Int32), .int ((I 4 9) - (1 : Int32))]) (S' := [.int ((I 4 9) - (1 : Int32)), .int a1]) (σ' := (97, I, J, R)) rfl ?_
    refine az_E.br (c := ((I 4 9) - (1 : Int32)) < a1) (tt := 14) (ff := 10) (L' := [.int a1, .int (0 : Int32), .int ((I 4 9) - (1 : Int32))]) (S' := []) (σ' := (97, I, J, R)) rfl (fun hc_2 => ?_) (fun hc_2 => ?_)
    · rw [if_pos hc_2] at h
      refine az_E.sn 1 (pc' := 15) (L' := [.int a1, .int (0 : Int32), .int ((I 4 9) - (1 : Int32))]) (S' := [.int (0 : Int32)]) (σ' := (97, I, J, R)) rfl ?_
      refine az_E.ret (v := some (.int (0 : Int32))) (σ' := (97, I, J, R)) rfl ?_
      show az_E az_F ex 5 138 14 [.ref 3, .int a1] [.int (0 : Int32)] (97, I, J, R) _
      refine az_E.ret (v := some (.int (0 : Int32))) (σ' := (97, I, J, R)) rfl ?_
      show az_E az_F ex 6 110 5 [.ref 3, .int a1, .int a2, .retAddr 0, .retAddr 0, .retAddr 0, .retAddr 0, .retAddr 0] [.int (0 : Int32)] (97, I, J, R) _
      refine az_E.br (c := (0 : Int32) = 0) (tt := 15) (ff := 8) (L' := [.ref 3, .int a1, .int a2, .retAddr 0, .retAddr 0, .retAddr 0, .retAddr 0, .retAddr 0]) (S' := []) (σ' := (97, I, J, R)) rfl (fun _ => ?_) (fun hn => absurd (by decide) hn)
      refine az_E.sn 1 (pc' := 16) (L' := [.ref 3, .int a1, .int a2, .retAddr 0, .retAddr 0, .retAddr 0, .retAddr 0, .retAddr 0]) (S' := [.int (-1 : Int32)]) (σ' := (97, I, J, R)) rfl ?_
      have h := Option.some.inj h
      subst h
      exact az_E.ret (v := some (.int (-1 : Int32))) (σ' := (97, I, J, R)) rfl (hQ _ hR_3_2 hR_3_3)
    · rw [if_neg hc_2] at h
      refine az_E.sn 2 (pc' := 15) (L' := [.int a1, .int (0 : Int32), .int ((I 4 9) - (1 : Int32))]) (S' := [.int (1 : Int32)]) (σ' := (97, I, J, R)) rfl ?_
      refine az_E.ret (v := some (.int (1 : Int32))) (σ' := (97, I, J, R)) rfl ?_
      show az_E az_F ex 5 138 14 [.ref 3, .int a1] [.int (1 : Int32)] (97, I, J, R) _
      refine az_E.ret (v := some (.int (1 : Int32))) (σ' := (97, I, J, R)) rfl ?_
      show az_E az_F ex 6 110 5 [.ref 3, .int a1, .int a2, .retAddr 0, .retAddr 0, .retAddr 0, .retAddr 0, .retAddr 0] [.int (1 : Int32)] (97, I, J, R) _
      refine az_E.br (c := (1 : Int32) = 0) (tt := 15) (ff := 8) (L' := [.ref 3, .int a1, .int a2, .retAddr 0, .retAddr 0, .retAddr 0, .retAddr 0, .retAddr 0]) (S' := []) (σ' := (97, I, J, R)) rfl (fun hn => absurd hn (by decide)) (fun _ => ?_)
      refine az_E.sn 1 (pc' := 9) (L' := [.ref 3, .int a1, .int a2, .retAddr 0, .retAddr 0, .retAddr 0, .retAddr 0, .retAddr 0]) (S' := [.int a2]) (σ' := (97, I, J, R)) rfl ?_
      refine az_E.call (d := 5) (k' := 132) (vs := [.int a2]) (pc' := 12) (S' := []) rfl ?_ (fun _ _ hq => hq)
      show az_E az_F ex 5 132 0 [.int a2] [] (97, I, J, R) _
      refine az_E.sn 1 (pc' := 1) (L' := [.int a2]) (S' := [.int a2]) (σ' := (97, I, J, R)) rfl ?_
      refine az_E.br (c := a2 = 0) (tt := 9) (ff := 4) (L' := [.int a2]) (S' := []) (σ' := (97, I, J, R)) rfl (fun hc_3 => ?_) (fun hc_3 => ?_)
      · rw [if_pos hc_3] at h
        refine az_E.sn 2 (pc' := 14) (L' := [.int a2]) (S' := [.int (1 : Int32)]) (σ' := (97, I, J, R)) rfl ?_
        refine az_E.ret (v := some (.int (1 : Int32))) (σ' := (97, I, J, R)) rfl ?_
        show az_E az_F ex 6 110 12 [.ref 3, .int a1, .int a2, .retAddr 0, .retAddr 0, .retAddr 0, .retAddr 0, .retAddr 0] [.int (1 : Int32)] (97, I, J, R) _
        refine az_E.br (c := (1 : Int32) = 0) (tt := 15) (ff := 17) (L' := [.ref 3, .int a1, .int a2, .retAddr 0, .retAddr 0, .retAddr 0, .retAddr 0, .retAddr 0]) (S' := []) (σ' := (97, I, J, R)) rfl (fun hn => absurd hn (by decide)) (fun _ => ?_)
        refine az_E.sn 2 (pc' := 19) (L' := [.ref 3, .int a1, .int a2, .retAddr 0, .retAddr 0, .retAddr 0, .retAddr 0, .retAddr 0]) (S' := [.int a1, .ref 3]) (σ' := (97, I, J, R)) rfl ?_
        cases hx_5 : rs_X_setPace 21 I a1 with
        | none => rw [hx_5] at h; cases h
        | some I_4 =>
          rw [hx_5] at h
          dsimp only at h
          refine az_E.call (d := 5) (k' := 144) (vs := [.ref 3, .int a1]) (pc' := 22) (S' := []) (Q1 := fun v s => v = none ∧ s = (97, I_4, J, (az_u (az_u R 26 2 (some 21)) 26 3 (some 5)))) rfl (az_E.deep (by omega) (re_X_setPace_21 (J := J) (R := R) hR_3_2 hx_5 ⟨rfl, rfl⟩)) (fun v s hq => ?_)
          obtain ⟨rfl, rfl⟩ := hq
          show az_E az_F ex 6 110 22 [.ref 3, .int a1, .int a2, .retAddr 0, .retAddr 0, .retAddr 0, .retAddr 0, .retAddr 0] [] (97, I_4, J, (az_u (az_u R 26 2 (some 21)) 26 3 (some 5))) _
          refine az_E.sn 8 (pc' := 34) (L' := [.ref 3, .int a1, .int a2, .int (-2 : Int32), .int (0 : Int32), .int (0 : Int32), .int (0 : Int32), .retAddr 0]) (S' := []) (σ' := (97, I_4, J, (az_u (az_u R 26 2 (some 21)) 26 3 (some 5)))) rfl ?_
          exact az_E.forget (L := [.ref 3, .retAddr 0, .int a2, .int (-2 : Int32), .int (0 : Int32), .int (0 : Int32), .int (0 : Int32), .retAddr 0]) ⟨rfl, trivial, rfl, rfl, rfl, rfl, rfl, trivial, trivial⟩ (re_X_longest_34_21_16 (I := I_4) (J := J) (R := R) hR_3_2 hR_3_3 h hQ)
      · rw [if_neg hc_3] at h
        refine az_E.sn 2 (pc' := 6) (L' := [.int a2]) (S' := [.int (1 : Int32), .int a2]) (σ' := (97, I, J, R)) rfl ?_
        refine az_E.br (c := a2 = (1 : Int32)) (tt := 9) (ff := 13) (L' := [.int a2]) (S' := []) (σ' := (97, I, J, R)) rfl (fun hc_13 => ?_) (fun hc_13 => ?_)
        · rw [if_pos hc_13] at h
          refine az_E.sn 2 (pc' := 14) (L' := [.int a2]) (S' := [.int (1 : Int32)]) (σ' := (97, I, J, R)) rfl ?_
          refine az_E.ret (v := some (.int (1 : Int32))) (σ' := (97, I, J, R)) rfl ?_
          show az_E az_F ex 6 110 12 [.ref 3, .int a1, .int a2, .retAddr 0, .retAddr 0, .retAddr 0, .retAddr 0, .retAddr 0] [.int (1 : Int32)] (97, I, J, R) _
          refine az_E.br (c := (1 : Int32) = 0) (tt := 15) (ff := 17) (L' := [.ref 3, .int a1, .int a2, .retAddr 0, .retAddr 0, .retAddr 0, .retAddr 0, .retAddr 0]) (S' := []) (σ' := (97, I, J, R)) rfl (fun hn => absurd hn (by decide)) (fun _ => ?_)
          refine az_E.sn 2 (pc' := 19) (L' := [.ref 3, .int a1, .int a2, .retAddr 0, .retAddr 0, .retAddr 0, .retAddr 0, .retAddr 0]) (S' := [.int a1, .ref 3]) (σ' := (97, I, J, R)) rfl ?_
          cases hx_15 : rs_X_setPace 21 I a1 with
          | none => rw [hx_15] at h; cases h
          | some I_14 =>
            rw [hx_15] at h
            dsimp only at h
            refine az_E.call (d := 5) (k' := 144) (vs := [.ref 3, .int a1]) (pc' := 22) (S' := []) (Q1 := fun v s => v = none ∧ s = (97, I_14, J, (az_u (az_u R 26 2 (some 21)) 26 3 (some 5)))) rfl (az_E.deep (by omega) (re_X_setPace_21 (J := J) (R := R) hR_3_2 hx_15 ⟨rfl, rfl⟩)) (fun v s hq => ?_)
            obtain ⟨rfl, rfl⟩ := hq
            show az_E az_F ex 6 110 22 [.ref 3, .int a1, .int a2, .retAddr 0, .retAddr 0, .retAddr 0, .retAddr 0, .retAddr 0] [] (97, I_14, J, (az_u (az_u R 26 2 (some 21)) 26 3 (some 5))) _
            refine az_E.sn 8 (pc' := 34) (L' := [.ref 3, .int a1, .int a2, .int (-2 : Int32), .int (0 : Int32), .int (0 : Int32), .int (0 : Int32), .retAddr 0]) (S' := []) (σ' := (97, I_14, J, (az_u (az_u R 26 2 (some 21)) 26 3 (some 5)))) rfl ?_
            exact az_E.forget (L := [.ref 3, .retAddr 0, .int a2, .int (-2 : Int32), .int (0 : Int32), .int (0 : Int32), .int (0 : Int32), .retAddr 0]) ⟨rfl, trivial, rfl, rfl, rfl, rfl, rfl, trivial, trivial⟩ (re_X_longest_34_21_16 (I := I_14) (J := J) (R := R) hR_3_2 hR_3_3 h hQ)
        · rw [if_neg hc_13] at h
          refine az_E.sn 1 (pc' := 14) (L' := [.int a2]) (S' := [.int (0 : Int32)]) (σ' := (97, I, J, R)) rfl ?_
          refine az_E.ret (v := some (.int (0 : Int32))) (σ' := (97, I, J, R)) rfl ?_
          show az_E az_F ex 6 110 12 [.ref 3, .int a1, .int a2, .retAddr 0, .retAddr 0, .retAddr 0, .retAddr 0, .retAddr 0] [.int (0 : Int32)] (97, I, J, R) _
          refine az_E.br (c := (0 : Int32) = 0) (tt := 15) (ff := 17) (L' := [.ref 3, .int a1, .int a2, .retAddr 0, .retAddr 0, .retAddr 0, .retAddr 0, .retAddr 0]) (S' := []) (σ' := (97, I, J, R)) rfl (fun _ => ?_) (fun hn => absurd (by decide) hn)
          refine az_E.sn 1 (pc' := 16) (L' := [.ref 3, .int a1, .int a2, .retAddr 0, .retAddr 0, .retAddr 0, .retAddr 0, .retAddr 0]) (S' := [.int (-1 : Int32)]) (σ' := (97, I, J, R)) rfl ?_
          have h := Option.some.inj h
          subst h
          exact az_E.ret (v := some (.int (-1 : Int32))) (σ' := (97, I, J, R)) rfl (hQ _ hR_3_2 hR_3_3)
set_option maxRecDepth 100000 in
set_option maxHeartbeats 4000000 in
theorem re_X_drawn_147_21_16 {ex : az_X} {I : Nat → Nat → Int32} {J : Nat → Nat → Int64} {R : Nat → Nat → Option Nat} {v3 : Int32} {v5 : Int32} {v6 : Int32} (hR_3_2 : R 3 2 = some 21) (hR_3_3 : R 3 3 = some 16) {x : Int32 × (Nat → Nat → Int32)} (h : rs_X_drawn_147 16 21 I v3 v5 v6 = some x) {Q : Option Value → az_S → Prop} (hQ : ∀ R' : Nat → Nat → Option Nat, R' 3 2 = some 21 → R' 3 3 = some 16 → Q (some (.int x.1)) (97, x.2, J, R')) : az_E az_F ex 5 111 147 [.retAddr 0, .retAddr 0, .retAddr 0, .int v3, .retAddr 0, .int v5, .int v6, .retAddr 0, .retAddr 0] [] (97, I, J, R) Q := by
  unfold rs_X_drawn_147 at h
  refine az_E.sn 1 (pc' := 148) (L' := [.retAddr 0, .retAddr 0, .retAddr 0, .int v3, .retAddr 0, .int v5, .int v6, .retAddr 0, .retAddr 0]) (S' := [.int v3]) (σ' := (97, I, J, R)) rfl ?_
  refine az_E.br (c := v3 = 0) (tt := 151) (ff := 156) (L' := [.retAddr 0, .retAddr 0, .retAddr 0, .int v3, .retAddr 0, .int v5, .int v6, .retAddr 0, .retAddr 0]) (S' := []) (σ' := (97, I, J, R)) rfl (fun hc_6 => ?_) (fun hc_6 => ?_)
  · rw [if_pos hc_6] at h
    refine az_E.sn 2 (pc' := 158) (L' := [.retAddr 0, .retAddr 0, .retAddr 0, .int v3, .retAddr 0, .int v5, .int v6, .retAddr 0, .retAddr 0]) (S' := [.int v5]) (σ' := (97, I, J, R)) rfl ?_
    have h := Option.some.inj h
    subst h
    exact az_E.ret (v := some (.int v5)) (σ' := (97, I, J, R)) rfl (hQ _ hR_3_2 hR_3_3)
  · rw [if_neg hc_6] at h
    refine az_E.sn 1 (pc' := 158) (L' := [.retAddr 0, .retAddr 0, .retAddr 0, .int v3, .retAddr 0, .int v5, .int v6, .retAddr 0, .retAddr 0]) (S' := [.int v6]) (σ' := (97, I, J, R)) rfl ?_
    have h := Option.some.inj h
    subst h
    exact az_E.ret (v := some (.int v6)) (σ' := (97, I, J, R)) rfl (hQ _ hR_3_2 hR_3_3)
set_option maxRecDepth 100000 in
set_option maxHeartbeats 4000000 in
theorem re_X_drawn_43_b_21_16 {ex : az_X} {I : Nat → Nat → Int32} {J : Nat → Nat → Int64} {R : Nat → Nat → Option Nat} {v2 : Int32} {v3 : Int32} {v4 : Int32} {v5 : Int32} {v6 : Int32} {v7 : Int32} (hR_3_2 : R 3 2 = some 21) (hR_3_3 : R 3 3 = some 16) {x : ((Int32 × Int32 × Int32 × Int32 × (Nat → Nat → Int32)) ⊕ (Int32 × (Nat → Nat → Int32)))} (h : rs_X_drawn_43_b 16 21 v2 v3 v4 v5 v6 v7 I = some x) {Q : Option Value → az_S → Prop} (hQ : Sum.elim (fun s => ∀ R : Nat → Nat → Option Nat, R 3 2 = some 21 → R 3 3 = some 16 → az_E az_F ex 5 111 43 [.ref 3, .retAddr 0, .int v2, .int v3, .int s.1, .int s.2.1, .int s.2.2.1, .int s.2.2.2.1, .retAddr 0] [] (97, s.2.2.2.2, J, R) Q) (fun x => ∀ R' : Nat → Nat → Option Nat, R' 3 2 = some 21 → R' 3 3 = some 16 → Q (some (.int x.1)) (97, x.2, J, R')) x) : az_E az_F ex 5 111 43 [.ref 3, .retAddr 0, .int v2, .int v3, .int v4, .int v5, .int v6, .int v7, .retAddr 0] [] (97, I, J, R) Q := by
  unfold rs_X_drawn_43_b at h
  refine az_E.sn 2 (pc' := 46) (L' := [.ref 3, .retAddr 0, .int v2, .int v3, .int v4, .int v5, .int v6, .int v7, .retAddr 0]) (S' := [.int v2, .int v7]) (σ' := (97, I, J, R)) rfl ?_
  refine az_E.br (c := v2 ≤ v7) (tt := 147) (ff := 49) (L' := [.ref 3, .retAddr 0, .int v2, .int v3, .int v4, .int v5, .int v6, .int v7, .retAddr 0]) (S' := []) (σ' := (97, I, J, R)) rfl (fun hc_5 => ?_) (fun hc_5 => ?_)
  · rw [if_pos hc_5] at h
    obtain ⟨x, hx, rfl⟩ := Option.map_eq_some_iff.mp h
    exact az_E.forget (L := [.retAddr 0, .retAddr 0, .retAddr 0, .int v3, .retAddr 0, .int v5, .int v6, .retAddr 0, .retAddr 0]) ⟨trivial, trivial, trivial, rfl, trivial, rfl, rfl, trivial, trivial, trivial⟩ (re_X_drawn_147_21_16 (I := I) (J := J) (R := R) hR_3_2 hR_3_3 hx hQ)
  · rw [if_neg hc_5] at h
    refine az_E.sn 9 (pc' := 66) (L' := [.ref 3, .retAddr 0, .int v2, .int v3, .int ((v4 * (1103515245 : Int32)) + (12345 : Int32)), .int v5, .int v6, .int v7, .retAddr 0]) (S' := [.ref 3, .ref 26]) (σ' := (97, I, J, R)) rfl ?_
    refine az_E.ov (pc' := 69) (L' := [.ref 3, .retAddr 0, .int v2, .int v3, .int ((v4 * (1103515245 : Int32)) + (12345 : Int32)), .int v5, .int v6, .int v7, .retAddr 0]) (S' := [.ref 26]) (σ' := (97, I, J, R)) (x := .ref 21) rfl (congrArg (fun z => some (va_rf z)) hR_3_2) ?_
    refine az_E.sn 6 (pc' := 80) (L' := [.ref 3, .retAddr 0, .int v2, .int v3, .int ((v4 * (1103515245 : Int32)) + (12345 : Int32)), .int v5, .int v6, .int v7, .retAddr 0]) (S' := [.int (19 : Int32), .int (((v4 * (1103515245 : Int32)) + (12345 : Int32)).toUInt32 >>> ((8 : Int32).toUInt32 &&& Int32.toUInt32 31)).toInt32, .ref 4, .ref 21, .ref 26]) (σ' := (97, I, J, R)) rfl ?_
    have hd_7 : ¬ ((19 : Int32) = 0) := by decide
    refine az_E.dv (c := (19 : Int32) = 0) (pc' := 81) (L' := [.ref 3, .retAddr 0, .int v2, .int v3, .int ((v4 * (1103515245 : Int32)) + (12345 : Int32)), .int v5, .int v6, .int v7, .retAddr 0]) (S' := [.int ((((v4 * (1103515245 : Int32)) + (12345 : Int32)).toUInt32 >>> ((8 : Int32).toUInt32 &&& Int32.toUInt32 31)).toInt32 - (((v4 * (1103515245 : Int32)) + (12345 : Int32)).toUInt32 >>> ((8 : Int32).toUInt32 &&& Int32.toUInt32 31)).toInt32 / (19 : Int32) * (19 : Int32)), .ref 4, .ref 21, .ref 26]) (σ' := (97, I, J, R)) rfl hd_7 ?_
    refine az_E.sn 6 (pc' := 91) (L' := [.ref 3, .retAddr 0, .int v2, .int v3, .int ((v4 * (1103515245 : Int32)) + (12345 : Int32)), .int v5, .int v6, .int v7, .retAddr 0]) (S' := [.int (10 : Int32), .int (((v4 * (1103515245 : Int32)) + (12345 : Int32)).toUInt32 >>> ((16 : Int32).toUInt32 &&& Int32.toUInt32 31)).toInt32, .int (((((v4 * (1103515245 : Int32)) + (12345 : Int32)).toUInt32 >>> ((8 : Int32).toUInt32 &&& Int32.toUInt32 31)).toInt32 - (((v4 * (1103515245 : Int32)) + (12345 : Int32)).toUInt32 >>> ((8 : Int32).toUInt32 &&& Int32.toUInt32 31)).toInt32 / (19 : Int32) * (19 : Int32)) + (-9 : Int32)), .ref 4, .ref 21, .ref 26]) (σ' := (97, I, J, R)) rfl ?_
    have hd_8 : ¬ ((10 : Int32) = 0) := by decide
    refine az_E.dv (c := (10 : Int32) = 0) (pc' := 92) (L' := [.ref 3, .retAddr 0, .int v2, .int v3, .int ((v4 * (1103515245 : Int32)) + (12345 : Int32)), .int v5, .int v6, .int v7, .retAddr 0]) (S' := [.int ((((v4 * (1103515245 : Int32)) + (12345 : Int32)).toUInt32 >>> ((16 : Int32).toUInt32 &&& Int32.toUInt32 31)).toInt32 - (((v4 * (1103515245 : Int32)) + (12345 : Int32)).toUInt32 >>> ((16 : Int32).toUInt32 &&& Int32.toUInt32 31)).toInt32 / (10 : Int32) * (10 : Int32)), .int (((((v4 * (1103515245 : Int32)) + (12345 : Int32)).toUInt32 >>> ((8 : Int32).toUInt32 &&& Int32.toUInt32 31)).toInt32 - (((v4 * (1103515245 : Int32)) + (12345 : Int32)).toUInt32 >>> ((8 : Int32).toUInt32 &&& Int32.toUInt32 31)).toInt32 / (19 : Int32) * (19 : Int32)) + (-9 : Int32)), .ref 4, .ref 21, .ref 26]) (σ' := (97, I, J, R)) rfl hd_8 ?_
    refine az_E.sn 1 (pc' := 93) (L' := [.ref 3, .retAddr 0, .int v2, .int v3, .int ((v4 * (1103515245 : Int32)) + (12345 : Int32)), .int v5, .int v6, .int v7, .retAddr 0]) (S' := [.int (5 : Int32), .int ((((v4 * (1103515245 : Int32)) + (12345 : Int32)).toUInt32 >>> ((16 : Int32).toUInt32 &&& Int32.toUInt32 31)).toInt32 - (((v4 * (1103515245 : Int32)) + (12345 : Int32)).toUInt32 >>> ((16 : Int32).toUInt32 &&& Int32.toUInt32 31)).toInt32 / (10 : Int32) * (10 : Int32)), .int (((((v4 * (1103515245 : Int32)) + (12345 : Int32)).toUInt32 >>> ((8 : Int32).toUInt32 &&& Int32.toUInt32 31)).toInt32 - (((v4 * (1103515245 : Int32)) + (12345 : Int32)).toUInt32 >>> ((8 : Int32).toUInt32 &&& Int32.toUInt32 31)).toInt32 / (19 : Int32) * (19 : Int32)) + (-9 : Int32)), .ref 4, .ref 21, .ref 26]) (σ' := (97, I, J, R)) rfl ?_
    cases hx_10 : rs_Pa_become 26 21 I (((((v4 * (1103515245 : Int32)) + (12345 : Int32)).toUInt32 >>> ((8 : Int32).toUInt32 &&& Int32.toUInt32 31)).toInt32 - (((v4 * (1103515245 : Int32)) + (12345 : Int32)).toUInt32 >>> ((8 : Int32).toUInt32 &&& Int32.toUInt32 31)).toInt32 / (19 : Int32) * (19 : Int32)) + (-9 : Int32)) ((((v4 * (1103515245 : Int32)) + (12345 : Int32)).toUInt32 >>> ((16 : Int32).toUInt32 &&& Int32.toUInt32 31)).toInt32 - (((v4 * (1103515245 : Int32)) + (12345 : Int32)).toUInt32 >>> ((16 : Int32).toUInt32 &&& Int32.toUInt32 31)).toInt32 / (10 : Int32) * (10 : Int32)) (5 : Int32) with
    | none => rw [hx_10] at h; cases h
    | some I_9 =>
      rw [hx_10] at h
      dsimp only at h
      refine az_E.call (d := 4) (k' := 43) (vs := [.ref 26, .ref 21, .ref 4, .int (((((v4 * (1103515245 : Int32)) + (12345 : Int32)).toUInt32 >>> ((8 : Int32).toUInt32 &&& Int32.toUInt32 31)).toInt32 - (((v4 * (1103515245 : Int32)) + (12345 : Int32)).toUInt32 >>> ((8 : Int32).toUInt32 &&& Int32.toUInt32 31)).toInt32 / (19 : Int32) * (19 : Int32)) + (-9 : Int32)), .int ((((v4 * (1103515245 : Int32)) + (12345 : Int32)).toUInt32 >>> ((16 : Int32).toUInt32 &&& Int32.toUInt32 31)).toInt32 - (((v4 * (1103515245 : Int32)) + (12345 : Int32)).toUInt32 >>> ((16 : Int32).toUInt32 &&& Int32.toUInt32 31)).toInt32 / (10 : Int32) * (10 : Int32)), .int (5 : Int32)]) (pc' := 96) (S' := []) (Q1 := fun v s => v = none ∧ s = (97, I_9, J, (az_u (az_u R 26 2 (some 21)) 26 3 (some 5)))) rfl (az_E.deep (by omega) (re_Pa_become_26_21 (J := J) (R := R)  hx_10 ⟨rfl, rfl⟩)) (fun v s hq => ?_)
      obtain ⟨rfl, rfl⟩ := hq
      show az_E az_F ex 5 111 96 [.ref 3, .retAddr 0, .int v2, .int v3, .int ((v4 * (1103515245 : Int32)) + (12345 : Int32)), .int v5, .int v6, .int v7, .retAddr 0] [] (97, I_9, J, (az_u (az_u R 26 2 (some 21)) 26 3 (some 5))) _
      refine az_E.sn 7 (pc' := 109) (L' := [.ref 3, .retAddr 0, .int v2, .int v3, .int ((v4 * (1103515245 : Int32)) + (12345 : Int32)), .int v5, .int v6, .int v7, .retAddr 0]) (S' := [.int (I_9 4 3), .int (((v4 * (1103515245 : Int32)) + (12345 : Int32)).toUInt32 >>> ((20 : Int32).toUInt32 &&& Int32.toUInt32 31)).toInt32, .ref 3]) (σ' := (97, I_9, J, (az_u (az_u R 26 2 (some 21)) 26 3 (some 5)))) rfl ?_
      by_cases hd_11 : (I_9 4 3) = 0
      · rw [if_pos hd_11] at h; cases h
      · rw [if_neg hd_11] at h
        refine az_E.dv (c := (I_9 4 3) = 0) (pc' := 110) (L' := [.ref 3, .retAddr 0, .int v2, .int v3, .int ((v4 * (1103515245 : Int32)) + (12345 : Int32)), .int v5, .int v6, .int v7, .retAddr 0]) (S' := [.int ((((v4 * (1103515245 : Int32)) + (12345 : Int32)).toUInt32 >>> ((20 : Int32).toUInt32 &&& Int32.toUInt32 31)).toInt32 - (((v4 * (1103515245 : Int32)) + (12345 : Int32)).toUInt32 >>> ((20 : Int32).toUInt32 &&& Int32.toUInt32 31)).toInt32 / (I_9 4 3) * (I_9 4 3)), .ref 3]) (σ' := (97, I_9, J, (az_u (az_u R 26 2 (some 21)) 26 3 (some 5)))) rfl hd_11 ?_
        cases hx_14 : rs_X_armAt I_9 ((((v4 * (1103515245 : Int32)) + (12345 : Int32)).toUInt32 >>> ((20 : Int32).toUInt32 &&& Int32.toUInt32 31)).toInt32 - (((v4 * (1103515245 : Int32)) + (12345 : Int32)).toUInt32 >>> ((20 : Int32).toUInt32 &&& Int32.toUInt32 31)).toInt32 / (I_9 4 3) * (I_9 4 3)) with
        | none => rw [hx_14] at h; cases h
        | some o =>
          rw [hx_14] at h
          obtain ⟨x_12, I_13⟩ := o
          dsimp only at h
          refine az_E.call (d := 4) (k' := 146) (vs := [.ref 3, .int ((((v4 * (1103515245 : Int32)) + (12345 : Int32)).toUInt32 >>> ((20 : Int32).toUInt32 &&& Int32.toUInt32 31)).toInt32 - (((v4 * (1103515245 : Int32)) + (12345 : Int32)).toUInt32 >>> ((20 : Int32).toUInt32 &&& Int32.toUInt32 31)).toInt32 / (I_9 4 3) * (I_9 4 3))]) (pc' := 113) (S' := []) (Q1 := fun v s => v = some (.int x_12) ∧ s = (97, I_13, J, (az_u (az_u R 26 2 (some 21)) 26 3 (some 5)))) rfl (az_E.deep (by omega) (re_X_armAt_5 (J := J) (R := (az_u (az_u R 26 2 (some 21)) 26 3 (some 5))) rfl hx_14 ⟨rfl, rfl⟩)) (fun v s hq => ?_)
          obtain ⟨rfl, rfl⟩ := hq
          show az_E az_F ex 5 111 113 [.ref 3, .retAddr 0, .int v2, .int v3, .int ((v4 * (1103515245 : Int32)) + (12345 : Int32)), .int v5, .int v6, .int v7, .retAddr 0] [.int x_12] (97, I_13, J, (az_u (az_u R 26 2 (some 21)) 26 3 (some 5))) _
          refine az_E.sn 6 (pc' := 124) (L' := [.ref 3, .retAddr 0, .int v2, .int v3, .int ((v4 * (1103515245 : Int32)) + (12345 : Int32)), .int (v5 + x_12), .int v6, .int v7, .int x_12]) (S' := [.int v7]) (σ' := (97, I_13, J, (az_u (az_u R 26 2 (some 21)) 26 3 (some 5)))) rfl ?_
          refine az_E.br (c := v7 = 0) (tt := 127) (ff := 132) (L' := [.ref 3, .retAddr 0, .int v2, .int v3, .int ((v4 * (1103515245 : Int32)) + (12345 : Int32)), .int (v5 + x_12), .int v6, .int v7, .int x_12]) (S' := []) (σ' := (97, I_13, J, (az_u (az_u R 26 2 (some 21)) 26 3 (some 5)))) rfl (fun hc_15 => ?_) (fun hc_15 => ?_)
          · rw [if_pos hc_15] at h
            refine az_E.sn 5 (pc' := 43) (L' := [.ref 3, .retAddr 0, .int v2, .int v3, .int ((v4 * (1103515245 : Int32)) + (12345 : Int32)), .int (v5 + x_12), .int x_12, .int (v7 + (1 : Int32)), .int x_12]) (S' := []) (σ' := (97, I_13, J, (az_u (az_u R 26 2 (some 21)) 26 3 (some 5)))) rfl ?_
            have h := Option.some.inj h
            subst h
            simp only [Sum.elim_inl, Sum.elim_inr] at hQ
            exact az_E.forget (L := [.ref 3, .retAddr 0, .int v2, .int v3, .int ((v4 * (1103515245 : Int32)) + (12345 : Int32)), .int (v5 + x_12), .int x_12, .int (v7 + (1 : Int32)), .retAddr 0]) ⟨rfl, trivial, rfl, rfl, rfl, rfl, rfl, rfl, trivial, trivial⟩ (hQ (az_u (az_u R 26 2 (some 21)) 26 3 (some 5)) hR_3_2 hR_3_3)
          · rw [if_neg hc_15] at h
            refine az_E.sn 6 (pc' := 43) (L' := [.ref 3, .retAddr 0, .int v2, .int v3, .int ((v4 * (1103515245 : Int32)) + (12345 : Int32)), .int (v5 + x_12), .int (if x_12 < v6 then x_12 else v6), .int (v7 + (1 : Int32)), .int x_12]) (S' := []) (σ' := (97, I_13, J, (az_u (az_u R 26 2 (some 21)) 26 3 (some 5)))) rfl ?_
            have h := Option.some.inj h
            subst h
            simp only [Sum.elim_inl, Sum.elim_inr] at hQ
            exact az_E.forget (L := [.ref 3, .retAddr 0, .int v2, .int v3, .int ((v4 * (1103515245 : Int32)) + (12345 : Int32)), .int (v5 + x_12), .int (if x_12 < v6 then x_12 else v6), .int (v7 + (1 : Int32)), .retAddr 0]) ⟨rfl, trivial, rfl, rfl, rfl, rfl, rfl, rfl, trivial, trivial⟩ (hQ (az_u (az_u R 26 2 (some 21)) 26 3 (some 5)) hR_3_2 hR_3_3)
set_option maxRecDepth 100000 in
set_option maxHeartbeats 4000000 in
theorem re_X_drawn_43_21_16 {ex : az_X} {I : Nat → Nat → Int32} {J : Nat → Nat → Int64} {R : Nat → Nat → Option Nat} {v2 : Int32} {v3 : Int32} {v4 : Int32} {v5 : Int32} {v6 : Int32} {v7 : Int32} (hR_3_2 : R 3 2 = some 21) (hR_3_3 : R 3 3 = some 16) {x : Int32 × (Nat → Nat → Int32)} (h : rs_X_drawn_43 16 21 I v2 v3 v4 v5 v6 v7 = some x) {Q : Option Value → az_S → Prop} (hQ : ∀ R' : Nat → Nat → Option Nat, R' 3 2 = some 21 → R' 3 3 = some 16 → Q (some (.int x.1)) (97, x.2, J, R')) : az_E az_F ex 5 111 43 [.ref 3, .retAddr 0, .int v2, .int v3, .int v4, .int v5, .int v6, .int v7, .retAddr 0] [] (97, I, J, R) Q := by
  unfold rs_X_drawn_43 at h
  refine az_lp_E (G := fun s => ∀ R : Nat → Nat → Option Nat, R 3 2 = some 21 → R 3 3 = some 16 → az_E az_F ex 5 111 43 [.ref 3, .retAddr 0, .int v2, .int v3, .int s.1, .int s.2.1, .int s.2.2.1, .int s.2.2.2.1, .retAddr 0] [] (97, s.2.2.2.2, J, R) Q) (H := fun x => ∀ R' : Nat → Nat → Option Nat, R' 3 2 = some 21 → R' 3 3 = some 16 → Q (some (.int x.1)) (97, x.2, J, R')) (fun s o hb ho => fun R hR_3_2 hR_3_3 => ?_) _ _ _ h hQ R hR_3_2 hR_3_3
  exact re_X_drawn_43_b_21_16 hR_3_2 hR_3_3 hb ho
set_option maxRecDepth 100000 in
set_option maxHeartbeats 4000000 in
theorem re_X_drawn_21_16 {ex : az_X} {I : Nat → Nat → Int32} {J : Nat → Nat → Int64} {R : Nat → Nat → Option Nat} {a1 : Int32} {a2 : Int32} {a3 : Int32} (hR_3_2 : R 3 2 = some 21) (hR_3_3 : R 3 3 = some 16) {o : Int32 × (Nat → Nat → Int32)} (h : rs_X_drawn 16 21 I a1 a2 a3 = some o) {Q : Option Value → az_S → Prop} (hQ : ∀ R' : Nat → Nat → Option Nat, R' 3 2 = some 21 → R' 3 3 = some 16 → Q (some (.int o.1)) (97, o.2, J, R')) : az_E az_F ex 5 111 0 [.ref 3, .int a1, .int a2, .int a3, .retAddr 0, .retAddr 0, .retAddr 0, .retAddr 0, .retAddr 0] [] (97, I, J, R) Q := by
  unfold rs_X_drawn at h
  refine az_E.sn 3 (pc' := 4) (L' := [.ref 3, .int a1, .int a2, .int a3, .retAddr 0, .retAddr 0, .retAddr 0, .retAddr 0, .retAddr 0]) (S' := [.int (50 : Int32), .int (1 : Int32), .int a2]) (σ' := (97, I, J, R)) rfl ?_
  refine az_E.call (d := 4) (k' := 131) (vs := [.int a2, .int (1 : Int32), .int (50 : Int32)]) (pc' := 7) (S' := []) rfl ?_ (fun _ _ hq => hq)
  show az_E az_F ex 4 131 0 [.int a2, .int (1 : Int32), .int (50 : Int32)] [] (97, I, J, R) _
  refine az_E.sn 2 (pc' := 2) (L' := [.int a2, .int (1 : Int32), .int (50 : Int32)]) (S' := [.int (1 : Int32), .int a2]) (σ' := (97, I, J, R)) rfl ?_
  refine az_E.br (c := a2 < (1 : Int32)) (tt := 14) (ff := 5) (L' := [.int a2, .int (1 : Int32), .int (50 : Int32)]) (S' := []) (σ' := (97, I, J, R)) rfl (fun hc_1 => ?_) (fun hc_1 => ?_)
  · rw [if_pos hc_1] at h
    refine az_E.sn 1 (pc' := 15) (L' := [.int a2, .int (1 : Int32), .int (50 : Int32)]) (S' := [.int (0 : Int32)]) (σ' := (97, I, J, R)) rfl ?_
    refine az_E.ret (v := some (.int (0 : Int32))) (σ' := (97, I, J, R)) rfl ?_
    show az_E az_F ex 5 111 7 [.ref 3, .int a1, .int a2, .int a3, .retAddr 0, .retAddr 0, .retAddr 0, .retAddr 0, .retAddr 0] [.int (0 : Int32)] (97, I, J, R) _
    refine az_E.br (c := (0 : Int32) = 0) (tt := 17) (ff := 10) (L' := [.ref 3, .int a1, .int a2, .int a3, .retAddr 0, .retAddr 0, .retAddr 0, .retAddr 0, .retAddr 0]) (S' := []) (σ' := (97, I, J, R)) rfl (fun _ => ?_) (fun hn => absurd (by decide) hn)
    refine az_E.sn 1 (pc' := 18) (L' := [.ref 3, .int a1, .int a2, .int a3, .retAddr 0, .retAddr 0, .retAddr 0, .retAddr 0, .retAddr 0]) (S' := [.int (-1 : Int32)]) (σ' := (97, I, J, R)) rfl ?_
    have h := Option.some.inj h
    subst h
    exact az_E.ret (v := some (.int (-1 : Int32))) (σ' := (97, I, J, R)) rfl (hQ _ hR_3_2 hR_3_3)
  · rw [if_neg hc_1] at h
    refine az_E.sn 2 (pc' := 7) (L' := [.int a2, .int (1 : Int32), .int (50 : Int32)]) (S' := [.int (50 : Int32), .int a2]) (σ' := (97, I, J, R)) rfl ?_
    refine az_E.br (c := (50 : Int32) < a2) (tt := 14) (ff := 10) (L' := [.int a2, .int (1 : Int32), .int (50 : Int32)]) (S' := []) (σ' := (97, I, J, R)) rfl (fun hc_2 => ?_) (fun hc_2 => ?_)
    · rw [if_pos hc_2] at h
      refine az_E.sn 1 (pc' := 15) (L' := [.int a2, .int (1 : Int32), .int (50 : Int32)]) (S' := [.int (0 : Int32)]) (σ' := (97, I, J, R)) rfl ?_
      refine az_E.ret (v := some (.int (0 : Int32))) (σ' := (97, I, J, R)) rfl ?_
      show az_E az_F ex 5 111 7 [.ref 3, .int a1, .int a2, .int a3, .retAddr 0, .retAddr 0, .retAddr 0, .retAddr 0, .retAddr 0] [.int (0 : Int32)] (97, I, J, R) _
      refine az_E.br (c := (0 : Int32) = 0) (tt := 17) (ff := 10) (L' := [.ref 3, .int a1, .int a2, .int a3, .retAddr 0, .retAddr 0, .retAddr 0, .retAddr 0, .retAddr 0]) (S' := []) (σ' := (97, I, J, R)) rfl (fun _ => ?_) (fun hn => absurd (by decide) hn)
      refine az_E.sn 1 (pc' := 18) (L' := [.ref 3, .int a1, .int a2, .int a3, .retAddr 0, .retAddr 0, .retAddr 0, .retAddr 0, .retAddr 0]) (S' := [.int (-1 : Int32)]) (σ' := (97, I, J, R)) rfl ?_
      have h := Option.some.inj h
      subst h
      exact az_E.ret (v := some (.int (-1 : Int32))) (σ' := (97, I, J, R)) rfl (hQ _ hR_3_2 hR_3_3)
    · rw [if_neg hc_2] at h
      refine az_E.sn 2 (pc' := 15) (L' := [.int a2, .int (1 : Int32), .int (50 : Int32)]) (S' := [.int (1 : Int32)]) (σ' := (97, I, J, R)) rfl ?_
      refine az_E.ret (v := some (.int (1 : Int32))) (σ' := (97, I, J, R)) rfl ?_
      show az_E az_F ex 5 111 7 [.ref 3, .int a1, .int a2, .int a3, .retAddr 0, .retAddr 0, .retAddr 0, .retAddr 0, .retAddr 0] [.int (1 : Int32)] (97, I, J, R) _
      refine az_E.br (c := (1 : Int32) = 0) (tt := 17) (ff := 10) (L' := [.ref 3, .int a1, .int a2, .int a3, .retAddr 0, .retAddr 0, .retAddr 0, .retAddr 0, .retAddr 0]) (S' := []) (σ' := (97, I, J, R)) rfl (fun hn => absurd hn (by decide)) (fun _ => ?_)
      refine az_E.sn 1 (pc' := 11) (L' := [.ref 3, .int a1, .int a2, .int a3, .retAddr 0, .retAddr 0, .retAddr 0, .retAddr 0, .retAddr 0]) (S' := [.int a3]) (σ' := (97, I, J, R)) rfl ?_
      refine az_E.call (d := 4) (k' := 132) (vs := [.int a3]) (pc' := 14) (S' := []) rfl ?_ (fun _ _ hq => hq)
      show az_E az_F ex 4 132 0 [.int a3] [] (97, I, J, R) _
      refine az_E.sn 1 (pc' := 1) (L' := [.int a3]) (S' := [.int a3]) (σ' := (97, I, J, R)) rfl ?_
      refine az_E.br (c := a3 = 0) (tt := 9) (ff := 4) (L' := [.int a3]) (S' := []) (σ' := (97, I, J, R)) rfl (fun hc_3 => ?_) (fun hc_3 => ?_)
      · rw [if_pos hc_3] at h
        refine az_E.sn 2 (pc' := 14) (L' := [.int a3]) (S' := [.int (1 : Int32)]) (σ' := (97, I, J, R)) rfl ?_
        refine az_E.ret (v := some (.int (1 : Int32))) (σ' := (97, I, J, R)) rfl ?_
        show az_E az_F ex 5 111 14 [.ref 3, .int a1, .int a2, .int a3, .retAddr 0, .retAddr 0, .retAddr 0, .retAddr 0, .retAddr 0] [.int (1 : Int32)] (97, I, J, R) _
        refine az_E.br (c := (1 : Int32) = 0) (tt := 17) (ff := 19) (L' := [.ref 3, .int a1, .int a2, .int a3, .retAddr 0, .retAddr 0, .retAddr 0, .retAddr 0, .retAddr 0]) (S' := []) (σ' := (97, I, J, R)) rfl (fun hn => absurd hn (by decide)) (fun _ => ?_)
        refine az_E.sn 3 (pc' := 26) (L' := [.ref 3, .int a1, .int a2, .int a3, .retAddr 0, .retAddr 0, .retAddr 0, .retAddr 0, .retAddr 0]) (S' := [.int (I 4 3)]) (σ' := (97, I, J, R)) rfl ?_
        refine az_E.br (c := 0 < (I 4 3)) (tt := 31) (ff := 29) (L' := [.ref 3, .int a1, .int a2, .int a3, .retAddr 0, .retAddr 0, .retAddr 0, .retAddr 0, .retAddr 0]) (S' := []) (σ' := (97, I, J, R)) rfl (fun hc_4 => ?_) (fun hc_4 => ?_)
        · rw [if_pos hc_4] at h
          refine az_E.sn 8 (pc' := 43) (L' := [.ref 3, .int a1, .int a2, .int a3, .int a1, .int (0 : Int32), .int (0 : Int32), .int (0 : Int32), .retAddr 0]) (S' := []) (σ' := (97, I, J, R)) rfl ?_
          exact az_E.forget (L := [.ref 3, .retAddr 0, .int a2, .int a3, .int a1, .int (0 : Int32), .int (0 : Int32), .int (0 : Int32), .retAddr 0]) ⟨rfl, trivial, rfl, rfl, rfl, rfl, rfl, rfl, trivial, trivial⟩ (re_X_drawn_43_21_16 (I := I) (J := J) (R := R) hR_3_2 hR_3_3 h hQ)
        · rw [if_neg hc_4] at h
          refine az_E.sn 1 (pc' := 30) (L' := [.ref 3, .int a1, .int a2, .int a3, .retAddr 0, .retAddr 0, .retAddr 0, .retAddr 0, .retAddr 0]) (S' := [.int (0 : Int32)]) (σ' := (97, I, J, R)) rfl ?_
          have h := Option.some.inj h
          subst h
          exact az_E.ret (v := some (.int (0 : Int32))) (σ' := (97, I, J, R)) rfl (hQ _ hR_3_2 hR_3_3)
      · rw [if_neg hc_3] at h
        refine az_E.sn 2 (pc' := 6) (L' := [.int a3]) (S' := [.int (1 : Int32), .int a3]) (σ' := (97, I, J, R)) rfl ?_
        refine az_E.br (c := a3 = (1 : Int32)) (tt := 9) (ff := 13) (L' := [.int a3]) (S' := []) (σ' := (97, I, J, R)) rfl (fun hc_16 => ?_) (fun hc_16 => ?_)
        · rw [if_pos hc_16] at h
          refine az_E.sn 2 (pc' := 14) (L' := [.int a3]) (S' := [.int (1 : Int32)]) (σ' := (97, I, J, R)) rfl ?_
          refine az_E.ret (v := some (.int (1 : Int32))) (σ' := (97, I, J, R)) rfl ?_
          show az_E az_F ex 5 111 14 [.ref 3, .int a1, .int a2, .int a3, .retAddr 0, .retAddr 0, .retAddr 0, .retAddr 0, .retAddr 0] [.int (1 : Int32)] (97, I, J, R) _
          refine az_E.br (c := (1 : Int32) = 0) (tt := 17) (ff := 19) (L' := [.ref 3, .int a1, .int a2, .int a3, .retAddr 0, .retAddr 0, .retAddr 0, .retAddr 0, .retAddr 0]) (S' := []) (σ' := (97, I, J, R)) rfl (fun hn => absurd hn (by decide)) (fun _ => ?_)
          refine az_E.sn 3 (pc' := 26) (L' := [.ref 3, .int a1, .int a2, .int a3, .retAddr 0, .retAddr 0, .retAddr 0, .retAddr 0, .retAddr 0]) (S' := [.int (I 4 3)]) (σ' := (97, I, J, R)) rfl ?_
          refine az_E.br (c := 0 < (I 4 3)) (tt := 31) (ff := 29) (L' := [.ref 3, .int a1, .int a2, .int a3, .retAddr 0, .retAddr 0, .retAddr 0, .retAddr 0, .retAddr 0]) (S' := []) (σ' := (97, I, J, R)) rfl (fun hc_17 => ?_) (fun hc_17 => ?_)
          · rw [if_pos hc_17] at h
            refine az_E.sn 8 (pc' := 43) (L' := [.ref 3, .int a1, .int a2, .int a3, .int a1, .int (0 : Int32), .int (0 : Int32), .int (0 : Int32), .retAddr 0]) (S' := []) (σ' := (97, I, J, R)) rfl ?_
            exact az_E.forget (L := [.ref 3, .retAddr 0, .int a2, .int a3, .int a1, .int (0 : Int32), .int (0 : Int32), .int (0 : Int32), .retAddr 0]) ⟨rfl, trivial, rfl, rfl, rfl, rfl, rfl, rfl, trivial, trivial⟩ (re_X_drawn_43_21_16 (I := I) (J := J) (R := R) hR_3_2 hR_3_3 h hQ)
          · rw [if_neg hc_17] at h
            refine az_E.sn 1 (pc' := 30) (L' := [.ref 3, .int a1, .int a2, .int a3, .retAddr 0, .retAddr 0, .retAddr 0, .retAddr 0, .retAddr 0]) (S' := [.int (0 : Int32)]) (σ' := (97, I, J, R)) rfl ?_
            have h := Option.some.inj h
            subst h
            exact az_E.ret (v := some (.int (0 : Int32))) (σ' := (97, I, J, R)) rfl (hQ _ hR_3_2 hR_3_3)
        · rw [if_neg hc_16] at h
          refine az_E.sn 1 (pc' := 14) (L' := [.int a3]) (S' := [.int (0 : Int32)]) (σ' := (97, I, J, R)) rfl ?_
          refine az_E.ret (v := some (.int (0 : Int32))) (σ' := (97, I, J, R)) rfl ?_
          show az_E az_F ex 5 111 14 [.ref 3, .int a1, .int a2, .int a3, .retAddr 0, .retAddr 0, .retAddr 0, .retAddr 0, .retAddr 0] [.int (0 : Int32)] (97, I, J, R) _
          refine az_E.br (c := (0 : Int32) = 0) (tt := 17) (ff := 19) (L' := [.ref 3, .int a1, .int a2, .int a3, .retAddr 0, .retAddr 0, .retAddr 0, .retAddr 0, .retAddr 0]) (S' := []) (σ' := (97, I, J, R)) rfl (fun _ => ?_) (fun hn => absurd (by decide) hn)
          refine az_E.sn 1 (pc' := 18) (L' := [.ref 3, .int a1, .int a2, .int a3, .retAddr 0, .retAddr 0, .retAddr 0, .retAddr 0, .retAddr 0]) (S' := [.int (-1 : Int32)]) (σ' := (97, I, J, R)) rfl ?_
          have h := Option.some.inj h
          subst h
          exact az_E.ret (v := some (.int (-1 : Int32))) (σ' := (97, I, J, R)) rfl (hQ _ hR_3_2 hR_3_3)
set_option maxRecDepth 100000 in
set_option maxHeartbeats 4000000 in
theorem re_X_goes_21 {ex : az_X} {I : Nat → Nat → Int32} {J : Nat → Nat → Int64} {R : Nat → Nat → Option Nat} {a1 : Int32} {a2 : Int32} (hR_3_2 : R 3 2 = some 21) {o : Int32 × (Nat → Nat → Int32)} (h : rs_X_goes 21 I a1 a2 = some o) {Q : Option Value → az_S → Prop} (hQ : Q (some (.int o.1)) (97, o.2, J, R)) : az_E az_F ex 4 112 0 [.ref 3, .int a1, .int a2, .retAddr 0, .retAddr 0, .retAddr 0] [] (97, I, J, R) Q := by
  unfold rs_X_goes at h
  refine az_E.sn 2 (pc' := 2) (L' := [.ref 3, .int a1, .int a2, .retAddr 0, .retAddr 0, .retAddr 0]) (S' := [.int a1, .ref 3]) (σ' := (97, I, J, R)) rfl ?_
  refine az_E.call (d := 3) (k' := 138) (vs := [.ref 3, .int a1]) (pc' := 5) (S' := []) rfl ?_ (fun _ _ hq => hq)
  show az_E az_F ex 3 138 0 [.ref 3, .int a1] [] (97, I, J, R) _
  refine az_E.sn 7 (pc' := 11) (L' := [.ref 3, .int a1]) (S' := [.int ((I 4 9) - (1 : Int32)), .int (0 : Int32), .int a1]) (σ' := (97, I, J, R)) rfl ?_
  refine az_E.call (d := 2) (k' := 131) (vs := [.int a1, .int (0 : Int32), .int ((I 4 9) - (1 : Int32))]) (pc' := 14) (S' := []) rfl ?_ (fun _ _ hq => hq)
  show az_E az_F ex 2 131 0 [.int a1, .int (0 : Int32), .int ((I 4 9) - (1 : Int32))] [] (97, I, J, R) _
  refine az_E.sn 2 (pc' := 2) (L' := [.int a1, .int (0 : Int32), .int ((I 4 9) - (1 : Int32))]) (S' := [.int (0 : Int32), .int a1]) (σ' := (97, I, J, R)) rfl ?_
  refine az_E.br (c := a1 < (0 : Int32)) (tt := 14) (ff := 5) (L' := [.int a1, .int (0 : Int32), .int ((I 4 9) - (1 : Int32))]) (S' := []) (σ' := (97, I, J, R)) rfl (fun hc_1 => ?_) (fun hc_1 => ?_)
  · rw [if_pos hc_1] at h
    refine az_E.sn 1 (pc' := 15) (L' := [.int a1, .int (0 : Int32), .int ((I 4 9) - (1 : Int32))]) (S' := [.int (0 : Int32)]) (σ' := (97, I, J, R)) rfl ?_
    refine az_E.ret (v := some (.int (0 : Int32))) (σ' := (97, I, J, R)) rfl ?_
    show az_E az_F ex 3 138 14 [.ref 3, .int a1] [.int (0 : Int32)] (97, I, J, R) _
    refine az_E.ret (v := some (.int (0 : Int32))) (σ' := (97, I, J, R)) rfl ?_
    show az_E az_F ex 4 112 5 [.ref 3, .int a1, .int a2, .retAddr 0, .retAddr 0, .retAddr 0] [.int (0 : Int32)] (97, I, J, R) _
    refine az_E.br (c := (0 : Int32) = 0) (tt := 17) (ff := 8) (L' := [.ref 3, .int a1, .int a2, .retAddr 0, .retAddr 0, .retAddr 0]) (S' := []) (σ' := (97, I, J, R)) rfl (fun _ => ?_) (fun hn => absurd (by decide) hn)
    refine az_E.sn 1 (pc' := 18) (L' := [.ref 3, .int a1, .int a2, .retAddr 0, .retAddr 0, .retAddr 0]) (S' := [.int (-1 : Int32)]) (σ' := (97, I, J, R)) rfl ?_
    have h := Option.some.inj h
    subst h
    exact az_E.ret (v := some (.int (-1 : Int32))) (σ' := (97, I, J, R)) rfl hQ
  · rw [if_neg hc_1] at h
    refine az_E.sn 2 (pc' := 7) (L' := [.int a1, .int (0 : Int32), .int ((I 4 9) - (1 : Int32))]) (S' := [.int ((I 4 9) - (1 : Int32)), .int a1]) (σ' := (97, I, J, R)) rfl ?_
    refine az_E.br (c := ((I 4 9) - (1 : Int32)) < a1) (tt := 14) (ff := 10) (L' := [.int a1, .int (0 : Int32), .int ((I 4 9) - (1 : Int32))]) (S' := []) (σ' := (97, I, J, R)) rfl (fun hc_2 => ?_) (fun hc_2 => ?_)
    · rw [if_pos hc_2] at h
      refine az_E.sn 1 (pc' := 15) (L' := [.int a1, .int (0 : Int32), .int ((I 4 9) - (1 : Int32))]) (S' := [.int (0 : Int32)]) (σ' := (97, I, J, R)) rfl ?_
      refine az_E.ret (v := some (.int (0 : Int32))) (σ' := (97, I, J, R)) rfl ?_
      show az_E az_F ex 3 138 14 [.ref 3, .int a1] [.int (0 : Int32)] (97, I, J, R) _
      refine az_E.ret (v := some (.int (0 : Int32))) (σ' := (97, I, J, R)) rfl ?_
      show az_E az_F ex 4 112 5 [.ref 3, .int a1, .int a2, .retAddr 0, .retAddr 0, .retAddr 0] [.int (0 : Int32)] (97, I, J, R) _
      refine az_E.br (c := (0 : Int32) = 0) (tt := 17) (ff := 8) (L' := [.ref 3, .int a1, .int a2, .retAddr 0, .retAddr 0, .retAddr 0]) (S' := []) (σ' := (97, I, J, R)) rfl (fun _ => ?_) (fun hn => absurd (by decide) hn)
      refine az_E.sn 1 (pc' := 18) (L' := [.ref 3, .int a1, .int a2, .retAddr 0, .retAddr 0, .retAddr 0]) (S' := [.int (-1 : Int32)]) (σ' := (97, I, J, R)) rfl ?_
      have h := Option.some.inj h
      subst h
      exact az_E.ret (v := some (.int (-1 : Int32))) (σ' := (97, I, J, R)) rfl hQ
    · rw [if_neg hc_2] at h
      refine az_E.sn 2 (pc' := 15) (L' := [.int a1, .int (0 : Int32), .int ((I 4 9) - (1 : Int32))]) (S' := [.int (1 : Int32)]) (σ' := (97, I, J, R)) rfl ?_
      refine az_E.ret (v := some (.int (1 : Int32))) (σ' := (97, I, J, R)) rfl ?_
      show az_E az_F ex 3 138 14 [.ref 3, .int a1] [.int (1 : Int32)] (97, I, J, R) _
      refine az_E.ret (v := some (.int (1 : Int32))) (σ' := (97, I, J, R)) rfl ?_
      show az_E az_F ex 4 112 5 [.ref 3, .int a1, .int a2, .retAddr 0, .retAddr 0, .retAddr 0] [.int (1 : Int32)] (97, I, J, R) _
      refine az_E.br (c := (1 : Int32) = 0) (tt := 17) (ff := 8) (L' := [.ref 3, .int a1, .int a2, .retAddr 0, .retAddr 0, .retAddr 0]) (S' := []) (σ' := (97, I, J, R)) rfl (fun hn => absurd hn (by decide)) (fun _ => ?_)
      refine az_E.sn 3 (pc' := 11) (L' := [.ref 3, .int a1, .int a2, .retAddr 0, .retAddr 0, .retAddr 0]) (S' := [.int (3 : Int32), .int (0 : Int32), .int a2]) (σ' := (97, I, J, R)) rfl ?_
      refine az_E.call (d := 3) (k' := 131) (vs := [.int a2, .int (0 : Int32), .int (3 : Int32)]) (pc' := 14) (S' := []) rfl ?_ (fun _ _ hq => hq)
      show az_E az_F ex 3 131 0 [.int a2, .int (0 : Int32), .int (3 : Int32)] [] (97, I, J, R) _
      refine az_E.sn 2 (pc' := 2) (L' := [.int a2, .int (0 : Int32), .int (3 : Int32)]) (S' := [.int (0 : Int32), .int a2]) (σ' := (97, I, J, R)) rfl ?_
      refine az_E.br (c := a2 < (0 : Int32)) (tt := 14) (ff := 5) (L' := [.int a2, .int (0 : Int32), .int (3 : Int32)]) (S' := []) (σ' := (97, I, J, R)) rfl (fun hc_3 => ?_) (fun hc_3 => ?_)
      · rw [if_pos hc_3] at h
        refine az_E.sn 1 (pc' := 15) (L' := [.int a2, .int (0 : Int32), .int (3 : Int32)]) (S' := [.int (0 : Int32)]) (σ' := (97, I, J, R)) rfl ?_
        refine az_E.ret (v := some (.int (0 : Int32))) (σ' := (97, I, J, R)) rfl ?_
        show az_E az_F ex 4 112 14 [.ref 3, .int a1, .int a2, .retAddr 0, .retAddr 0, .retAddr 0] [.int (0 : Int32)] (97, I, J, R) _
        refine az_E.br (c := (0 : Int32) = 0) (tt := 17) (ff := 19) (L' := [.ref 3, .int a1, .int a2, .retAddr 0, .retAddr 0, .retAddr 0]) (S' := []) (σ' := (97, I, J, R)) rfl (fun _ => ?_) (fun hn => absurd (by decide) hn)
        refine az_E.sn 1 (pc' := 18) (L' := [.ref 3, .int a1, .int a2, .retAddr 0, .retAddr 0, .retAddr 0]) (S' := [.int (-1 : Int32)]) (σ' := (97, I, J, R)) rfl ?_
        have h := Option.some.inj h
        subst h
        exact az_E.ret (v := some (.int (-1 : Int32))) (σ' := (97, I, J, R)) rfl hQ
      · rw [if_neg hc_3] at h
        refine az_E.sn 2 (pc' := 7) (L' := [.int a2, .int (0 : Int32), .int (3 : Int32)]) (S' := [.int (3 : Int32), .int a2]) (σ' := (97, I, J, R)) rfl ?_
        refine az_E.br (c := (3 : Int32) < a2) (tt := 14) (ff := 10) (L' := [.int a2, .int (0 : Int32), .int (3 : Int32)]) (S' := []) (σ' := (97, I, J, R)) rfl (fun hc_4 => ?_) (fun hc_4 => ?_)
        · rw [if_pos hc_4] at h
          refine az_E.sn 1 (pc' := 15) (L' := [.int a2, .int (0 : Int32), .int (3 : Int32)]) (S' := [.int (0 : Int32)]) (σ' := (97, I, J, R)) rfl ?_
          refine az_E.ret (v := some (.int (0 : Int32))) (σ' := (97, I, J, R)) rfl ?_
          show az_E az_F ex 4 112 14 [.ref 3, .int a1, .int a2, .retAddr 0, .retAddr 0, .retAddr 0] [.int (0 : Int32)] (97, I, J, R) _
          refine az_E.br (c := (0 : Int32) = 0) (tt := 17) (ff := 19) (L' := [.ref 3, .int a1, .int a2, .retAddr 0, .retAddr 0, .retAddr 0]) (S' := []) (σ' := (97, I, J, R)) rfl (fun _ => ?_) (fun hn => absurd (by decide) hn)
          refine az_E.sn 1 (pc' := 18) (L' := [.ref 3, .int a1, .int a2, .retAddr 0, .retAddr 0, .retAddr 0]) (S' := [.int (-1 : Int32)]) (σ' := (97, I, J, R)) rfl ?_
          have h := Option.some.inj h
          subst h
          exact az_E.ret (v := some (.int (-1 : Int32))) (σ' := (97, I, J, R)) rfl hQ
        · rw [if_neg hc_4] at h
          refine az_E.sn 2 (pc' := 15) (L' := [.int a2, .int (0 : Int32), .int (3 : Int32)]) (S' := [.int (1 : Int32)]) (σ' := (97, I, J, R)) rfl ?_
          refine az_E.ret (v := some (.int (1 : Int32))) (σ' := (97, I, J, R)) rfl ?_
          show az_E az_F ex 4 112 14 [.ref 3, .int a1, .int a2, .retAddr 0, .retAddr 0, .retAddr 0] [.int (1 : Int32)] (97, I, J, R) _
          refine az_E.br (c := (1 : Int32) = 0) (tt := 17) (ff := 19) (L' := [.ref 3, .int a1, .int a2, .retAddr 0, .retAddr 0, .retAddr 0]) (S' := []) (σ' := (97, I, J, R)) rfl (fun hn => absurd hn (by decide)) (fun _ => ?_)
          refine az_E.sn 4 (pc' := 27) (L' := [.ref 3, .int a1, .int a2, .retAddr 0, .retAddr 0, .retAddr 0]) (S' := [.int a1, .ref 11]) (σ' := (97, I, J, R)) rfl ?_
          by_cases hc_5 : a1 < 0 ∨ 6 ≤ a1.toNatClampNeg
          · rw [if_pos hc_5] at h; cases h
          · rw [if_neg hc_5] at h
            refine az_E.oi (o := az_ai az_F ex (97, I, J, R) 11 a1) (pc' := 28) (L' := [.ref 3, .int a1, .int a2, .retAddr 0, .retAddr 0, .retAddr 0]) (S' := []) (σ' := (97, I, J, R)) (x := (I 11 a1.toNatClampNeg)) rfl (if_neg hc_5) ?_
            refine az_E.sn 3 (pc' := 31) (L' := [.ref 3, .int a1, .int a2, .int (I 11 a1.toNatClampNeg), .retAddr 0, .retAddr 0]) (S' := [.int a2, .int (I 11 a1.toNatClampNeg)]) (σ' := (97, I, J, R)) rfl ?_
            cases hx_7 : rs_X_sideCell (I 11 a1.toNatClampNeg) a2 with
            | none => rw [hx_7] at h; cases h
            | some x_6 =>
              rw [hx_7] at h
              dsimp only at h
              refine az_E.call (d := 3) (k' := 141) (vs := [.int (I 11 a1.toNatClampNeg), .int a2]) (pc' := 34) (S' := []) (Q1 := fun v s => v = some (.int x_6) ∧ s = (97, I, J, R)) rfl (az_E.deep (by omega) (re_X_sideCell (J := J) (R := R)  hx_7 ⟨rfl, rfl⟩)) (fun v s hq => ?_)
              obtain ⟨rfl, rfl⟩ := hq
              show az_E az_F ex 4 112 34 [.ref 3, .int a1, .int a2, .int (I 11 a1.toNatClampNeg), .retAddr 0, .retAddr 0] [.int x_6] (97, I, J, R) _
              refine az_E.sn 2 (pc' := 38) (L' := [.ref 3, .int a1, .int a2, .int (I 11 a1.toNatClampNeg), .int x_6, .retAddr 0]) (S' := [.int x_6]) (σ' := (97, I, J, R)) rfl ?_
              refine az_E.br (c := 0 ≤ x_6) (tt := 44) (ff := 41) (L' := [.ref 3, .int a1, .int a2, .int (I 11 a1.toNatClampNeg), .int x_6, .retAddr 0]) (S' := []) (σ' := (97, I, J, R)) rfl (fun hc_8 => ?_) (fun hc_8 => ?_)
              · rw [if_pos hc_8] at h
                refine az_E.sn 4 (pc' := 49) (L' := [.ref 3, .int a1, .int a2, .int (I 11 a1.toNatClampNeg), .int x_6, .retAddr 0]) (S' := [.int x_6, .int (I 11 a1.toNatClampNeg), .int a1, .ref 3]) (σ' := (97, I, J, R)) rfl ?_
                cases hx_11 : rs_X_stepMinutes 21 I a1 (I 11 a1.toNatClampNeg) x_6 with
                | none => rw [hx_11] at h; cases h
                | some o =>
                  rw [hx_11] at h
                  obtain ⟨x_9, I_10⟩ := o
                  dsimp only at h
                  refine az_E.call (d := 3) (k' := 145) (vs := [.ref 3, .int a1, .int (I 11 a1.toNatClampNeg), .int x_6]) (pc' := 52) (S' := []) (Q1 := fun v s => v = some (.int x_9) ∧ s = (97, I_10, J, R)) rfl (az_E.deep (by omega) (re_X_stepMinutes_21 (J := J) (R := R) hR_3_2 hx_11 ⟨rfl, rfl⟩)) (fun v s hq => ?_)
                  obtain ⟨rfl, rfl⟩ := hq
                  show az_E az_F ex 4 112 52 [.ref 3, .int a1, .int a2, .int (I 11 a1.toNatClampNeg), .int x_6, .retAddr 0] [.int x_9] (97, I_10, J, R) _
                  refine az_E.sn 6 (pc' := 64) (L' := [.ref 3, .int a1, .int a2, .int (I 11 a1.toNatClampNeg), .int x_6, .int x_9]) (S' := [.int x_6, .int a1, .ref 11]) (σ' := (97, I_10, J, R)) rfl ?_
                  by_cases hc_12 : a1 < 0 ∨ 6 ≤ a1.toNatClampNeg
                  · rw [if_pos hc_12] at h; cases h
                  · rw [if_neg hc_12] at h
                    refine az_E.o (o := az_si az_F (97, I_10, J, R) 11 a1 x_6) (pc' := 65) (L' := [.ref 3, .int a1, .int a2, .int (I 11 a1.toNatClampNeg), .int x_6, .int x_9]) (S' := []) (x := (97, (az_u I_10 11 a1.toNatClampNeg x_6), J, R)) rfl (if_neg hc_12) ?_
                    refine az_E.sn 5 (pc' := 74) (L' := [.ref 3, .int a1, .int a2, .int (I 11 a1.toNatClampNeg), .int x_6, .int x_9]) (S' := [.int a1, .ref 12, .int a1, .ref 12]) (σ' := (97, (az_u I_10 11 a1.toNatClampNeg x_6), J, R)) rfl ?_
                    by_cases hc_13 : a1 < 0 ∨ 6 ≤ a1.toNatClampNeg
                    · rw [if_pos hc_13] at h; cases h
                    · rw [if_neg hc_13] at h
                      refine az_E.oi (o := az_ai az_F ex (97, (az_u I_10 11 a1.toNatClampNeg x_6), J, R) 12 a1) (pc' := 75) (L' := [.ref 3, .int a1, .int a2, .int (I 11 a1.toNatClampNeg), .int x_6, .int x_9]) (S' := [.int a1, .ref 12]) (σ' := (97, (az_u I_10 11 a1.toNatClampNeg x_6), J, R)) (x := (I_10 12 a1.toNatClampNeg)) rfl (if_neg hc_13) ?_
                      refine az_E.sn 2 (pc' := 78) (L' := [.ref 3, .int a1, .int a2, .int (I 11 a1.toNatClampNeg), .int x_6, .int x_9]) (S' := [.int ((I_10 12 a1.toNatClampNeg) + x_9), .int a1, .ref 12]) (σ' := (97, (az_u I_10 11 a1.toNatClampNeg x_6), J, R)) rfl ?_
                      by_cases hc_14 : a1 < 0 ∨ 6 ≤ a1.toNatClampNeg
                      · rw [if_pos hc_14] at h; cases h
                      · rw [if_neg hc_14] at h
                        refine az_E.o (o := az_si az_F (97, (az_u I_10 11 a1.toNatClampNeg x_6), J, R) 12 a1 ((I_10 12 a1.toNatClampNeg) + x_9)) (pc' := 79) (L' := [.ref 3, .int a1, .int a2, .int (I 11 a1.toNatClampNeg), .int x_6, .int x_9]) (S' := []) (x := (97, (az_u (az_u I_10 11 a1.toNatClampNeg x_6) 12 a1.toNatClampNeg ((I_10 12 a1.toNatClampNeg) + x_9)), J, R)) rfl (if_neg hc_14) ?_
                        refine az_E.sn 5 (pc' := 88) (L' := [.ref 3, .int a1, .int a2, .int (I 11 a1.toNatClampNeg), .int x_6, .int x_9]) (S' := [.int (0 : Int32), .ref 13, .int (0 : Int32), .ref 13]) (σ' := (97, (az_u (az_u I_10 11 a1.toNatClampNeg x_6) 12 a1.toNatClampNeg ((I_10 12 a1.toNatClampNeg) + x_9)), J, R)) rfl ?_
                        refine az_E.oi (o := az_ai az_F ex (97, (az_u (az_u I_10 11 a1.toNatClampNeg x_6) 12 a1.toNatClampNeg ((I_10 12 a1.toNatClampNeg) + x_9)), J, R) 13 (0 : Int32)) (pc' := 89) (L' := [.ref 3, .int a1, .int a2, .int (I 11 a1.toNatClampNeg), .int x_6, .int x_9]) (S' := [.int (0 : Int32), .ref 13]) (σ' := (97, (az_u (az_u I_10 11 a1.toNatClampNeg x_6) 12 a1.toNatClampNeg ((I_10 12 a1.toNatClampNeg) + x_9)), J, R)) (x := (I_10 13 0)) rfl rfl ?_
                        refine az_E.sn 2 (pc' := 91) (L' := [.ref 3, .int a1, .int a2, .int (I 11 a1.toNatClampNeg), .int x_6, .int x_9]) (S' := [.int ((I_10 13 0) + (1 : Int32)), .int (0 : Int32), .ref 13]) (σ' := (97, (az_u (az_u I_10 11 a1.toNatClampNeg x_6) 12 a1.toNatClampNeg ((I_10 12 a1.toNatClampNeg) + x_9)), J, R)) rfl ?_
                        refine az_E.o (o := az_si az_F (97, (az_u (az_u I_10 11 a1.toNatClampNeg x_6) 12 a1.toNatClampNeg ((I_10 12 a1.toNatClampNeg) + x_9)), J, R) 13 (0 : Int32) ((I_10 13 0) + (1 : Int32))) (pc' := 92) (L' := [.ref 3, .int a1, .int a2, .int (I 11 a1.toNatClampNeg), .int x_6, .int x_9]) (S' := []) (x := (97, (az_u (az_u (az_u I_10 11 a1.toNatClampNeg x_6) 12 a1.toNatClampNeg ((I_10 12 a1.toNatClampNeg) + x_9)) 13 0 ((I_10 13 0) + (1 : Int32))), J, R)) rfl rfl ?_
                        refine az_E.sn 5 (pc' := 101) (L' := [.ref 3, .int a1, .int a2, .int (I 11 a1.toNatClampNeg), .int x_6, .int x_9]) (S' := [.int (1 : Int32), .ref 13, .int (1 : Int32), .ref 13]) (σ' := (97, (az_u (az_u (az_u I_10 11 a1.toNatClampNeg x_6) 12 a1.toNatClampNeg ((I_10 12 a1.toNatClampNeg) + x_9)) 13 0 ((I_10 13 0) + (1 : Int32))), J, R)) rfl ?_
                        refine az_E.oi (o := az_ai az_F ex (97, (az_u (az_u (az_u I_10 11 a1.toNatClampNeg x_6) 12 a1.toNatClampNeg ((I_10 12 a1.toNatClampNeg) + x_9)) 13 0 ((I_10 13 0) + (1 : Int32))), J, R) 13 (1 : Int32)) (pc' := 102) (L' := [.ref 3, .int a1, .int a2, .int (I 11 a1.toNatClampNeg), .int x_6, .int x_9]) (S' := [.int (1 : Int32), .ref 13]) (σ' := (97, (az_u (az_u (az_u I_10 11 a1.toNatClampNeg x_6) 12 a1.toNatClampNeg ((I_10 12 a1.toNatClampNeg) + x_9)) 13 0 ((I_10 13 0) + (1 : Int32))), J, R)) (x := (I_10 13 1)) rfl rfl ?_
                        refine az_E.sn 2 (pc' := 105) (L' := [.ref 3, .int a1, .int a2, .int (I 11 a1.toNatClampNeg), .int x_6, .int x_9]) (S' := [.int ((I_10 13 1) + x_9), .int (1 : Int32), .ref 13]) (σ' := (97, (az_u (az_u (az_u I_10 11 a1.toNatClampNeg x_6) 12 a1.toNatClampNeg ((I_10 12 a1.toNatClampNeg) + x_9)) 13 0 ((I_10 13 0) + (1 : Int32))), J, R)) rfl ?_
                        refine az_E.o (o := az_si az_F (97, (az_u (az_u (az_u I_10 11 a1.toNatClampNeg x_6) 12 a1.toNatClampNeg ((I_10 12 a1.toNatClampNeg) + x_9)) 13 0 ((I_10 13 0) + (1 : Int32))), J, R) 13 (1 : Int32) ((I_10 13 1) + x_9)) (pc' := 106) (L' := [.ref 3, .int a1, .int a2, .int (I 11 a1.toNatClampNeg), .int x_6, .int x_9]) (S' := []) (x := (97, (az_u (az_u (az_u (az_u I_10 11 a1.toNatClampNeg x_6) 12 a1.toNatClampNeg ((I_10 12 a1.toNatClampNeg) + x_9)) 13 0 ((I_10 13 0) + (1 : Int32))) 13 1 ((I_10 13 1) + x_9)), J, R)) rfl rfl ?_
                        refine az_E.sn 1 (pc' := 108) (L' := [.ref 3, .int a1, .int a2, .int (I 11 a1.toNatClampNeg), .int x_6, .int x_9]) (S' := [.int x_9]) (σ' := (97, (az_u (az_u (az_u (az_u I_10 11 a1.toNatClampNeg x_6) 12 a1.toNatClampNeg ((I_10 12 a1.toNatClampNeg) + x_9)) 13 0 ((I_10 13 0) + (1 : Int32))) 13 1 ((I_10 13 1) + x_9)), J, R)) rfl ?_
                        have h := Option.some.inj h
                        subst h
                        exact az_E.ret (v := some (.int x_9)) (σ' := (97, (az_u (az_u (az_u (az_u I_10 11 a1.toNatClampNeg x_6) 12 a1.toNatClampNeg ((I_10 12 a1.toNatClampNeg) + x_9)) 13 0 ((I_10 13 0) + (1 : Int32))) 13 1 ((I_10 13 1) + x_9)), J, R)) rfl hQ
              · rw [if_neg hc_8] at h
                refine az_E.sn 1 (pc' := 43) (L' := [.ref 3, .int a1, .int a2, .int (I 11 a1.toNatClampNeg), .int x_6, .retAddr 0]) (S' := [.int (-5 : Int32)]) (σ' := (97, I, J, R)) rfl ?_
                have h := Option.some.inj h
                subst h
                exact az_E.ret (v := some (.int (-5 : Int32))) (σ' := (97, I, J, R)) rfl hQ

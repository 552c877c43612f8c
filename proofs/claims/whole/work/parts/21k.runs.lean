set_option maxRecDepth 100000 in
set_option maxHeartbeats 4000000 in
theorem re_X_shift_22_71 {ex : az_X} {I : Nat → Nat → Int32} {J : Nat → Nat → Int64} {R : Nat → Nat → Option Nat} {v2 : Int32} {v3 : Int32} {v4 : Int32} {v5 : Int32} {x : Int32 × (Nat → Nat → Int64)} (h : rs_X_shift_22 71 I J v2 v3 v4 v5 = some x) {Q : Option Value → az_S → Prop} (hQ : Q (some (.int x.1)) (97, I, x.2, R)) : az_E az_F ex 2 128 22 [.ref 3, .retAddr 0, .int v2, .int v3, .int v4, .int v5, .retAddr 0, .retAddr 0] [.ref 71] (97, I, J, R) Q := by
  unfold rs_X_shift_22 at h
  refine az_E.sn 4 (pc' := 29) (L' := [.ref 3, .retAddr 0, .int v2, .int v3, .int v4, .int v5, .ref 71, .retAddr 0]) (S' := [.int v3, .ref 58]) (σ' := (97, I, J, R)) rfl ?_
  by_cases hc_1631 : v3 < 0 ∨ 6 ≤ v3.toNatClampNeg
  · rw [if_pos hc_1631] at h; cases h
  · rw [if_neg hc_1631] at h
    rcases az_six hc_1631 with ehc_1631 | ehc_1631 | ehc_1631 | ehc_1631 | ehc_1631 | ehc_1631
    · rw [ehc_1631] at h ⊢; (try rw [ehc_1631] at hQ)
      refine az_E.ov (pc' := 30) (L' := [.ref 3, .retAddr 0, .int v2, .int (0 : Int32), .int v4, .int v5, .ref 71, .retAddr 0]) (S' := []) (σ' := (97, I, J, R)) (x := .ref 61) (o := az_aa az_F (97, I, J, R) 58 (0 : Int32)) rfl rfl ?_
      exact az_E.forget (L := [.retAddr 0, .retAddr 0, .int v2, .retAddr 0, .int v4, .int v5, .ref 71, .retAddr 0]) ⟨trivial, trivial, rfl, trivial, rfl, rfl, rfl, trivial, trivial⟩ (re_X_shift_30_71_61 (I := I) (J := J) (R := R)  h hQ)
    · rw [ehc_1631] at h ⊢; (try rw [ehc_1631] at hQ)
      refine az_E.ov (pc' := 30) (L' := [.ref 3, .retAddr 0, .int v2, .int (1 : Int32), .int v4, .int v5, .ref 71, .retAddr 0]) (S' := []) (σ' := (97, I, J, R)) (x := .ref 63) (o := az_aa az_F (97, I, J, R) 58 (1 : Int32)) rfl rfl ?_
      exact az_E.forget (L := [.retAddr 0, .retAddr 0, .int v2, .retAddr 0, .int v4, .int v5, .ref 71, .retAddr 0]) ⟨trivial, trivial, rfl, trivial, rfl, rfl, rfl, trivial, trivial⟩ (re_X_shift_30_71_63 (I := I) (J := J) (R := R)  h hQ)
    · rw [ehc_1631] at h ⊢; (try rw [ehc_1631] at hQ)
      refine az_E.ov (pc' := 30) (L' := [.ref 3, .retAddr 0, .int v2, .int (2 : Int32), .int v4, .int v5, .ref 71, .retAddr 0]) (S' := []) (σ' := (97, I, J, R)) (x := .ref 65) (o := az_aa az_F (97, I, J, R) 58 (2 : Int32)) rfl rfl ?_
      exact az_E.forget (L := [.retAddr 0, .retAddr 0, .int v2, .retAddr 0, .int v4, .int v5, .ref 71, .retAddr 0]) ⟨trivial, trivial, rfl, trivial, rfl, rfl, rfl, trivial, trivial⟩ (re_X_shift_30_71_65 (I := I) (J := J) (R := R)  h hQ)
    · rw [ehc_1631] at h ⊢; (try rw [ehc_1631] at hQ)
      refine az_E.ov (pc' := 30) (L' := [.ref 3, .retAddr 0, .int v2, .int (3 : Int32), .int v4, .int v5, .ref 71, .retAddr 0]) (S' := []) (σ' := (97, I, J, R)) (x := .ref 67) (o := az_aa az_F (97, I, J, R) 58 (3 : Int32)) rfl rfl ?_
      exact az_E.forget (L := [.retAddr 0, .retAddr 0, .int v2, .retAddr 0, .int v4, .int v5, .ref 71, .retAddr 0]) ⟨trivial, trivial, rfl, trivial, rfl, rfl, rfl, trivial, trivial⟩ (re_X_shift_30_71_67 (I := I) (J := J) (R := R)  h hQ)
    · rw [ehc_1631] at h ⊢; (try rw [ehc_1631] at hQ)
      refine az_E.ov (pc' := 30) (L' := [.ref 3, .retAddr 0, .int v2, .int (4 : Int32), .int v4, .int v5, .ref 71, .retAddr 0]) (S' := []) (σ' := (97, I, J, R)) (x := .ref 69) (o := az_aa az_F (97, I, J, R) 58 (4 : Int32)) rfl rfl ?_
      exact az_E.forget (L := [.retAddr 0, .retAddr 0, .int v2, .retAddr 0, .int v4, .int v5, .ref 71, .retAddr 0]) ⟨trivial, trivial, rfl, trivial, rfl, rfl, rfl, trivial, trivial⟩ (re_X_shift_30_71_69 (I := I) (J := J) (R := R)  h hQ)
    · rw [ehc_1631] at h ⊢; (try rw [ehc_1631] at hQ)
      refine az_E.ov (pc' := 30) (L' := [.ref 3, .retAddr 0, .int v2, .int (5 : Int32), .int v4, .int v5, .ref 71, .retAddr 0]) (S' := []) (σ' := (97, I, J, R)) (x := .ref 71) (o := az_aa az_F (97, I, J, R) 58 (5 : Int32)) rfl rfl ?_
      exact az_E.forget (L := [.retAddr 0, .retAddr 0, .int v2, .retAddr 0, .int v4, .int v5, .ref 71, .retAddr 0]) ⟨trivial, trivial, rfl, trivial, rfl, rfl, rfl, trivial, trivial⟩ (re_X_shift_30_71_71 (I := I) (J := J) (R := R)  h hQ)
set_option maxRecDepth 100000 in
set_option maxHeartbeats 4000000 in
theorem re_X_shift {ex : az_X} {I : Nat → Nat → Int32} {J : Nat → Nat → Int64} {R : Nat → Nat → Option Nat} {a1 : Int32} {a2 : Int32} {a3 : Int32} {a4 : Int32} {a5 : Int32} {o : Int32 × (Nat → Nat → Int64)} (h : rs_X_shift I J a1 a2 a3 a4 a5 = some o) {Q : Option Value → az_S → Prop} (hQ : Q (some (.int o.1)) (97, I, o.2, R)) : az_E az_F ex 2 128 0 [.ref 3, .int a1, .int a2, .int a3, .int a4, .int a5, .retAddr 0, .retAddr 0] [] (97, I, J, R) Q := by
  unfold rs_X_shift at h
  refine az_E.sn 1 (pc' := 1) (L' := [.ref 3, .int a1, .int a2, .int a3, .int a4, .int a5, .retAddr 0, .retAddr 0]) (S' := [.int a1]) (σ' := (97, I, J, R)) rfl ?_
  refine az_E.call (d := 1) (k' := 137) (vs := [.int a1]) (pc' := 4) (S' := []) rfl ?_ (fun _ _ hq => hq)
  show az_E az_F ex 1 137 0 [.int a1] [] (97, I, J, R) _
  refine az_E.sn 3 (pc' := 3) (L' := [.int a1]) (S' := [.int (5 : Int32), .int (0 : Int32), .int a1]) (σ' := (97, I, J, R)) rfl ?_
  refine az_E.call (d := 0) (k' := 131) (vs := [.int a1, .int (0 : Int32), .int (5 : Int32)]) (pc' := 6) (S' := []) rfl ?_ (fun _ _ hq => hq)
  show az_E az_F ex 0 131 0 [.int a1, .int (0 : Int32), .int (5 : Int32)] [] (97, I, J, R) _
  refine az_E.sn 2 (pc' := 2) (L' := [.int a1, .int (0 : Int32), .int (5 : Int32)]) (S' := [.int (0 : Int32), .int a1]) (σ' := (97, I, J, R)) rfl ?_
  refine az_E.br (c := a1 < (0 : Int32)) (tt := 14) (ff := 5) (L' := [.int a1, .int (0 : Int32), .int (5 : Int32)]) (S' := []) (σ' := (97, I, J, R)) rfl (fun hc_1 => ?_) (fun hc_1 => ?_)
  · rw [if_pos hc_1] at h
    refine az_E.sn 1 (pc' := 15) (L' := [.int a1, .int (0 : Int32), .int (5 : Int32)]) (S' := [.int (0 : Int32)]) (σ' := (97, I, J, R)) rfl ?_
    refine az_E.ret (v := some (.int (0 : Int32))) (σ' := (97, I, J, R)) rfl ?_
    show az_E az_F ex 1 137 6 [.int a1] [.int (0 : Int32)] (97, I, J, R) _
    refine az_E.ret (v := some (.int (0 : Int32))) (σ' := (97, I, J, R)) rfl ?_
    show az_E az_F ex 2 128 4 [.ref 3, .int a1, .int a2, .int a3, .int a4, .int a5, .retAddr 0, .retAddr 0] [.int (0 : Int32)] (97, I, J, R) _
    refine az_E.br (c := (0 : Int32) = 0) (tt := 14) (ff := 7) (L' := [.ref 3, .int a1, .int a2, .int a3, .int a4, .int a5, .retAddr 0, .retAddr 0]) (S' := []) (σ' := (97, I, J, R)) rfl (fun _ => ?_) (fun hn => absurd (by decide) hn)
    refine az_E.sn 1 (pc' := 15) (L' := [.ref 3, .int a1, .int a2, .int a3, .int a4, .int a5, .retAddr 0, .retAddr 0]) (S' := [.int (-1 : Int32)]) (σ' := (97, I, J, R)) rfl ?_
    have h := Option.some.inj h
    subst h
    exact az_E.ret (v := some (.int (-1 : Int32))) (σ' := (97, I, J, R)) rfl hQ
  · rw [if_neg hc_1] at h
    refine az_E.sn 2 (pc' := 7) (L' := [.int a1, .int (0 : Int32), .int (5 : Int32)]) (S' := [.int (5 : Int32), .int a1]) (σ' := (97, I, J, R)) rfl ?_
    refine az_E.br (c := (5 : Int32) < a1) (tt := 14) (ff := 10) (L' := [.int a1, .int (0 : Int32), .int (5 : Int32)]) (S' := []) (σ' := (97, I, J, R)) rfl (fun hc_2 => ?_) (fun hc_2 => ?_)
    · rw [if_pos hc_2] at h
      refine az_E.sn 1 (pc' := 15) (L' := [.int a1, .int (0 : Int32), .int (5 : Int32)]) (S' := [.int (0 : Int32)]) (σ' := (97, I, J, R)) rfl ?_
      refine az_E.ret (v := some (.int (0 : Int32))) (σ' := (97, I, J, R)) rfl ?_
      show az_E az_F ex 1 137 6 [.int a1] [.int (0 : Int32)] (97, I, J, R) _
      refine az_E.ret (v := some (.int (0 : Int32))) (σ' := (97, I, J, R)) rfl ?_
      show az_E az_F ex 2 128 4 [.ref 3, .int a1, .int a2, .int a3, .int a4, .int a5, .retAddr 0, .retAddr 0] [.int (0 : Int32)] (97, I, J, R) _
      refine az_E.br (c := (0 : Int32) = 0) (tt := 14) (ff := 7) (L' := [.ref 3, .int a1, .int a2, .int a3, .int a4, .int a5, .retAddr 0, .retAddr 0]) (S' := []) (σ' := (97, I, J, R)) rfl (fun _ => ?_) (fun hn => absurd (by decide) hn)
      refine az_E.sn 1 (pc' := 15) (L' := [.ref 3, .int a1, .int a2, .int a3, .int a4, .int a5, .retAddr 0, .retAddr 0]) (S' := [.int (-1 : Int32)]) (σ' := (97, I, J, R)) rfl ?_
      have h := Option.some.inj h
      subst h
      exact az_E.ret (v := some (.int (-1 : Int32))) (σ' := (97, I, J, R)) rfl hQ
    · rw [if_neg hc_2] at h
      refine az_E.sn 2 (pc' := 15) (L' := [.int a1, .int (0 : Int32), .int (5 : Int32)]) (S' := [.int (1 : Int32)]) (σ' := (97, I, J, R)) rfl ?_
      refine az_E.ret (v := some (.int (1 : Int32))) (σ' := (97, I, J, R)) rfl ?_
      show az_E az_F ex 1 137 6 [.int a1] [.int (1 : Int32)] (97, I, J, R) _
      refine az_E.ret (v := some (.int (1 : Int32))) (σ' := (97, I, J, R)) rfl ?_
      show az_E az_F ex 2 128 4 [.ref 3, .int a1, .int a2, .int a3, .int a4, .int a5, .retAddr 0, .retAddr 0] [.int (1 : Int32)] (97, I, J, R) _
      refine az_E.br (c := (1 : Int32) = 0) (tt := 14) (ff := 7) (L' := [.ref 3, .int a1, .int a2, .int a3, .int a4, .int a5, .retAddr 0, .retAddr 0]) (S' := []) (σ' := (97, I, J, R)) rfl (fun hn => absurd hn (by decide)) (fun _ => ?_)
      refine az_E.sn 1 (pc' := 8) (L' := [.ref 3, .int a1, .int a2, .int a3, .int a4, .int a5, .retAddr 0, .retAddr 0]) (S' := [.int a3]) (σ' := (97, I, J, R)) rfl ?_
      refine az_E.call (d := 1) (k' := 137) (vs := [.int a3]) (pc' := 11) (S' := []) rfl ?_ (fun _ _ hq => hq)
      show az_E az_F ex 1 137 0 [.int a3] [] (97, I, J, R) _
      refine az_E.sn 3 (pc' := 3) (L' := [.int a3]) (S' := [.int (5 : Int32), .int (0 : Int32), .int a3]) (σ' := (97, I, J, R)) rfl ?_
      refine az_E.call (d := 0) (k' := 131) (vs := [.int a3, .int (0 : Int32), .int (5 : Int32)]) (pc' := 6) (S' := []) rfl ?_ (fun _ _ hq => hq)
      show az_E az_F ex 0 131 0 [.int a3, .int (0 : Int32), .int (5 : Int32)] [] (97, I, J, R) _
      refine az_E.sn 2 (pc' := 2) (L' := [.int a3, .int (0 : Int32), .int (5 : Int32)]) (S' := [.int (0 : Int32), .int a3]) (σ' := (97, I, J, R)) rfl ?_
      refine az_E.br (c := a3 < (0 : Int32)) (tt := 14) (ff := 5) (L' := [.int a3, .int (0 : Int32), .int (5 : Int32)]) (S' := []) (σ' := (97, I, J, R)) rfl (fun hc_3 => ?_) (fun hc_3 => ?_)
      · rw [if_pos hc_3] at h
        refine az_E.sn 1 (pc' := 15) (L' := [.int a3, .int (0 : Int32), .int (5 : Int32)]) (S' := [.int (0 : Int32)]) (σ' := (97, I, J, R)) rfl ?_
        refine az_E.ret (v := some (.int (0 : Int32))) (σ' := (97, I, J, R)) rfl ?_
        show az_E az_F ex 1 137 6 [.int a3] [.int (0 : Int32)] (97, I, J, R) _
        refine az_E.ret (v := some (.int (0 : Int32))) (σ' := (97, I, J, R)) rfl ?_
        show az_E az_F ex 2 128 11 [.ref 3, .int a1, .int a2, .int a3, .int a4, .int a5, .retAddr 0, .retAddr 0] [.int (0 : Int32)] (97, I, J, R) _
        refine az_E.br (c := (0 : Int32) = 0) (tt := 14) (ff := 16) (L' := [.ref 3, .int a1, .int a2, .int a3, .int a4, .int a5, .retAddr 0, .retAddr 0]) (S' := []) (σ' := (97, I, J, R)) rfl (fun _ => ?_) (fun hn => absurd (by decide) hn)
        refine az_E.sn 1 (pc' := 15) (L' := [.ref 3, .int a1, .int a2, .int a3, .int a4, .int a5, .retAddr 0, .retAddr 0]) (S' := [.int (-1 : Int32)]) (σ' := (97, I, J, R)) rfl ?_
        have h := Option.some.inj h
        subst h
        exact az_E.ret (v := some (.int (-1 : Int32))) (σ' := (97, I, J, R)) rfl hQ
      · rw [if_neg hc_3] at h
        refine az_E.sn 2 (pc' := 7) (L' := [.int a3, .int (0 : Int32), .int (5 : Int32)]) (S' := [.int (5 : Int32), .int a3]) (σ' := (97, I, J, R)) rfl ?_
        refine az_E.br (c := (5 : Int32) < a3) (tt := 14) (ff := 10) (L' := [.int a3, .int (0 : Int32), .int (5 : Int32)]) (S' := []) (σ' := (97, I, J, R)) rfl (fun hc_4 => ?_) (fun hc_4 => ?_)
        · rw [if_pos hc_4] at h
          refine az_E.sn 1 (pc' := 15) (L' := [.int a3, .int (0 : Int32), .int (5 : Int32)]) (S' := [.int (0 : Int32)]) (σ' := (97, I, J, R)) rfl ?_
          refine az_E.ret (v := some (.int (0 : Int32))) (σ' := (97, I, J, R)) rfl ?_
          show az_E az_F ex 1 137 6 [.int a3] [.int (0 : Int32)] (97, I, J, R) _
          refine az_E.ret (v := some (.int (0 : Int32))) (σ' := (97, I, J, R)) rfl ?_
          show az_E az_F ex 2 128 11 [.ref 3, .int a1, .int a2, .int a3, .int a4, .int a5, .retAddr 0, .retAddr 0] [.int (0 : Int32)] (97, I, J, R) _
          refine az_E.br (c := (0 : Int32) = 0) (tt := 14) (ff := 16) (L' := [.ref 3, .int a1, .int a2, .int a3, .int a4, .int a5, .retAddr 0, .retAddr 0]) (S' := []) (σ' := (97, I, J, R)) rfl (fun _ => ?_) (fun hn => absurd (by decide) hn)
          refine az_E.sn 1 (pc' := 15) (L' := [.ref 3, .int a1, .int a2, .int a3, .int a4, .int a5, .retAddr 0, .retAddr 0]) (S' := [.int (-1 : Int32)]) (σ' := (97, I, J, R)) rfl ?_
          have h := Option.some.inj h
          subst h
          exact az_E.ret (v := some (.int (-1 : Int32))) (σ' := (97, I, J, R)) rfl hQ
        · rw [if_neg hc_4] at h
          refine az_E.sn 2 (pc' := 15) (L' := [.int a3, .int (0 : Int32), .int (5 : Int32)]) (S' := [.int (1 : Int32)]) (σ' := (97, I, J, R)) rfl ?_
          refine az_E.ret (v := some (.int (1 : Int32))) (σ' := (97, I, J, R)) rfl ?_
          show az_E az_F ex 1 137 6 [.int a3] [.int (1 : Int32)] (97, I, J, R) _
          refine az_E.ret (v := some (.int (1 : Int32))) (σ' := (97, I, J, R)) rfl ?_
          show az_E az_F ex 2 128 11 [.ref 3, .int a1, .int a2, .int a3, .int a4, .int a5, .retAddr 0, .retAddr 0] [.int (1 : Int32)] (97, I, J, R) _
          refine az_E.br (c := (1 : Int32) = 0) (tt := 14) (ff := 16) (L' := [.ref 3, .int a1, .int a2, .int a3, .int a4, .int a5, .retAddr 0, .retAddr 0]) (S' := []) (σ' := (97, I, J, R)) rfl (fun hn => absurd hn (by decide)) (fun _ => ?_)
          refine az_E.sn 3 (pc' := 21) (L' := [.ref 3, .int a1, .int a2, .int a3, .int a4, .int a5, .retAddr 0, .retAddr 0]) (S' := [.int a1, .ref 58]) (σ' := (97, I, J, R)) rfl ?_
          by_cases hc_5 : a1 < 0 ∨ 6 ≤ a1.toNatClampNeg
          · rw [if_pos hc_5] at h; cases h
          · rw [if_neg hc_5] at h
            rcases az_six hc_5 with ehc_5 | ehc_5 | ehc_5 | ehc_5 | ehc_5 | ehc_5
            · subst ehc_5
              refine az_E.ov (pc' := 22) (L' := [.ref 3, .int (0 : Int32), .int a2, .int a3, .int a4, .int a5, .retAddr 0, .retAddr 0]) (S' := []) (σ' := (97, I, J, R)) (x := .ref 61) (o := az_aa az_F (97, I, J, R) 58 (0 : Int32)) rfl rfl ?_
              exact az_E.forget (L := [.ref 3, .retAddr 0, .int a2, .int a3, .int a4, .int a5, .retAddr 0, .retAddr 0]) ⟨rfl, trivial, rfl, rfl, rfl, rfl, trivial, trivial, trivial⟩ (re_X_shift_22_61 (I := I) (J := J) (R := R)  h hQ)
            · subst ehc_5
              refine az_E.ov (pc' := 22) (L' := [.ref 3, .int (1 : Int32), .int a2, .int a3, .int a4, .int a5, .retAddr 0, .retAddr 0]) (S' := []) (σ' := (97, I, J, R)) (x := .ref 63) (o := az_aa az_F (97, I, J, R) 58 (1 : Int32)) rfl rfl ?_
              exact az_E.forget (L := [.ref 3, .retAddr 0, .int a2, .int a3, .int a4, .int a5, .retAddr 0, .retAddr 0]) ⟨rfl, trivial, rfl, rfl, rfl, rfl, trivial, trivial, trivial⟩ (re_X_shift_22_63 (I := I) (J := J) (R := R)  h hQ)
            · subst ehc_5
              refine az_E.ov (pc' := 22) (L' := [.ref 3, .int (2 : Int32), .int a2, .int a3, .int a4, .int a5, .retAddr 0, .retAddr 0]) (S' := []) (σ' := (97, I, J, R)) (x := .ref 65) (o := az_aa az_F (97, I, J, R) 58 (2 : Int32)) rfl rfl ?_
              exact az_E.forget (L := [.ref 3, .retAddr 0, .int a2, .int a3, .int a4, .int a5, .retAddr 0, .retAddr 0]) ⟨rfl, trivial, rfl, rfl, rfl, rfl, trivial, trivial, trivial⟩ (re_X_shift_22_65 (I := I) (J := J) (R := R)  h hQ)
            · subst ehc_5
              refine az_E.ov (pc' := 22) (L' := [.ref 3, .int (3 : Int32), .int a2, .int a3, .int a4, .int a5, .retAddr 0, .retAddr 0]) (S' := []) (σ' := (97, I, J, R)) (x := .ref 67) (o := az_aa az_F (97, I, J, R) 58 (3 : Int32)) rfl rfl ?_
              exact az_E.forget (L := [.ref 3, .retAddr 0, .int a2, .int a3, .int a4, .int a5, .retAddr 0, .retAddr 0]) ⟨rfl, trivial, rfl, rfl, rfl, rfl, trivial, trivial, trivial⟩ (re_X_shift_22_67 (I := I) (J := J) (R := R)  h hQ)
            · subst ehc_5
              refine az_E.ov (pc' := 22) (L' := [.ref 3, .int (4 : Int32), .int a2, .int a3, .int a4, .int a5, .retAddr 0, .retAddr 0]) (S' := []) (σ' := (97, I, J, R)) (x := .ref 69) (o := az_aa az_F (97, I, J, R) 58 (4 : Int32)) rfl rfl ?_
              exact az_E.forget (L := [.ref 3, .retAddr 0, .int a2, .int a3, .int a4, .int a5, .retAddr 0, .retAddr 0]) ⟨rfl, trivial, rfl, rfl, rfl, rfl, trivial, trivial, trivial⟩ (re_X_shift_22_69 (I := I) (J := J) (R := R)  h hQ)
            · subst ehc_5
              refine az_E.ov (pc' := 22) (L' := [.ref 3, .int (5 : Int32), .int a2, .int a3, .int a4, .int a5, .retAddr 0, .retAddr 0]) (S' := []) (σ' := (97, I, J, R)) (x := .ref 71) (o := az_aa az_F (97, I, J, R) 58 (5 : Int32)) rfl rfl ?_
              exact az_E.forget (L := [.ref 3, .retAddr 0, .int a2, .int a3, .int a4, .int a5, .retAddr 0, .retAddr 0]) ⟨rfl, trivial, rfl, rfl, rfl, rfl, trivial, trivial, trivial⟩ (re_X_shift_22_71 (I := I) (J := J) (R := R)  h hQ)
set_option maxRecDepth 100000 in
set_option maxHeartbeats 4000000 in
theorem re_M_shift_150_b {ex : az_X} {I : Nat → Nat → Int32} {J : Nat → Nat → Int64} {R : Nat → Nat → Option Nat} {v3 : Int32} {v4 : Int32} {v5 : Int32} {v6 : Int32} {x : ((Int32 × (Nat → Nat → Int64)) ⊕ (Int32 × (Nat → Nat → Int64)))} (h : rs_M_shift_150_b I v3 v4 v5 v6 J = some x) {Q : Option Value → az_S → Prop} (hQ : Sum.elim (fun s => az_E az_F ex 2 252 150 [.ref 73, .retAddr 0, .retAddr 0, .int v3, .int v4, .int v5, .int s.1] [] (97, I, s.2, R) Q) (fun x => Q (some (.int x.1)) (97, I, x.2, R)) x) : az_E az_F ex 2 252 150 [.ref 73, .retAddr 0, .retAddr 0, .int v3, .int v4, .int v5, .int v6] [] (97, I, J, R) Q := by
  unfold rs_M_shift_150_b at h
  refine az_E.sn 2 (pc' := 154) (L' := [.ref 73, .retAddr 0, .retAddr 0, .int v3, .int v4, .int v5, .int v6]) (S' := [.int v5, .int v6]) (σ' := (97, I, J, R)) rfl ?_
  refine az_E.br (c := v5 ≤ v6) (tt := 185) (ff := 157) (L' := [.ref 73, .retAddr 0, .retAddr 0, .int v3, .int v4, .int v5, .int v6]) (S' := []) (σ' := (97, I, J, R)) rfl (fun hc_22 => ?_) (fun hc_22 => ?_)
  · rw [if_pos hc_22] at h
    refine az_E.sn 1 (pc' := 187) (L' := [.ref 73, .retAddr 0, .retAddr 0, .int v3, .int v4, .int v5, .int v6]) (S' := [.int v5]) (σ' := (97, I, J, R)) rfl ?_
    have h := Option.some.inj h
    subst h
    exact az_E.ret (v := some (.int v5)) (σ' := (97, I, J, R)) rfl hQ
  · rw [if_neg hc_22] at h
    refine az_E.sn 12 (pc' := 177) (L' := [.ref 73, .retAddr 0, .retAddr 0, .int v3, .int v4, .int v5, .int v6]) (S' := [.int v6, .ref 99, .int ((((60 : Int32) * v3) + v4) + v6), .ref 98]) (σ' := (97, I, J, R)) rfl ?_
    by_cases hc_23 : v6 < 0 ∨ 60 ≤ v6.toNatClampNeg
    · rw [if_pos hc_23] at h; cases h
    · rw [if_neg hc_23] at h
      refine az_E.ol (o := az_al az_F (97, I, J, R) 99 v6) (pc' := 178) (L' := [.ref 73, .retAddr 0, .retAddr 0, .int v3, .int v4, .int v5, .int v6]) (S' := [.int ((((60 : Int32) * v3) + v4) + v6), .ref 98]) (σ' := (97, I, J, R)) (x := (J 99 v6.toNatClampNeg)) rfl (if_neg hc_23) ?_
      by_cases hc_24 : ((((60 : Int32) * v3) + v4) + v6) < 0 ∨ 360 ≤ ((((60 : Int32) * v3) + v4) + v6).toNatClampNeg
      · rw [if_pos hc_24] at h; cases h
      · rw [if_neg hc_24] at h
        refine az_E.o (o := az_sl az_F (97, I, J, R) 98 ((((60 : Int32) * v3) + v4) + v6) (J 99 v6.toNatClampNeg)) (pc' := 179) (L' := [.ref 73, .retAddr 0, .retAddr 0, .int v3, .int v4, .int v5, .int v6]) (S' := []) (x := (97, I, (az_u J 98 ((((60 : Int32) * v3) + v4) + v6).toNatClampNeg (J 99 v6.toNatClampNeg)), R)) rfl (if_neg hc_24) ?_
        refine az_E.sn 2 (pc' := 150) (L' := [.ref 73, .retAddr 0, .retAddr 0, .int v3, .int v4, .int v5, .int (v6 + (1 : Int32))]) (S' := []) (σ' := (97, I, (az_u J 98 ((((60 : Int32) * v3) + v4) + v6).toNatClampNeg (J 99 v6.toNatClampNeg)), R)) rfl ?_
        have h := Option.some.inj h
        subst h
        exact az_E.forget (L := [.ref 73, .retAddr 0, .retAddr 0, .int v3, .int v4, .int v5, .int (v6 + (1 : Int32))]) ⟨rfl, trivial, trivial, rfl, rfl, rfl, rfl, trivial⟩ hQ
set_option maxRecDepth 100000 in
set_option maxHeartbeats 4000000 in
theorem re_M_shift_150 {ex : az_X} {I : Nat → Nat → Int32} {J : Nat → Nat → Int64} {R : Nat → Nat → Option Nat} {v3 : Int32} {v4 : Int32} {v5 : Int32} {v6 : Int32} {x : Int32 × (Nat → Nat → Int64)} (h : rs_M_shift_150 I J v3 v4 v5 v6 = some x) {Q : Option Value → az_S → Prop} (hQ : Q (some (.int x.1)) (97, I, x.2, R)) : az_E az_F ex 2 252 150 [.ref 73, .retAddr 0, .retAddr 0, .int v3, .int v4, .int v5, .int v6] [] (97, I, J, R) Q := by
  unfold rs_M_shift_150 at h
  refine az_lp_E (G := fun s => az_E az_F ex 2 252 150 [.ref 73, .retAddr 0, .retAddr 0, .int v3, .int v4, .int v5, .int s.1] [] (97, I, s.2, R) Q) (H := fun x => Q (some (.int x.1)) (97, I, x.2, R)) (fun s o hb ho => ?_) _ _ _ h hQ
  exact re_M_shift_150_b  hb ho
set_option maxRecDepth 100000 in
set_option maxHeartbeats 4000000 in
theorem re_M_shift_113_b {ex : az_X} {I : Nat → Nat → Int32} {J : Nat → Nat → Int64} {R : Nat → Nat → Option Nat} {v1 : Int32} {v2 : Int32} {v3 : Int32} {v4 : Int32} {v5 : Int32} {v6 : Int32} {x : ((Int32 × (Nat → Nat → Int64)) ⊕ (Int32 × (Nat → Nat → Int64)))} (h : rs_M_shift_113_b I v1 v2 v3 v4 v5 v6 J = some x) {Q : Option Value → az_S → Prop} (hQ : Sum.elim (fun s => az_E az_F ex 2 252 113 [.ref 73, .int v1, .int v2, .int v3, .int v4, .int v5, .int s.1] [] (97, I, s.2, R) Q) (fun x => Q (some (.int x.1)) (97, I, x.2, R)) x) : az_E az_F ex 2 252 113 [.ref 73, .int v1, .int v2, .int v3, .int v4, .int v5, .int v6] [] (97, I, J, R) Q := by
  unfold rs_M_shift_113_b at h
  refine az_E.sn 2 (pc' := 117) (L' := [.ref 73, .int v1, .int v2, .int v3, .int v4, .int v5, .int v6]) (S' := [.int v5, .int v6]) (σ' := (97, I, J, R)) rfl ?_
  refine az_E.br (c := v5 ≤ v6) (tt := 147) (ff := 120) (L' := [.ref 73, .int v1, .int v2, .int v3, .int v4, .int v5, .int v6]) (S' := []) (σ' := (97, I, J, R)) rfl (fun hc_21 => ?_) (fun hc_21 => ?_)
  · rw [if_pos hc_21] at h
    refine az_E.sn 2 (pc' := 150) (L' := [.ref 73, .int v1, .int v2, .int v3, .int v4, .int v5, .int (0 : Int32)]) (S' := []) (σ' := (97, I, J, R)) rfl ?_
    obtain ⟨x, hx, rfl⟩ := Option.map_eq_some_iff.mp h
    exact az_E.forget (L := [.ref 73, .retAddr 0, .retAddr 0, .int v3, .int v4, .int v5, .int (0 : Int32)]) ⟨rfl, trivial, trivial, rfl, rfl, rfl, rfl, trivial⟩ (re_M_shift_150 (I := I) (J := J) (R := R)  hx hQ)
  · rw [if_neg hc_21] at h
    refine az_E.sn 12 (pc' := 139) (L' := [.ref 73, .int v1, .int v2, .int v3, .int v4, .int v5, .int v6]) (S' := [.int ((((60 : Int32) * v1) + v2) + v6), .ref 98, .int v6, .ref 99]) (σ' := (97, I, J, R)) rfl ?_
    by_cases hc_25 : ((((60 : Int32) * v1) + v2) + v6) < 0 ∨ 360 ≤ ((((60 : Int32) * v1) + v2) + v6).toNatClampNeg
    · rw [if_pos hc_25] at h; cases h
    · rw [if_neg hc_25] at h
      refine az_E.ol (o := az_al az_F (97, I, J, R) 98 ((((60 : Int32) * v1) + v2) + v6)) (pc' := 140) (L' := [.ref 73, .int v1, .int v2, .int v3, .int v4, .int v5, .int v6]) (S' := [.int v6, .ref 99]) (σ' := (97, I, J, R)) (x := (J 98 ((((60 : Int32) * v1) + v2) + v6).toNatClampNeg)) rfl (if_neg hc_25) ?_
      by_cases hc_26 : v6 < 0 ∨ 60 ≤ v6.toNatClampNeg
      · rw [if_pos hc_26] at h; cases h
      · rw [if_neg hc_26] at h
        refine az_E.o (o := az_sl az_F (97, I, J, R) 99 v6 (J 98 ((((60 : Int32) * v1) + v2) + v6).toNatClampNeg)) (pc' := 141) (L' := [.ref 73, .int v1, .int v2, .int v3, .int v4, .int v5, .int v6]) (S' := []) (x := (97, I, (az_u J 99 v6.toNatClampNeg (J 98 ((((60 : Int32) * v1) + v2) + v6).toNatClampNeg)), R)) rfl (if_neg hc_26) ?_
        refine az_E.sn 2 (pc' := 113) (L' := [.ref 73, .int v1, .int v2, .int v3, .int v4, .int v5, .int (v6 + (1 : Int32))]) (S' := []) (σ' := (97, I, (az_u J 99 v6.toNatClampNeg (J 98 ((((60 : Int32) * v1) + v2) + v6).toNatClampNeg)), R)) rfl ?_
        have h := Option.some.inj h
        subst h
        exact az_E.forget (L := [.ref 73, .int v1, .int v2, .int v3, .int v4, .int v5, .int (v6 + (1 : Int32))]) ⟨rfl, rfl, rfl, rfl, rfl, rfl, rfl, trivial⟩ hQ
set_option maxRecDepth 100000 in
set_option maxHeartbeats 4000000 in
theorem re_M_shift_113 {ex : az_X} {I : Nat → Nat → Int32} {J : Nat → Nat → Int64} {R : Nat → Nat → Option Nat} {v1 : Int32} {v2 : Int32} {v3 : Int32} {v4 : Int32} {v5 : Int32} {v6 : Int32} {x : Int32 × (Nat → Nat → Int64)} (h : rs_M_shift_113 I J v1 v2 v3 v4 v5 v6 = some x) {Q : Option Value → az_S → Prop} (hQ : Q (some (.int x.1)) (97, I, x.2, R)) : az_E az_F ex 2 252 113 [.ref 73, .int v1, .int v2, .int v3, .int v4, .int v5, .int v6] [] (97, I, J, R) Q := by
  unfold rs_M_shift_113 at h
  refine az_lp_E (G := fun s => az_E az_F ex 2 252 113 [.ref 73, .int v1, .int v2, .int v3, .int v4, .int v5, .int s.1] [] (97, I, s.2, R) Q) (H := fun x => Q (some (.int x.1)) (97, I, x.2, R)) (fun s o hb ho => ?_) _ _ _ h hQ
  exact re_M_shift_113_b  hb ho
set_option maxRecDepth 100000 in
set_option maxHeartbeats 4000000 in
theorem re_M_shift {ex : az_X} {I : Nat → Nat → Int32} {J : Nat → Nat → Int64} {R : Nat → Nat → Option Nat} {a1 : Int32} {a2 : Int32} {a3 : Int32} {a4 : Int32} {a5 : Int32} {o : Int32 × (Nat → Nat → Int64)} (h : rs_M_shift I J a1 a2 a3 a4 a5 = some o) {Q : Option Value → az_S → Prop} (hQ : Q (some (.int o.1)) (97, I, o.2, R)) : az_E az_F ex 2 252 0 [.ref 73, .int a1, .int a2, .int a3, .int a4, .int a5, .retAddr 0] [] (97, I, J, R) Q := by
  unfold rs_M_shift at h
  refine az_E.sn 1 (pc' := 1) (L' := [.ref 73, .int a1, .int a2, .int a3, .int a4, .int a5, .retAddr 0]) (S' := [.int a1]) (σ' := (97, I, J, R)) rfl ?_
  refine az_E.call (d := 1) (k' := 245) (vs := [.int a1]) (pc' := 4) (S' := []) rfl ?_ (fun _ _ hq => hq)
  show az_E az_F ex 1 245 0 [.int a1] [] (97, I, J, R) _
  refine az_E.sn 4 (pc' := 6) (L' := [.int a1]) (S' := [.long (5 : Int64), .long (0 : Int64), .long a1.toInt64]) (σ' := (97, I, J, R)) rfl ?_
  refine az_E.call (d := 0) (k' := 154) (vs := [.long a1.toInt64, .long (0 : Int64), .long (5 : Int64)]) (pc' := 9) (S' := []) rfl ?_ (fun _ _ hq => hq)
  show az_E az_F ex 0 154 0 [.long a1.toInt64, .retAddr 0, .long (0 : Int64), .retAddr 0, .long (5 : Int64), .retAddr 0] [] (97, I, J, R) _
  refine az_E.sn 3 (pc' := 3) (L' := [.long a1.toInt64, .retAddr 0, .long (0 : Int64), .retAddr 0, .long (5 : Int64), .retAddr 0]) (S' := [.int (lg_cmp a1.toInt64 (0 : Int64))]) (σ' := (97, I, J, R)) rfl ?_
  refine az_E.br (c := (lg_cmp a1.toInt64 (0 : Int64)) < 0) (tt := 17) (ff := 6) (L' := [.long a1.toInt64, .retAddr 0, .long (0 : Int64), .retAddr 0, .long (5 : Int64), .retAddr 0]) (S' := []) (σ' := (97, I, J, R)) rfl (fun hc_1 => ?_) (fun hc_1 => ?_)
  · rw [if_pos hc_1] at h
    refine az_E.sn 1 (pc' := 18) (L' := [.long a1.toInt64, .retAddr 0, .long (0 : Int64), .retAddr 0, .long (5 : Int64), .retAddr 0]) (S' := [.int (0 : Int32)]) (σ' := (97, I, J, R)) rfl ?_
    refine az_E.ret (v := some (.int (0 : Int32))) (σ' := (97, I, J, R)) rfl ?_
    show az_E az_F ex 1 245 9 [.int a1] [.int (0 : Int32)] (97, I, J, R) _
    refine az_E.ret (v := some (.int (0 : Int32))) (σ' := (97, I, J, R)) rfl ?_
    show az_E az_F ex 2 252 4 [.ref 73, .int a1, .int a2, .int a3, .int a4, .int a5, .retAddr 0] [.int (0 : Int32)] (97, I, J, R) _
    refine az_E.br (c := (0 : Int32) = 0) (tt := 14) (ff := 7) (L' := [.ref 73, .int a1, .int a2, .int a3, .int a4, .int a5, .retAddr 0]) (S' := []) (σ' := (97, I, J, R)) rfl (fun _ => ?_) (fun hn => absurd (by decide) hn)
    refine az_E.sn 1 (pc' := 15) (L' := [.ref 73, .int a1, .int a2, .int a3, .int a4, .int a5, .retAddr 0]) (S' := [.int (-1 : Int32)]) (σ' := (97, I, J, R)) rfl ?_
    have h := Option.some.inj h
    subst h
    exact az_E.ret (v := some (.int (-1 : Int32))) (σ' := (97, I, J, R)) rfl hQ
  · rw [if_neg hc_1] at h
    refine az_E.sn 3 (pc' := 10) (L' := [.long a1.toInt64, .retAddr 0, .long (0 : Int64), .retAddr 0, .long (5 : Int64), .retAddr 0]) (S' := [.int (lg_cmp a1.toInt64 (5 : Int64))]) (σ' := (97, I, J, R)) rfl ?_
    refine az_E.br (c := 0 < (lg_cmp a1.toInt64 (5 : Int64))) (tt := 17) (ff := 13) (L' := [.long a1.toInt64, .retAddr 0, .long (0 : Int64), .retAddr 0, .long (5 : Int64), .retAddr 0]) (S' := []) (σ' := (97, I, J, R)) rfl (fun hc_2 => ?_) (fun hc_2 => ?_)
    · rw [if_pos hc_2] at h
      refine az_E.sn 1 (pc' := 18) (L' := [.long a1.toInt64, .retAddr 0, .long (0 : Int64), .retAddr 0, .long (5 : Int64), .retAddr 0]) (S' := [.int (0 : Int32)]) (σ' := (97, I, J, R)) rfl ?_
      refine az_E.ret (v := some (.int (0 : Int32))) (σ' := (97, I, J, R)) rfl ?_
      show az_E az_F ex 1 245 9 [.int a1] [.int (0 : Int32)] (97, I, J, R) _
      refine az_E.ret (v := some (.int (0 : Int32))) (σ' := (97, I, J, R)) rfl ?_
      show az_E az_F ex 2 252 4 [.ref 73, .int a1, .int a2, .int a3, .int a4, .int a5, .retAddr 0] [.int (0 : Int32)] (97, I, J, R) _
      refine az_E.br (c := (0 : Int32) = 0) (tt := 14) (ff := 7) (L' := [.ref 73, .int a1, .int a2, .int a3, .int a4, .int a5, .retAddr 0]) (S' := []) (σ' := (97, I, J, R)) rfl (fun _ => ?_) (fun hn => absurd (by decide) hn)
      refine az_E.sn 1 (pc' := 15) (L' := [.ref 73, .int a1, .int a2, .int a3, .int a4, .int a5, .retAddr 0]) (S' := [.int (-1 : Int32)]) (σ' := (97, I, J, R)) rfl ?_
      have h := Option.some.inj h
      subst h
      exact az_E.ret (v := some (.int (-1 : Int32))) (σ' := (97, I, J, R)) rfl hQ
    · rw [if_neg hc_2] at h
      refine az_E.sn 2 (pc' := 18) (L' := [.long a1.toInt64, .retAddr 0, .long (0 : Int64), .retAddr 0, .long (5 : Int64), .retAddr 0]) (S' := [.int (1 : Int32)]) (σ' := (97, I, J, R)) rfl ?_
      refine az_E.ret (v := some (.int (1 : Int32))) (σ' := (97, I, J, R)) rfl ?_
      show az_E az_F ex 1 245 9 [.int a1] [.int (1 : Int32)] (97, I, J, R) _
      refine az_E.ret (v := some (.int (1 : Int32))) (σ' := (97, I, J, R)) rfl ?_
      show az_E az_F ex 2 252 4 [.ref 73, .int a1, .int a2, .int a3, .int a4, .int a5, .retAddr 0] [.int (1 : Int32)] (97, I, J, R) _
      refine az_E.br (c := (1 : Int32) = 0) (tt := 14) (ff := 7) (L' := [.ref 73, .int a1, .int a2, .int a3, .int a4, .int a5, .retAddr 0]) (S' := []) (σ' := (97, I, J, R)) rfl (fun hn => absurd hn (by decide)) (fun _ => ?_)
      refine az_E.sn 1 (pc' := 8) (L' := [.ref 73, .int a1, .int a2, .int a3, .int a4, .int a5, .retAddr 0]) (S' := [.int a3]) (σ' := (97, I, J, R)) rfl ?_
      refine az_E.call (d := 1) (k' := 245) (vs := [.int a3]) (pc' := 11) (S' := []) rfl ?_ (fun _ _ hq => hq)
      show az_E az_F ex 1 245 0 [.int a3] [] (97, I, J, R) _
      refine az_E.sn 4 (pc' := 6) (L' := [.int a3]) (S' := [.long (5 : Int64), .long (0 : Int64), .long a3.toInt64]) (σ' := (97, I, J, R)) rfl ?_
      refine az_E.call (d := 0) (k' := 154) (vs := [.long a3.toInt64, .long (0 : Int64), .long (5 : Int64)]) (pc' := 9) (S' := []) rfl ?_ (fun _ _ hq => hq)
      show az_E az_F ex 0 154 0 [.long a3.toInt64, .retAddr 0, .long (0 : Int64), .retAddr 0, .long (5 : Int64), .retAddr 0] [] (97, I, J, R) _
      refine az_E.sn 3 (pc' := 3) (L' := [.long a3.toInt64, .retAddr 0, .long (0 : Int64), .retAddr 0, .long (5 : Int64), .retAddr 0]) (S' := [.int (lg_cmp a3.toInt64 (0 : Int64))]) (σ' := (97, I, J, R)) rfl ?_
      refine az_E.br (c := (lg_cmp a3.toInt64 (0 : Int64)) < 0) (tt := 17) (ff := 6) (L' := [.long a3.toInt64, .retAddr 0, .long (0 : Int64), .retAddr 0, .long (5 : Int64), .retAddr 0]) (S' := []) (σ' := (97, I, J, R)) rfl (fun hc_3 => ?_) (fun hc_3 => ?_)
      · rw [if_pos hc_3] at h
        refine az_E.sn 1 (pc' := 18) (L' := [.long a3.toInt64, .retAddr 0, .long (0 : Int64), .retAddr 0, .long (5 : Int64), .retAddr 0]) (S' := [.int (0 : Int32)]) (σ' := (97, I, J, R)) rfl ?_
        refine az_E.ret (v := some (.int (0 : Int32))) (σ' := (97, I, J, R)) rfl ?_
        show az_E az_F ex 1 245 9 [.int a3] [.int (0 : Int32)] (97, I, J, R) _
        refine az_E.ret (v := some (.int (0 : Int32))) (σ' := (97, I, J, R)) rfl ?_
        show az_E az_F ex 2 252 11 [.ref 73, .int a1, .int a2, .int a3, .int a4, .int a5, .retAddr 0] [.int (0 : Int32)] (97, I, J, R) _
        refine az_E.br (c := (0 : Int32) = 0) (tt := 14) (ff := 16) (L' := [.ref 73, .int a1, .int a2, .int a3, .int a4, .int a5, .retAddr 0]) (S' := []) (σ' := (97, I, J, R)) rfl (fun _ => ?_) (fun hn => absurd (by decide) hn)
        refine az_E.sn 1 (pc' := 15) (L' := [.ref 73, .int a1, .int a2, .int a3, .int a4, .int a5, .retAddr 0]) (S' := [.int (-1 : Int32)]) (σ' := (97, I, J, R)) rfl ?_
        have h := Option.some.inj h
        subst h
        exact az_E.ret (v := some (.int (-1 : Int32))) (σ' := (97, I, J, R)) rfl hQ
      · rw [if_neg hc_3] at h
        refine az_E.sn 3 (pc' := 10) (L' := [.long a3.toInt64, .retAddr 0, .long (0 : Int64), .retAddr 0, .long (5 : Int64), .retAddr 0]) (S' := [.int (lg_cmp a3.toInt64 (5 : Int64))]) (σ' := (97, I, J, R)) rfl ?_
        refine az_E.br (c := 0 < (lg_cmp a3.toInt64 (5 : Int64))) (tt := 17) (ff := 13) (L' := [.long a3.toInt64, .retAddr 0, .long (0 : Int64), .retAddr 0, .long (5 : Int64), .retAddr 0]) (S' := []) (σ' := (97, I, J, R)) rfl (fun hc_4 => ?_) (fun hc_4 => ?_)
        · rw [if_pos hc_4] at h
          refine az_E.sn 1 (pc' := 18) (L' := [.long a3.toInt64, .retAddr 0, .long (0 : Int64), .retAddr 0, .long (5 : Int64), .retAddr 0]) (S' := [.int (0 : Int32)]) (σ' := (97, I, J, R)) rfl ?_
          refine az_E.ret (v := some (.int (0 : Int32))) (σ' := (97, I, J, R)) rfl ?_
          show az_E az_F ex 1 245 9 [.int a3] [.int (0 : Int32)] (97, I, J, R) _
          refine az_E.ret (v := some (.int (0 : Int32))) (σ' := (97, I, J, R)) rfl ?_
          show az_E az_F ex 2 252 11 [.ref 73, .int a1, .int a2, .int a3, .int a4, .int a5, .retAddr 0] [.int (0 : Int32)] (97, I, J, R) _
          refine az_E.br (c := (0 : Int32) = 0) (tt := 14) (ff := 16) (L' := [.ref 73, .int a1, .int a2, .int a3, .int a4, .int a5, .retAddr 0]) (S' := []) (σ' := (97, I, J, R)) rfl (fun _ => ?_) (fun hn => absurd (by decide) hn)
          refine az_E.sn 1 (pc' := 15) (L' := [.ref 73, .int a1, .int a2, .int a3, .int a4, .int a5, .retAddr 0]) (S' := [.int (-1 : Int32)]) (σ' := (97, I, J, R)) rfl ?_
          have h := Option.some.inj h
          subst h
          exact az_E.ret (v := some (.int (-1 : Int32))) (σ' := (97, I, J, R)) rfl hQ
        · rw [if_neg hc_4] at h
          refine az_E.sn 2 (pc' := 18) (L' := [.long a3.toInt64, .retAddr 0, .long (0 : Int64), .retAddr 0, .long (5 : Int64), .retAddr 0]) (S' := [.int (1 : Int32)]) (σ' := (97, I, J, R)) rfl ?_
          refine az_E.ret (v := some (.int (1 : Int32))) (σ' := (97, I, J, R)) rfl ?_
          show az_E az_F ex 1 245 9 [.int a3] [.int (1 : Int32)] (97, I, J, R) _
          refine az_E.ret (v := some (.int (1 : Int32))) (σ' := (97, I, J, R)) rfl ?_
          show az_E az_F ex 2 252 11 [.ref 73, .int a1, .int a2, .int a3, .int a4, .int a5, .retAddr 0] [.int (1 : Int32)] (97, I, J, R) _
          refine az_E.br (c := (1 : Int32) = 0) (tt := 14) (ff := 16) (L' := [.ref 73, .int a1, .int a2, .int a3, .int a4, .int a5, .retAddr 0]) (S' := []) (σ' := (97, I, J, R)) rfl (fun hn => absurd hn (by decide)) (fun _ => ?_)
          refine az_E.sn 3 (pc' := 21) (L' := [.ref 73, .int a1, .int a2, .int a3, .int a4, .int a5, .retAddr 0]) (S' := [.int a1, .ref 96]) (σ' := (97, I, J, R)) rfl ?_
          by_cases hc_5 : a1 < 0 ∨ 6 ≤ a1.toNatClampNeg
          · rw [if_pos hc_5] at h; cases h
          · rw [if_neg hc_5] at h
            refine az_E.oi (o := az_ai az_F ex (97, I, J, R) 96 a1) (pc' := 22) (L' := [.ref 73, .int a1, .int a2, .int a3, .int a4, .int a5, .retAddr 0]) (S' := []) (σ' := (97, I, J, R)) (x := (I 96 a1.toNatClampNeg)) rfl (if_neg hc_5) ?_
            refine az_E.br (c := (I 96 a1.toNatClampNeg) < 0) (tt := 34) (ff := 25) (L' := [.ref 73, .int a1, .int a2, .int a3, .int a4, .int a5, .retAddr 0]) (S' := []) (σ' := (97, I, J, R)) rfl (fun hc_6 => ?_) (fun hc_6 => ?_)
            · rw [if_pos hc_6] at h
              refine az_E.sn 1 (pc' := 36) (L' := [.ref 73, .int a1, .int a2, .int a3, .int a4, .int a5, .retAddr 0]) (S' := [.int (-11 : Int32)]) (σ' := (97, I, J, R)) rfl ?_
              have h := Option.some.inj h
              subst h
              exact az_E.ret (v := some (.int (-11 : Int32))) (σ' := (97, I, J, R)) rfl hQ
            · rw [if_neg hc_6] at h
              refine az_E.sn 3 (pc' := 30) (L' := [.ref 73, .int a1, .int a2, .int a3, .int a4, .int a5, .retAddr 0]) (S' := [.int a3, .ref 96]) (σ' := (97, I, J, R)) rfl ?_
              by_cases hc_7 : a3 < 0 ∨ 6 ≤ a3.toNatClampNeg
              · rw [if_pos hc_7] at h; cases h
              · rw [if_neg hc_7] at h
                refine az_E.oi (o := az_ai az_F ex (97, I, J, R) 96 a3) (pc' := 31) (L' := [.ref 73, .int a1, .int a2, .int a3, .int a4, .int a5, .retAddr 0]) (S' := []) (σ' := (97, I, J, R)) (x := (I 96 a3.toNatClampNeg)) rfl (if_neg hc_7) ?_
                refine az_E.br (c := 0 ≤ (I 96 a3.toNatClampNeg)) (tt := 37) (ff := 34) (L' := [.ref 73, .int a1, .int a2, .int a3, .int a4, .int a5, .retAddr 0]) (S' := []) (σ' := (97, I, J, R)) rfl (fun hc_8 => ?_) (fun hc_8 => ?_)
                · rw [if_pos hc_8] at h
                  refine az_E.sn 3 (pc' := 42) (L' := [.ref 73, .int a1, .int a2, .int a3, .int a4, .int a5, .retAddr 0]) (S' := [.int a1, .ref 96]) (σ' := (97, I, J, R)) rfl ?_
                  by_cases hc_9 : a1 < 0 ∨ 6 ≤ a1.toNatClampNeg
                  · rw [if_pos hc_9] at h; cases h
                  · rw [if_neg hc_9] at h
                    refine az_E.oi (o := az_ai az_F ex (97, I, J, R) 96 a1) (pc' := 43) (L' := [.ref 73, .int a1, .int a2, .int a3, .int a4, .int a5, .retAddr 0]) (S' := []) (σ' := (97, I, J, R)) (x := (I 96 a1.toNatClampNeg)) rfl (if_neg hc_9) ?_
                    refine az_E.sn 1 (pc' := 45) (L' := [.ref 73, .int a1, .int a2, .int a3, .int a4, .int a5, .retAddr 0]) (S' := [.int (50 : Int32), .int (I 96 a1.toNatClampNeg)]) (σ' := (97, I, J, R)) rfl ?_
                    refine az_E.br (c := (I 96 a1.toNatClampNeg) < (50 : Int32)) (tt := 63) (ff := 48) (L' := [.ref 73, .int a1, .int a2, .int a3, .int a4, .int a5, .retAddr 0]) (S' := []) (σ' := (97, I, J, R)) rfl (fun hc_10 => ?_) (fun hc_10 => ?_)
                    · rw [if_pos hc_10] at h
                      refine az_E.sn 1 (pc' := 65) (L' := [.ref 73, .int a1, .int a2, .int a3, .int a4, .int a5, .retAddr 0]) (S' := [.int (-12 : Int32)]) (σ' := (97, I, J, R)) rfl ?_
                      have h := Option.some.inj h
                      subst h
                      exact az_E.ret (v := some (.int (-12 : Int32))) (σ' := (97, I, J, R)) rfl hQ
                    · rw [if_neg hc_10] at h
                      refine az_E.sn 3 (pc' := 53) (L' := [.ref 73, .int a1, .int a2, .int a3, .int a4, .int a5, .retAddr 0]) (S' := [.int a1, .ref 96]) (σ' := (97, I, J, R)) rfl ?_
                      by_cases hc_11 : a1 < 0 ∨ 6 ≤ a1.toNatClampNeg
                      · rw [if_pos hc_11] at h; cases h
                      · rw [if_neg hc_11] at h
                        refine az_E.oi (o := az_ai az_F ex (97, I, J, R) 96 a1) (pc' := 54) (L' := [.ref 73, .int a1, .int a2, .int a3, .int a4, .int a5, .retAddr 0]) (S' := []) (σ' := (97, I, J, R)) (x := (I 96 a1.toNatClampNeg)) rfl (if_neg hc_11) ?_
                        refine az_E.sn 3 (pc' := 59) (L' := [.ref 73, .int a1, .int a2, .int a3, .int a4, .int a5, .retAddr 0]) (S' := [.int a3, .ref 96, .int (I 96 a1.toNatClampNeg)]) (σ' := (97, I, J, R)) rfl ?_
                        by_cases hc_12 : a3 < 0 ∨ 6 ≤ a3.toNatClampNeg
                        · rw [if_pos hc_12] at h; cases h
                        · rw [if_neg hc_12] at h
                          refine az_E.oi (o := az_ai az_F ex (97, I, J, R) 96 a3) (pc' := 60) (L' := [.ref 73, .int a1, .int a2, .int a3, .int a4, .int a5, .retAddr 0]) (S' := [.int (I 96 a1.toNatClampNeg)]) (σ' := (97, I, J, R)) (x := (I 96 a3.toNatClampNeg)) rfl (if_neg hc_12) ?_
                          refine az_E.br (c := (I 96 a1.toNatClampNeg) = (I 96 a3.toNatClampNeg)) (tt := 66) (ff := 63) (L' := [.ref 73, .int a1, .int a2, .int a3, .int a4, .int a5, .retAddr 0]) (S' := []) (σ' := (97, I, J, R)) rfl (fun hc_13 => ?_) (fun hc_13 => ?_)
                          · rw [if_pos hc_13] at h
                            refine az_E.sn 1 (pc' := 68) (L' := [.ref 73, .int a1, .int a2, .int a3, .int a4, .int a5, .retAddr 0]) (S' := [.int a5]) (σ' := (97, I, J, R)) rfl ?_
                            refine az_E.br (c := a5 < 0) (tt := 107) (ff := 71) (L' := [.ref 73, .int a1, .int a2, .int a3, .int a4, .int a5, .retAddr 0]) (S' := []) (σ' := (97, I, J, R)) rfl (fun hc_14 => ?_) (fun hc_14 => ?_)
                            · rw [if_pos hc_14] at h
                              refine az_E.sn 1 (pc' := 109) (L' := [.ref 73, .int a1, .int a2, .int a3, .int a4, .int a5, .retAddr 0]) (S' := [.int (-13 : Int32)]) (σ' := (97, I, J, R)) rfl ?_
                              have h := Option.some.inj h
                              subst h
                              exact az_E.ret (v := some (.int (-13 : Int32))) (σ' := (97, I, J, R)) rfl hQ
                            · rw [if_neg hc_14] at h
                              refine az_E.sn 1 (pc' := 72) (L' := [.ref 73, .int a1, .int a2, .int a3, .int a4, .int a5, .retAddr 0]) (S' := [.int a2]) (σ' := (97, I, J, R)) rfl ?_
                              refine az_E.br (c := a2 < 0) (tt := 107) (ff := 75) (L' := [.ref 73, .int a1, .int a2, .int a3, .int a4, .int a5, .retAddr 0]) (S' := []) (σ' := (97, I, J, R)) rfl (fun hc_15 => ?_) (fun hc_15 => ?_)
                              · rw [if_pos hc_15] at h
                                refine az_E.sn 1 (pc' := 109) (L' := [.ref 73, .int a1, .int a2, .int a3, .int a4, .int a5, .retAddr 0]) (S' := [.int (-13 : Int32)]) (σ' := (97, I, J, R)) rfl ?_
                                have h := Option.some.inj h
                                subst h
                                exact az_E.ret (v := some (.int (-13 : Int32))) (σ' := (97, I, J, R)) rfl hQ
                              · rw [if_neg hc_15] at h
                                refine az_E.sn 1 (pc' := 77) (L' := [.ref 73, .int a1, .int a2, .int a3, .int a4, .int a5, .retAddr 0]) (S' := [.int a4]) (σ' := (97, I, J, R)) rfl ?_
                                refine az_E.br (c := a4 < 0) (tt := 107) (ff := 80) (L' := [.ref 73, .int a1, .int a2, .int a3, .int a4, .int a5, .retAddr 0]) (S' := []) (σ' := (97, I, J, R)) rfl (fun hc_16 => ?_) (fun hc_16 => ?_)
                                · rw [if_pos hc_16] at h
                                  refine az_E.sn 1 (pc' := 109) (L' := [.ref 73, .int a1, .int a2, .int a3, .int a4, .int a5, .retAddr 0]) (S' := [.int (-13 : Int32)]) (σ' := (97, I, J, R)) rfl ?_
                                  have h := Option.some.inj h
                                  subst h
                                  exact az_E.ret (v := some (.int (-13 : Int32))) (σ' := (97, I, J, R)) rfl hQ
                                · rw [if_neg hc_16] at h
                                  refine az_E.sn 4 (pc' := 86) (L' := [.ref 73, .int a1, .int a2, .int a3, .int a4, .int a5, .retAddr 0]) (S' := [.int a1, .ref 97, .int a2]) (σ' := (97, I, J, R)) rfl ?_
                                  by_cases hc_17 : a1 < 0 ∨ 6 ≤ a1.toNatClampNeg
                                  · rw [if_pos hc_17] at h; cases h
                                  · rw [if_neg hc_17] at h
                                    refine az_E.oi (o := az_ai az_F ex (97, I, J, R) 97 a1) (pc' := 87) (L' := [.ref 73, .int a1, .int a2, .int a3, .int a4, .int a5, .retAddr 0]) (S' := [.int a2]) (σ' := (97, I, J, R)) (x := (I 97 a1.toNatClampNeg)) rfl (if_neg hc_17) ?_
                                    refine az_E.sn 2 (pc' := 90) (L' := [.ref 73, .int a1, .int a2, .int a3, .int a4, .int a5, .retAddr 0]) (S' := [.int ((I 97 a1.toNatClampNeg) - a5), .int a2]) (σ' := (97, I, J, R)) rfl ?_
                                    refine az_E.br (c := ((I 97 a1.toNatClampNeg) - a5) < a2) (tt := 107) (ff := 93) (L' := [.ref 73, .int a1, .int a2, .int a3, .int a4, .int a5, .retAddr 0]) (S' := []) (σ' := (97, I, J, R)) rfl (fun hc_18 => ?_) (fun hc_18 => ?_)
                                    · rw [if_pos hc_18] at h
                                      refine az_E.sn 1 (pc' := 109) (L' := [.ref 73, .int a1, .int a2, .int a3, .int a4, .int a5, .retAddr 0]) (S' := [.int (-13 : Int32)]) (σ' := (97, I, J, R)) rfl ?_
                                      have h := Option.some.inj h
                                      subst h
                                      exact az_E.ret (v := some (.int (-13 : Int32))) (σ' := (97, I, J, R)) rfl hQ
                                    · rw [if_neg hc_18] at h
                                      refine az_E.sn 4 (pc' := 100) (L' := [.ref 73, .int a1, .int a2, .int a3, .int a4, .int a5, .retAddr 0]) (S' := [.int a3, .ref 97, .int a4]) (σ' := (97, I, J, R)) rfl ?_
                                      by_cases hc_19 : a3 < 0 ∨ 6 ≤ a3.toNatClampNeg
                                      · rw [if_pos hc_19] at h; cases h
                                      · rw [if_neg hc_19] at h
                                        refine az_E.oi (o := az_ai az_F ex (97, I, J, R) 97 a3) (pc' := 101) (L' := [.ref 73, .int a1, .int a2, .int a3, .int a4, .int a5, .retAddr 0]) (S' := [.int a4]) (σ' := (97, I, J, R)) (x := (I 97 a3.toNatClampNeg)) rfl (if_neg hc_19) ?_
                                        refine az_E.sn 2 (pc' := 104) (L' := [.ref 73, .int a1, .int a2, .int a3, .int a4, .int a5, .retAddr 0]) (S' := [.int ((I 97 a3.toNatClampNeg) - a5), .int a4]) (σ' := (97, I, J, R)) rfl ?_
                                        refine az_E.br (c := a4 ≤ ((I 97 a3.toNatClampNeg) - a5)) (tt := 110) (ff := 107) (L' := [.ref 73, .int a1, .int a2, .int a3, .int a4, .int a5, .retAddr 0]) (S' := []) (σ' := (97, I, J, R)) rfl (fun hc_20 => ?_) (fun hc_20 => ?_)
                                        · rw [if_pos hc_20] at h
                                          refine az_E.sn 2 (pc' := 113) (L' := [.ref 73, .int a1, .int a2, .int a3, .int a4, .int a5, .int (0 : Int32)]) (S' := []) (σ' := (97, I, J, R)) rfl ?_
                                          exact az_E.forget (L := [.ref 73, .int a1, .int a2, .int a3, .int a4, .int a5, .int (0 : Int32)]) ⟨rfl, rfl, rfl, rfl, rfl, rfl, rfl, trivial⟩ (re_M_shift_113 (I := I) (J := J) (R := R)  h hQ)
                                        · rw [if_neg hc_20] at h
                                          refine az_E.sn 1 (pc' := 109) (L' := [.ref 73, .int a1, .int a2, .int a3, .int a4, .int a5, .retAddr 0]) (S' := [.int (-13 : Int32)]) (σ' := (97, I, J, R)) rfl ?_
                                          have h := Option.some.inj h
                                          subst h
                                          exact az_E.ret (v := some (.int (-13 : Int32))) (σ' := (97, I, J, R)) rfl hQ
                          · rw [if_neg hc_13] at h
                            refine az_E.sn 1 (pc' := 65) (L' := [.ref 73, .int a1, .int a2, .int a3, .int a4, .int a5, .retAddr 0]) (S' := [.int (-12 : Int32)]) (σ' := (97, I, J, R)) rfl ?_
                            have h := Option.some.inj h
                            subst h
                            exact az_E.ret (v := some (.int (-12 : Int32))) (σ' := (97, I, J, R)) rfl hQ
                · rw [if_neg hc_8] at h
                  refine az_E.sn 1 (pc' := 36) (L' := [.ref 73, .int a1, .int a2, .int a3, .int a4, .int a5, .retAddr 0]) (S' := [.int (-11 : Int32)]) (σ' := (97, I, J, R)) rfl ?_
                  have h := Option.some.inj h
                  subst h
                  exact az_E.ret (v := some (.int (-11 : Int32))) (σ' := (97, I, J, R)) rfl hQ
set_option maxRecDepth 100000 in
set_option maxHeartbeats 4000000 in
theorem re_Bd_isUnder_4_b {ex : az_X} {I : Nat → Nat → Int32} {J : Nat → Nat → Int64} {R : Nat → Nat → Option Nat} {v1 : Int32} {v2 : Int32} {v3 : Int32} {x : ((Int32 × Int32) ⊕ (Int32))} (h : rs_Bd_isUnder_4_b ex I v1 v2 v3 = some x) {Q : Option Value → az_S → Prop} (hQ : Sum.elim (fun s => az_E az_F ex 1 3 4 [.retAddr 0, .int v1, .int s.1, .int s.2] [] (97, I, J, R) Q) (fun x => Q (some (.int x)) (97, I, J, R)) x) : az_E az_F ex 1 3 4 [.retAddr 0, .int v1, .int v2, .int v3] [] (97, I, J, R) Q := by
  unfold rs_Bd_isUnder_4_b at h
  refine az_E.sn 2 (pc' := 7) (L' := [.retAddr 0, .int v1, .int v2, .int v3]) (S' := [.int (8 : Int32), .int v3]) (σ' := (97, I, J, R)) rfl ?_
  refine az_E.br (c := (8 : Int32) ≤ v3) (tt := 39) (ff := 10) (L' := [.retAddr 0, .int v1, .int v2, .int v3]) (S' := []) (σ' := (97, I, J, R)) rfl (fun hc_1 => ?_) (fun hc_1 => ?_)
  · rw [if_pos hc_1] at h
    refine az_E.sn 1 (pc' := 40) (L' := [.retAddr 0, .int v1, .int v2, .int v3]) (S' := [.int (0 : Int32)]) (σ' := (97, I, J, R)) rfl ?_
    have h := Option.some.inj h
    subst h
    exact az_E.ret (v := some (.int (0 : Int32))) (σ' := (97, I, J, R)) rfl hQ
  · rw [if_neg hc_1] at h
    refine az_E.sn 3 (pc' := 14) (L' := [.retAddr 0, .int v1, .int v2, .int v3]) (S' := [.int (7 : Int32), .int (0 : Int32), .int v2]) (σ' := (97, I, J, R)) rfl ?_
    refine az_E.call (d := 0) (k' := 131) (vs := [.int v2, .int (0 : Int32), .int (7 : Int32)]) (pc' := 17) (S' := []) rfl ?_ (fun _ _ hq => hq)
    show az_E az_F ex 0 131 0 [.int v2, .int (0 : Int32), .int (7 : Int32)] [] (97, I, J, R) _
    refine az_E.sn 2 (pc' := 2) (L' := [.int v2, .int (0 : Int32), .int (7 : Int32)]) (S' := [.int (0 : Int32), .int v2]) (σ' := (97, I, J, R)) rfl ?_
    refine az_E.br (c := v2 < (0 : Int32)) (tt := 14) (ff := 5) (L' := [.int v2, .int (0 : Int32), .int (7 : Int32)]) (S' := []) (σ' := (97, I, J, R)) rfl (fun hc_2 => ?_) (fun hc_2 => ?_)
    · rw [if_pos hc_2] at h
      refine az_E.sn 1 (pc' := 15) (L' := [.int v2, .int (0 : Int32), .int (7 : Int32)]) (S' := [.int (0 : Int32)]) (σ' := (97, I, J, R)) rfl ?_
      refine az_E.ret (v := some (.int (0 : Int32))) (σ' := (97, I, J, R)) rfl ?_
      show az_E az_F ex 1 3 17 [.retAddr 0, .int v1, .int v2, .int v3] [.int (0 : Int32)] (97, I, J, R) _
      refine az_E.br (c := (0 : Int32) = 0) (tt := 39) (ff := 20) (L' := [.retAddr 0, .int v1, .int v2, .int v3]) (S' := []) (σ' := (97, I, J, R)) rfl (fun _ => ?_) (fun hn => absurd (by decide) hn)
      refine az_E.sn 1 (pc' := 40) (L' := [.retAddr 0, .int v1, .int v2, .int v3]) (S' := [.int (0 : Int32)]) (σ' := (97, I, J, R)) rfl ?_
      have h := Option.some.inj h
      subst h
      exact az_E.ret (v := some (.int (0 : Int32))) (σ' := (97, I, J, R)) rfl hQ
    · rw [if_neg hc_2] at h
      refine az_E.sn 2 (pc' := 7) (L' := [.int v2, .int (0 : Int32), .int (7 : Int32)]) (S' := [.int (7 : Int32), .int v2]) (σ' := (97, I, J, R)) rfl ?_
      refine az_E.br (c := (7 : Int32) < v2) (tt := 14) (ff := 10) (L' := [.int v2, .int (0 : Int32), .int (7 : Int32)]) (S' := []) (σ' := (97, I, J, R)) rfl (fun hc_3 => ?_) (fun hc_3 => ?_)
      · rw [if_pos hc_3] at h
        refine az_E.sn 1 (pc' := 15) (L' := [.int v2, .int (0 : Int32), .int (7 : Int32)]) (S' := [.int (0 : Int32)]) (σ' := (97, I, J, R)) rfl ?_
        refine az_E.ret (v := some (.int (0 : Int32))) (σ' := (97, I, J, R)) rfl ?_
        show az_E az_F ex 1 3 17 [.retAddr 0, .int v1, .int v2, .int v3] [.int (0 : Int32)] (97, I, J, R) _
        refine az_E.br (c := (0 : Int32) = 0) (tt := 39) (ff := 20) (L' := [.retAddr 0, .int v1, .int v2, .int v3]) (S' := []) (σ' := (97, I, J, R)) rfl (fun _ => ?_) (fun hn => absurd (by decide) hn)
        refine az_E.sn 1 (pc' := 40) (L' := [.retAddr 0, .int v1, .int v2, .int v3]) (S' := [.int (0 : Int32)]) (σ' := (97, I, J, R)) rfl ?_
        have h := Option.some.inj h
        subst h
        exact az_E.ret (v := some (.int (0 : Int32))) (σ' := (97, I, J, R)) rfl hQ
      · rw [if_neg hc_3] at h
        refine az_E.sn 2 (pc' := 15) (L' := [.int v2, .int (0 : Int32), .int (7 : Int32)]) (S' := [.int (1 : Int32)]) (σ' := (97, I, J, R)) rfl ?_
        refine az_E.ret (v := some (.int (1 : Int32))) (σ' := (97, I, J, R)) rfl ?_
        show az_E az_F ex 1 3 17 [.retAddr 0, .int v1, .int v2, .int v3] [.int (1 : Int32)] (97, I, J, R) _
        refine az_E.br (c := (1 : Int32) = 0) (tt := 39) (ff := 20) (L' := [.retAddr 0, .int v1, .int v2, .int v3]) (S' := []) (σ' := (97, I, J, R)) rfl (fun hn => absurd hn (by decide)) (fun _ => ?_)
        refine az_E.sn 2 (pc' := 22) (L' := [.retAddr 0, .int v1, .int v2, .int v3]) (S' := [.int v1, .int v2]) (σ' := (97, I, J, R)) rfl ?_
        refine az_E.br (c := v2 = v1) (tt := 25) (ff := 27) (L' := [.retAddr 0, .int v1, .int v2, .int v3]) (S' := []) (σ' := (97, I, J, R)) rfl (fun hc_4 => ?_) (fun hc_4 => ?_)
        · rw [if_pos hc_4] at h
          refine az_E.sn 1 (pc' := 26) (L' := [.retAddr 0, .int v1, .int v2, .int v3]) (S' := [.int (1 : Int32)]) (σ' := (97, I, J, R)) rfl ?_
          have h := Option.some.inj h
          subst h
          exact az_E.ret (v := some (.int (1 : Int32))) (σ' := (97, I, J, R)) rfl hQ
        · rw [if_neg hc_4] at h
          refine az_E.sn 2 (pc' := 31) (L' := [.retAddr 0, .int v1, .int v2, .int v3]) (S' := [.int v2, .ref 2]) (σ' := (97, I, J, R)) rfl ?_
          by_cases hc_5 : v2 < 0 ∨ (ex 2).1 ≤ v2.toNatClampNeg
          · rw [if_pos hc_5] at h; cases h
          · rw [if_neg hc_5] at h
            refine az_E.oi (o := az_ai az_F ex (97, I, J, R) 2 v2) (pc' := 32) (L' := [.retAddr 0, .int v1, .int v2, .int v3]) (S' := []) (σ' := (97, I, J, R)) (x := ((ex 2).2 v2.toNatClampNeg)) rfl (if_neg hc_5) ?_
            refine az_E.sn 3 (pc' := 4) (L' := [.retAddr 0, .int v1, .int ((ex 2).2 v2.toNatClampNeg), .int (v3 + (1 : Int32))]) (S' := []) (σ' := (97, I, J, R)) rfl ?_
            have h := Option.some.inj h
            subst h
            exact az_E.forget (L := [.retAddr 0, .int v1, .int ((ex 2).2 v2.toNatClampNeg), .int (v3 + (1 : Int32))]) ⟨trivial, rfl, rfl, rfl, trivial⟩ hQ
set_option maxRecDepth 100000 in
set_option maxHeartbeats 4000000 in
theorem re_Bd_isUnder_4 {ex : az_X} {I : Nat → Nat → Int32} {J : Nat → Nat → Int64} {R : Nat → Nat → Option Nat} {v1 : Int32} {v2 : Int32} {v3 : Int32} {x : Int32} (h : rs_Bd_isUnder_4 ex I v1 v2 v3 = some x) {Q : Option Value → az_S → Prop} (hQ : Q (some (.int x)) (97, I, J, R)) : az_E az_F ex 1 3 4 [.retAddr 0, .int v1, .int v2, .int v3] [] (97, I, J, R) Q := by
  unfold rs_Bd_isUnder_4 at h
  refine az_lp_E (G := fun s => az_E az_F ex 1 3 4 [.retAddr 0, .int v1, .int s.1, .int s.2] [] (97, I, J, R) Q) (H := fun x => Q (some (.int x)) (97, I, J, R)) (fun s o hb ho => ?_) _ _ _ h hQ
  exact re_Bd_isUnder_4_b  hb ho
set_option maxRecDepth 100000 in
set_option maxHeartbeats 4000000 in
theorem re_Bd_isUnder {ex : az_X} {I : Nat → Nat → Int32} {J : Nat → Nat → Int64} {R : Nat → Nat → Option Nat} {a0 : Int32} {a1 : Int32} {o : Int32} (h : rs_Bd_isUnder ex I a0 a1 = some o) {Q : Option Value → az_S → Prop} (hQ : Q (some (.int o)) (97, I, J, R)) : az_E az_F ex 1 3 0 [.int a0, .int a1, .retAddr 0, .retAddr 0] [] (97, I, J, R) Q := by
  unfold rs_Bd_isUnder at h
  refine az_E.sn 4 (pc' := 4) (L' := [.int a0, .int a1, .int a0, .int (0 : Int32)]) (S' := []) (σ' := (97, I, J, R)) rfl ?_
  exact az_E.forget (L := [.retAddr 0, .int a1, .int a0, .int (0 : Int32)]) ⟨trivial, rfl, rfl, rfl, trivial⟩ (re_Bd_isUnder_4 (I := I) (J := J) (R := R)  h hQ)
set_option maxRecDepth 100000 in
set_option maxHeartbeats 4000000 in
theorem re_X_taken_25_61 {ex : az_X} {I : Nat → Nat → Int32} {J : Nat → Nat → Int64} {R : Nat → Nat → Option Nat} {v2 : Int32} {x : Int32} (h : rs_X_taken_25 61 ex I v2 = some x) {Q : Option Value → az_S → Prop} (hQ : Q (some (.int x)) (97, I, J, R)) : az_E az_F ex 2 129 25 [.ref 3, .retAddr 0, .int v2, .retAddr 0] [.ref 61] (97, I, J, R) Q := by
  unfold rs_X_taken_25 at h
  refine az_E.sn 2 (pc' := 27) (L' := [.ref 3, .retAddr 0, .int v2, .ref 61]) (S' := [.ref 61]) (σ' := (97, I, J, R)) rfl ?_
  refine az_E.call (d := 1) (k' := 54) (vs := [.ref 61]) (pc' := 30) (S' := []) rfl ?_ (fun _ _ hq => hq)
  show az_E az_F ex 1 54 0 [.ref 61] [] (97, I, J, R) _
  refine az_E.sn 3 (pc' := 5) (L' := [.ref 61]) (S' := [.int (-1 : Int32), .int (I 61 0)]) (σ' := (97, I, J, R)) rfl ?_
  refine az_E.br (c := (I 61 0) = (-1 : Int32)) (tt := 8) (ff := 20) (L' := [.ref 61]) (S' := []) (σ' := (97, I, J, R)) rfl (fun hc_6 => ?_) (fun hc_6 => ?_)
  · rw [if_pos hc_6] at h
    refine az_E.sn 3 (pc' := 13) (L' := [.ref 61]) (S' := [.int (-1 : Int32), .int (I 61 1)]) (σ' := (97, I, J, R)) rfl ?_
    refine az_E.br (c := (I 61 1) = (-1 : Int32)) (tt := 16) (ff := 20) (L' := [.ref 61]) (S' := []) (σ' := (97, I, J, R)) rfl (fun hc_7 => ?_) (fun hc_7 => ?_)
    · rw [if_pos hc_7] at h
      refine az_E.sn 2 (pc' := 21) (L' := [.ref 61]) (S' := [.int (1 : Int32)]) (σ' := (97, I, J, R)) rfl ?_
      refine az_E.ret (v := some (.int (1 : Int32))) (σ' := (97, I, J, R)) rfl ?_
      show az_E az_F ex 2 129 30 [.ref 3, .retAddr 0, .int v2, .ref 61] [.int (1 : Int32)] (97, I, J, R) _
      refine az_E.br (c := (1 : Int32) = 0) (tt := 36) (ff := 33) (L' := [.ref 3, .retAddr 0, .int v2, .ref 61]) (S' := []) (σ' := (97, I, J, R)) rfl (fun hn => absurd hn (by decide)) (fun _ => ?_)
      refine az_E.sn 1 (pc' := 35) (L' := [.ref 3, .retAddr 0, .int v2, .ref 61]) (S' := [.int (-11 : Int32)]) (σ' := (97, I, J, R)) rfl ?_
      have h := Option.some.inj h
      subst h
      exact az_E.ret (v := some (.int (-11 : Int32))) (σ' := (97, I, J, R)) rfl hQ
    · rw [if_neg hc_7] at h
      refine az_E.sn 1 (pc' := 21) (L' := [.ref 61]) (S' := [.int (0 : Int32)]) (σ' := (97, I, J, R)) rfl ?_
      refine az_E.ret (v := some (.int (0 : Int32))) (σ' := (97, I, J, R)) rfl ?_
      show az_E az_F ex 2 129 30 [.ref 3, .retAddr 0, .int v2, .ref 61] [.int (0 : Int32)] (97, I, J, R) _
      refine az_E.br (c := (0 : Int32) = 0) (tt := 36) (ff := 33) (L' := [.ref 3, .retAddr 0, .int v2, .ref 61]) (S' := []) (σ' := (97, I, J, R)) rfl (fun _ => ?_) (fun hn => absurd (by decide) hn)
      refine az_E.sn 4 (pc' := 44) (L' := [.ref 3, .retAddr 0, .int v2, .ref 61]) (S' := [.int (I 61 0), .ref 55]) (σ' := (97, I, J, R)) rfl ?_
      refine az_E.call (d := 1) (k' := 2) (vs := [.ref 55, .int (I 61 0)]) (pc' := 47) (S' := []) rfl ?_ (fun _ _ hq => hq)
      show az_E az_F ex 1 2 0 [.ref 55, .int (I 61 0)] [] (97, I, J, R) _
      refine az_E.sn 6 (pc' := 8) (L' := [.ref 55, .int (I 61 0)]) (S' := [.int ((I 55 1) - (1 : Int32)), .int (0 : Int32), .int (I 61 0)]) (σ' := (97, I, J, R)) rfl ?_
      refine az_E.call (d := 0) (k' := 131) (vs := [.int (I 61 0), .int (0 : Int32), .int ((I 55 1) - (1 : Int32))]) (pc' := 11) (S' := []) rfl ?_ (fun _ _ hq => hq)
      show az_E az_F ex 0 131 0 [.int (I 61 0), .int (0 : Int32), .int ((I 55 1) - (1 : Int32))] [] (97, I, J, R) _
      refine az_E.sn 2 (pc' := 2) (L' := [.int (I 61 0), .int (0 : Int32), .int ((I 55 1) - (1 : Int32))]) (S' := [.int (0 : Int32), .int (I 61 0)]) (σ' := (97, I, J, R)) rfl ?_
      refine az_E.br (c := (I 61 0) < (0 : Int32)) (tt := 14) (ff := 5) (L' := [.int (I 61 0), .int (0 : Int32), .int ((I 55 1) - (1 : Int32))]) (S' := []) (σ' := (97, I, J, R)) rfl (fun hc_8 => ?_) (fun hc_8 => ?_)
      · rw [if_pos hc_8] at h
        refine az_E.sn 1 (pc' := 15) (L' := [.int (I 61 0), .int (0 : Int32), .int ((I 55 1) - (1 : Int32))]) (S' := [.int (0 : Int32)]) (σ' := (97, I, J, R)) rfl ?_
        refine az_E.ret (v := some (.int (0 : Int32))) (σ' := (97, I, J, R)) rfl ?_
        show az_E az_F ex 1 2 11 [.ref 55, .int (I 61 0)] [.int (0 : Int32)] (97, I, J, R) _
        refine az_E.ret (v := some (.int (0 : Int32))) (σ' := (97, I, J, R)) rfl ?_
        show az_E az_F ex 2 129 47 [.ref 3, .retAddr 0, .int v2, .ref 61] [.int (0 : Int32)] (97, I, J, R) _
        refine az_E.br (c := (0 : Int32) = 0) (tt := 69) (ff := 50) (L' := [.ref 3, .retAddr 0, .int v2, .ref 61]) (S' := []) (σ' := (97, I, J, R)) rfl (fun _ => ?_) (fun hn => absurd (by decide) hn)
        refine az_E.sn 1 (pc' := 71) (L' := [.ref 3, .retAddr 0, .int v2, .ref 61]) (S' := [.int (-12 : Int32)]) (σ' := (97, I, J, R)) rfl ?_
        have h := Option.some.inj h
        subst h
        exact az_E.ret (v := some (.int (-12 : Int32))) (σ' := (97, I, J, R)) rfl hQ
      · rw [if_neg hc_8] at h
        refine az_E.sn 2 (pc' := 7) (L' := [.int (I 61 0), .int (0 : Int32), .int ((I 55 1) - (1 : Int32))]) (S' := [.int ((I 55 1) - (1 : Int32)), .int (I 61 0)]) (σ' := (97, I, J, R)) rfl ?_
        refine az_E.br (c := ((I 55 1) - (1 : Int32)) < (I 61 0)) (tt := 14) (ff := 10) (L' := [.int (I 61 0), .int (0 : Int32), .int ((I 55 1) - (1 : Int32))]) (S' := []) (σ' := (97, I, J, R)) rfl (fun hc_9 => ?_) (fun hc_9 => ?_)
        · rw [if_pos hc_9] at h
          refine az_E.sn 1 (pc' := 15) (L' := [.int (I 61 0), .int (0 : Int32), .int ((I 55 1) - (1 : Int32))]) (S' := [.int (0 : Int32)]) (σ' := (97, I, J, R)) rfl ?_
          refine az_E.ret (v := some (.int (0 : Int32))) (σ' := (97, I, J, R)) rfl ?_
          show az_E az_F ex 1 2 11 [.ref 55, .int (I 61 0)] [.int (0 : Int32)] (97, I, J, R) _
          refine az_E.ret (v := some (.int (0 : Int32))) (σ' := (97, I, J, R)) rfl ?_
          show az_E az_F ex 2 129 47 [.ref 3, .retAddr 0, .int v2, .ref 61] [.int (0 : Int32)] (97, I, J, R) _
          refine az_E.br (c := (0 : Int32) = 0) (tt := 69) (ff := 50) (L' := [.ref 3, .retAddr 0, .int v2, .ref 61]) (S' := []) (σ' := (97, I, J, R)) rfl (fun _ => ?_) (fun hn => absurd (by decide) hn)
          refine az_E.sn 1 (pc' := 71) (L' := [.ref 3, .retAddr 0, .int v2, .ref 61]) (S' := [.int (-12 : Int32)]) (σ' := (97, I, J, R)) rfl ?_
          have h := Option.some.inj h
          subst h
          exact az_E.ret (v := some (.int (-12 : Int32))) (σ' := (97, I, J, R)) rfl hQ
        · rw [if_neg hc_9] at h
          refine az_E.sn 2 (pc' := 15) (L' := [.int (I 61 0), .int (0 : Int32), .int ((I 55 1) - (1 : Int32))]) (S' := [.int (1 : Int32)]) (σ' := (97, I, J, R)) rfl ?_
          refine az_E.ret (v := some (.int (1 : Int32))) (σ' := (97, I, J, R)) rfl ?_
          show az_E az_F ex 1 2 11 [.ref 55, .int (I 61 0)] [.int (1 : Int32)] (97, I, J, R) _
          refine az_E.ret (v := some (.int (1 : Int32))) (σ' := (97, I, J, R)) rfl ?_
          show az_E az_F ex 2 129 47 [.ref 3, .retAddr 0, .int v2, .ref 61] [.int (1 : Int32)] (97, I, J, R) _
          refine az_E.br (c := (1 : Int32) = 0) (tt := 69) (ff := 50) (L' := [.ref 3, .retAddr 0, .int v2, .ref 61]) (S' := []) (σ' := (97, I, J, R)) rfl (fun hn => absurd hn (by decide)) (fun _ => ?_)
          refine az_E.sn 5 (pc' := 61) (L' := [.ref 3, .retAddr 0, .int v2, .ref 61]) (S' := [.int (I 61 0), .ref 56]) (σ' := (97, I, J, R)) rfl ?_
          by_cases hc_10 : (I 61 0) < 0 ∨ 50 ≤ (I 61 0).toNatClampNeg
          · rw [if_pos hc_10] at h; cases h
          · rw [if_neg hc_10] at h
            refine az_E.oi (o := az_ai az_F ex (97, I, J, R) 56 (I 61 0)) (pc' := 62) (L' := [.ref 3, .retAddr 0, .int v2, .ref 61]) (S' := []) (σ' := (97, I, J, R)) (x := (I 56 (I 61 0).toNatClampNeg)) rfl (if_neg hc_10) ?_
            refine az_E.sn 1 (pc' := 63) (L' := [.ref 3, .retAddr 0, .int v2, .ref 61]) (S' := [.int v2, .int (I 56 (I 61 0).toNatClampNeg)]) (σ' := (97, I, J, R)) rfl ?_
            cases hx_12 : rs_Bd_isUnder ex I (I 56 (I 61 0).toNatClampNeg) v2 with
            | none => rw [hx_12] at h; cases h
            | some x_11 =>
              rw [hx_12] at h
              dsimp only at h
              refine az_E.call (d := 1) (k' := 3) (vs := [.int (I 56 (I 61 0).toNatClampNeg), .int v2]) (pc' := 66) (S' := []) (Q1 := fun v s => v = some (.int x_11) ∧ s = (97, I, J, R)) rfl (az_E.deep (by omega) (re_Bd_isUnder (J := J) (R := R)  hx_12 ⟨rfl, rfl⟩)) (fun v s hq => ?_)
              obtain ⟨rfl, rfl⟩ := hq
              show az_E az_F ex 2 129 66 [.ref 3, .retAddr 0, .int v2, .ref 61] [.int x_11] (97, I, J, R) _
              refine az_E.br (c := x_11 = 0) (tt := 69) (ff := 72) (L' := [.ref 3, .retAddr 0, .int v2, .ref 61]) (S' := []) (σ' := (97, I, J, R)) rfl (fun hc_13 => ?_) (fun hc_13 => ?_)
              · rw [if_pos hc_13] at h
                refine az_E.sn 1 (pc' := 71) (L' := [.ref 3, .retAddr 0, .int v2, .ref 61]) (S' := [.int (-12 : Int32)]) (σ' := (97, I, J, R)) rfl ?_
                have h := Option.some.inj h
                subst h
                exact az_E.ret (v := some (.int (-12 : Int32))) (σ' := (97, I, J, R)) rfl hQ
              · rw [if_neg hc_13] at h
                refine az_E.sn 5 (pc' := 83) (L' := [.ref 3, .retAddr 0, .int v2, .ref 61]) (S' := [.int (I 61 0), .ref 56]) (σ' := (97, I, J, R)) rfl ?_
                by_cases hc_14 : (I 61 0) < 0 ∨ 50 ≤ (I 61 0).toNatClampNeg
                · rw [if_pos hc_14] at h; cases h
                · rw [if_neg hc_14] at h
                  refine az_E.oi (o := az_ai az_F ex (97, I, J, R) 56 (I 61 0)) (pc' := 84) (L' := [.ref 3, .retAddr 0, .int v2, .ref 61]) (S' := []) (σ' := (97, I, J, R)) (x := (I 56 (I 61 0).toNatClampNeg)) rfl (if_neg hc_14) ?_
                  have h := Option.some.inj h
                  subst h
                  exact az_E.ret (v := some (.int (I 56 (I 61 0).toNatClampNeg))) (σ' := (97, I, J, R)) rfl hQ
  · rw [if_neg hc_6] at h
    refine az_E.sn 1 (pc' := 21) (L' := [.ref 61]) (S' := [.int (0 : Int32)]) (σ' := (97, I, J, R)) rfl ?_
    refine az_E.ret (v := some (.int (0 : Int32))) (σ' := (97, I, J, R)) rfl ?_
    show az_E az_F ex 2 129 30 [.ref 3, .retAddr 0, .int v2, .ref 61] [.int (0 : Int32)] (97, I, J, R) _
    refine az_E.br (c := (0 : Int32) = 0) (tt := 36) (ff := 33) (L' := [.ref 3, .retAddr 0, .int v2, .ref 61]) (S' := []) (σ' := (97, I, J, R)) rfl (fun _ => ?_) (fun hn => absurd (by decide) hn)
    refine az_E.sn 4 (pc' := 44) (L' := [.ref 3, .retAddr 0, .int v2, .ref 61]) (S' := [.int (I 61 0), .ref 55]) (σ' := (97, I, J, R)) rfl ?_
    refine az_E.call (d := 1) (k' := 2) (vs := [.ref 55, .int (I 61 0)]) (pc' := 47) (S' := []) rfl ?_ (fun _ _ hq => hq)
    show az_E az_F ex 1 2 0 [.ref 55, .int (I 61 0)] [] (97, I, J, R) _
    refine az_E.sn 6 (pc' := 8) (L' := [.ref 55, .int (I 61 0)]) (S' := [.int ((I 55 1) - (1 : Int32)), .int (0 : Int32), .int (I 61 0)]) (σ' := (97, I, J, R)) rfl ?_
    refine az_E.call (d := 0) (k' := 131) (vs := [.int (I 61 0), .int (0 : Int32), .int ((I 55 1) - (1 : Int32))]) (pc' := 11) (S' := []) rfl ?_ (fun _ _ hq => hq)
    show az_E az_F ex 0 131 0 [.int (I 61 0), .int (0 : Int32), .int ((I 55 1) - (1 : Int32))] [] (97, I, J, R) _
    refine az_E.sn 2 (pc' := 2) (L' := [.int (I 61 0), .int (0 : Int32), .int ((I 55 1) - (1 : Int32))]) (S' := [.int (0 : Int32), .int (I 61 0)]) (σ' := (97, I, J, R)) rfl ?_
    refine az_E.br (c := (I 61 0) < (0 : Int32)) (tt := 14) (ff := 5) (L' := [.int (I 61 0), .int (0 : Int32), .int ((I 55 1) - (1 : Int32))]) (S' := []) (σ' := (97, I, J, R)) rfl (fun hc_15 => ?_) (fun hc_15 => ?_)
    · rw [if_pos hc_15] at h
      refine az_E.sn 1 (pc' := 15) (L' := [.int (I 61 0), .int (0 : Int32), .int ((I 55 1) - (1 : Int32))]) (S' := [.int (0 : Int32)]) (σ' := (97, I, J, R)) rfl ?_
      refine az_E.ret (v := some (.int (0 : Int32))) (σ' := (97, I, J, R)) rfl ?_
      show az_E az_F ex 1 2 11 [.ref 55, .int (I 61 0)] [.int (0 : Int32)] (97, I, J, R) _
      refine az_E.ret (v := some (.int (0 : Int32))) (σ' := (97, I, J, R)) rfl ?_
      show az_E az_F ex 2 129 47 [.ref 3, .retAddr 0, .int v2, .ref 61] [.int (0 : Int32)] (97, I, J, R) _
      refine az_E.br (c := (0 : Int32) = 0) (tt := 69) (ff := 50) (L' := [.ref 3, .retAddr 0, .int v2, .ref 61]) (S' := []) (σ' := (97, I, J, R)) rfl (fun _ => ?_) (fun hn => absurd (by decide) hn)
      refine az_E.sn 1 (pc' := 71) (L' := [.ref 3, .retAddr 0, .int v2, .ref 61]) (S' := [.int (-12 : Int32)]) (σ' := (97, I, J, R)) rfl ?_
      have h := Option.some.inj h
      subst h
      exact az_E.ret (v := some (.int (-12 : Int32))) (σ' := (97, I, J, R)) rfl hQ
    · rw [if_neg hc_15] at h
      refine az_E.sn 2 (pc' := 7) (L' := [.int (I 61 0), .int (0 : Int32), .int ((I 55 1) - (1 : Int32))]) (S' := [.int ((I 55 1) - (1 : Int32)), .int (I 61 0)]) (σ' := (97, I, J, R)) rfl ?_
      refine az_E.br (c := ((I 55 1) - (1 : Int32)) < (I 61 0)) (tt := 14) (ff := 10) (L' := [.int (I 61 0), .int (0 : Int32), .int ((I 55 1) - (1 : Int32))]) (S' := []) (σ' := (97, I, J, R)) rfl (fun hc_16 => ?_) (fun hc_16 => ?_)
      · rw [if_pos hc_16] at h
        refine az_E.sn 1 (pc' := 15) (L' := [.int (I 61 0), .int (0 : Int32), .int ((I 55 1) - (1 : Int32))]) (S' := [.int (0 : Int32)]) (σ' := (97, I, J, R)) rfl ?_
        refine az_E.ret (v := some (.int (0 : Int32))) (σ' := (97, I, J, R)) rfl ?_
        show az_E az_F ex 1 2 11 [.ref 55, .int (I 61 0)] [.int (0 : Int32)] (97, I, J, R) _
        refine az_E.ret (v := some (.int (0 : Int32))) (σ' := (97, I, J, R)) rfl ?_
        show az_E az_F ex 2 129 47 [.ref 3, .retAddr 0, .int v2, .ref 61] [.int (0 : Int32)] (97, I, J, R) _
        refine az_E.br (c := (0 : Int32) = 0) (tt := 69) (ff := 50) (L' := [.ref 3, .retAddr 0, .int v2, .ref 61]) (S' := []) (σ' := (97, I, J, R)) rfl (fun _ => ?_) (fun hn => absurd (by decide) hn)
        refine az_E.sn 1 (pc' := 71) (L' := [.ref 3, .retAddr 0, .int v2, .ref 61]) (S' := [.int (-12 : Int32)]) (σ' := (97, I, J, R)) rfl ?_
        have h := Option.some.inj h
        subst h
        exact az_E.ret (v := some (.int (-12 : Int32))) (σ' := (97, I, J, R)) rfl hQ
      · rw [if_neg hc_16] at h
        refine az_E.sn 2 (pc' := 15) (L' := [.int (I 61 0), .int (0 : Int32), .int ((I 55 1) - (1 : Int32))]) (S' := [.int (1 : Int32)]) (σ' := (97, I, J, R)) rfl ?_
        refine az_E.ret (v := some (.int (1 : Int32))) (σ' := (97, I, J, R)) rfl ?_
        show az_E az_F ex 1 2 11 [.ref 55, .int (I 61 0)] [.int (1 : Int32)] (97, I, J, R) _
        refine az_E.ret (v := some (.int (1 : Int32))) (σ' := (97, I, J, R)) rfl ?_
        show az_E az_F ex 2 129 47 [.ref 3, .retAddr 0, .int v2, .ref 61] [.int (1 : Int32)] (97, I, J, R) _
        refine az_E.br (c := (1 : Int32) = 0) (tt := 69) (ff := 50) (L' := [.ref 3, .retAddr 0, .int v2, .ref 61]) (S' := []) (σ' := (97, I, J, R)) rfl (fun hn => absurd hn (by decide)) (fun _ => ?_)
        refine az_E.sn 5 (pc' := 61) (L' := [.ref 3, .retAddr 0, .int v2, .ref 61]) (S' := [.int (I 61 0), .ref 56]) (σ' := (97, I, J, R)) rfl ?_
        by_cases hc_17 : (I 61 0) < 0 ∨ 50 ≤ (I 61 0).toNatClampNeg
        · rw [if_pos hc_17] at h; cases h
        · rw [if_neg hc_17] at h
          refine az_E.oi (o := az_ai az_F ex (97, I, J, R) 56 (I 61 0)) (pc' := 62) (L' := [.ref 3, .retAddr 0, .int v2, .ref 61]) (S' := []) (σ' := (97, I, J, R)) (x := (I 56 (I 61 0).toNatClampNeg)) rfl (if_neg hc_17) ?_
          refine az_E.sn 1 (pc' := 63) (L' := [.ref 3, .retAddr 0, .int v2, .ref 61]) (S' := [.int v2, .int (I 56 (I 61 0).toNatClampNeg)]) (σ' := (97, I, J, R)) rfl ?_
          cases hx_19 : rs_Bd_isUnder ex I (I 56 (I 61 0).toNatClampNeg) v2 with
          | none => rw [hx_19] at h; cases h
          | some x_18 =>
            rw [hx_19] at h
            dsimp only at h
            refine az_E.call (d := 1) (k' := 3) (vs := [.int (I 56 (I 61 0).toNatClampNeg), .int v2]) (pc' := 66) (S' := []) (Q1 := fun v s => v = some (.int x_18) ∧ s = (97, I, J, R)) rfl (az_E.deep (by omega) (re_Bd_isUnder (J := J) (R := R)  hx_19 ⟨rfl, rfl⟩)) (fun v s hq => ?_)
            obtain ⟨rfl, rfl⟩ := hq
            show az_E az_F ex 2 129 66 [.ref 3, .retAddr 0, .int v2, .ref 61] [.int x_18] (97, I, J, R) _
            refine az_E.br (c := x_18 = 0) (tt := 69) (ff := 72) (L' := [.ref 3, .retAddr 0, .int v2, .ref 61]) (S' := []) (σ' := (97, I, J, R)) rfl (fun hc_20 => ?_) (fun hc_20 => ?_)
            · rw [if_pos hc_20] at h
              refine az_E.sn 1 (pc' := 71) (L' := [.ref 3, .retAddr 0, .int v2, .ref 61]) (S' := [.int (-12 : Int32)]) (σ' := (97, I, J, R)) rfl ?_
              have h := Option.some.inj h
              subst h
              exact az_E.ret (v := some (.int (-12 : Int32))) (σ' := (97, I, J, R)) rfl hQ
            · rw [if_neg hc_20] at h
              refine az_E.sn 5 (pc' := 83) (L' := [.ref 3, .retAddr 0, .int v2, .ref 61]) (S' := [.int (I 61 0), .ref 56]) (σ' := (97, I, J, R)) rfl ?_
              by_cases hc_21 : (I 61 0) < 0 ∨ 50 ≤ (I 61 0).toNatClampNeg
              · rw [if_pos hc_21] at h; cases h
              · rw [if_neg hc_21] at h
                refine az_E.oi (o := az_ai az_F ex (97, I, J, R) 56 (I 61 0)) (pc' := 84) (L' := [.ref 3, .retAddr 0, .int v2, .ref 61]) (S' := []) (σ' := (97, I, J, R)) (x := (I 56 (I 61 0).toNatClampNeg)) rfl (if_neg hc_21) ?_
                have h := Option.some.inj h
                subst h
                exact az_E.ret (v := some (.int (I 56 (I 61 0).toNatClampNeg))) (σ' := (97, I, J, R)) rfl hQ
set_option maxRecDepth 100000 in
set_option maxHeartbeats 4000000 in
theorem re_X_taken_25_63 {ex : az_X} {I : Nat → Nat → Int32} {J : Nat → Nat → Int64} {R : Nat → Nat → Option Nat} {v2 : Int32} {x : Int32} (h : rs_X_taken_25 63 ex I v2 = some x) {Q : Option Value → az_S → Prop} (hQ : Q (some (.int x)) (97, I, J, R)) : az_E az_F ex 2 129 25 [.ref 3, .retAddr 0, .int v2, .retAddr 0] [.ref 63] (97, I, J, R) Q := by
  unfold rs_X_taken_25 at h
  refine az_E.sn 2 (pc' := 27) (L' := [.ref 3, .retAddr 0, .int v2, .ref 63]) (S' := [.ref 63]) (σ' := (97, I, J, R)) rfl ?_
  refine az_E.call (d := 1) (k' := 54) (vs := [.ref 63]) (pc' := 30) (S' := []) rfl ?_ (fun _ _ hq => hq)
  show az_E az_F ex 1 54 0 [.ref 63] [] (97, I, J, R) _
  refine az_E.sn 3 (pc' := 5) (L' := [.ref 63]) (S' := [.int (-1 : Int32), .int (I 63 0)]) (σ' := (97, I, J, R)) rfl ?_
  refine az_E.br (c := (I 63 0) = (-1 : Int32)) (tt := 8) (ff := 20) (L' := [.ref 63]) (S' := []) (σ' := (97, I, J, R)) rfl (fun hc_22 => ?_) (fun hc_22 => ?_)
  · rw [if_pos hc_22] at h
    refine az_E.sn 3 (pc' := 13) (L' := [.ref 63]) (S' := [.int (-1 : Int32), .int (I 63 1)]) (σ' := (97, I, J, R)) rfl ?_
    refine az_E.br (c := (I 63 1) = (-1 : Int32)) (tt := 16) (ff := 20) (L' := [.ref 63]) (S' := []) (σ' := (97, I, J, R)) rfl (fun hc_23 => ?_) (fun hc_23 => ?_)
    · rw [if_pos hc_23] at h
      refine az_E.sn 2 (pc' := 21) (L' := [.ref 63]) (S' := [.int (1 : Int32)]) (σ' := (97, I, J, R)) rfl ?_
      refine az_E.ret (v := some (.int (1 : Int32))) (σ' := (97, I, J, R)) rfl ?_
      show az_E az_F ex 2 129 30 [.ref 3, .retAddr 0, .int v2, .ref 63] [.int (1 : Int32)] (97, I, J, R) _
      refine az_E.br (c := (1 : Int32) = 0) (tt := 36) (ff := 33) (L' := [.ref 3, .retAddr 0, .int v2, .ref 63]) (S' := []) (σ' := (97, I, J, R)) rfl (fun hn => absurd hn (by decide)) (fun _ => ?_)
      refine az_E.sn 1 (pc' := 35) (L' := [.ref 3, .retAddr 0, .int v2, .ref 63]) (S' := [.int (-11 : Int32)]) (σ' := (97, I, J, R)) rfl ?_
      have h := Option.some.inj h
      subst h
      exact az_E.ret (v := some (.int (-11 : Int32))) (σ' := (97, I, J, R)) rfl hQ
    · rw [if_neg hc_23] at h
      refine az_E.sn 1 (pc' := 21) (L' := [.ref 63]) (S' := [.int (0 : Int32)]) (σ' := (97, I, J, R)) rfl ?_
      refine az_E.ret (v := some (.int (0 : Int32))) (σ' := (97, I, J, R)) rfl ?_
      show az_E az_F ex 2 129 30 [.ref 3, .retAddr 0, .int v2, .ref 63] [.int (0 : Int32)] (97, I, J, R) _
      refine az_E.br (c := (0 : Int32) = 0) (tt := 36) (ff := 33) (L' := [.ref 3, .retAddr 0, .int v2, .ref 63]) (S' := []) (σ' := (97, I, J, R)) rfl (fun _ => ?_) (fun hn => absurd (by decide) hn)
      refine az_E.sn 4 (pc' := 44) (L' := [.ref 3, .retAddr 0, .int v2, .ref 63]) (S' := [.int (I 63 0), .ref 55]) (σ' := (97, I, J, R)) rfl ?_
      refine az_E.call (d := 1) (k' := 2) (vs := [.ref 55, .int (I 63 0)]) (pc' := 47) (S' := []) rfl ?_ (fun _ _ hq => hq)
      show az_E az_F ex 1 2 0 [.ref 55, .int (I 63 0)] [] (97, I, J, R) _
      refine az_E.sn 6 (pc' := 8) (L' := [.ref 55, .int (I 63 0)]) (S' := [.int ((I 55 1) - (1 : Int32)), .int (0 : Int32), .int (I 63 0)]) (σ' := (97, I, J, R)) rfl ?_
      refine az_E.call (d := 0) (k' := 131) (vs := [.int (I 63 0), .int (0 : Int32), .int ((I 55 1) - (1 : Int32))]) (pc' := 11) (S' := []) rfl ?_ (fun _ _ hq => hq)
      show az_E az_F ex 0 131 0 [.int (I 63 0), .int (0 : Int32), .int ((I 55 1) - (1 : Int32))] [] (97, I, J, R) _
      refine az_E.sn 2 (pc' := 2) (L' := [.int (I 63 0), .int (0 : Int32), .int ((I 55 1) - (1 : Int32))]) (S' := [.int (0 : Int32), .int (I 63 0)]) (σ' := (97, I, J, R)) rfl ?_
      refine az_E.br (c := (I 63 0) < (0 : Int32)) (tt := 14) (ff := 5) (L' := [.int (I 63 0), .int (0 : Int32), .int ((I 55 1) - (1 : Int32))]) (S' := []) (σ' := (97, I, J, R)) rfl (fun hc_24 => ?_) (fun hc_24 => ?_)
      · rw [if_pos hc_24] at h
        refine az_E.sn 1 (pc' := 15) (L' := [.int (I 63 0), .int (0 : Int32), .int ((I 55 1) - (1 : Int32))]) (S' := [.int (0 : Int32)]) (σ' := (97, I, J, R)) rfl ?_
        refine az_E.ret (v := some (.int (0 : Int32))) (σ' := (97, I, J, R)) rfl ?_
        show az_E az_F ex 1 2 11 [.ref 55, .int (I 63 0)] [.int (0 : Int32)] (97, I, J, R) _
        refine az_E.ret (v := some (.int (0 : Int32))) (σ' := (97, I, J, R)) rfl ?_
        show az_E az_F ex 2 129 47 [.ref 3, .retAddr 0, .int v2, .ref 63] [.int (0 : Int32)] (97, I, J, R) _
        refine az_E.br (c := (0 : Int32) = 0) (tt := 69) (ff := 50) (L' := [.ref 3, .retAddr 0, .int v2, .ref 63]) (S' := []) (σ' := (97, I, J, R)) rfl (fun _ => ?_) (fun hn => absurd (by decide) hn)
        refine az_E.sn 1 (pc' := 71) (L' := [.ref 3, .retAddr 0, .int v2, .ref 63]) (S' := [.int (-12 : Int32)]) (σ' := (97, I, J, R)) rfl ?_
        have h := Option.some.inj h
        subst h
        exact az_E.ret (v := some (.int (-12 : Int32))) (σ' := (97, I, J, R)) rfl hQ
      · rw [if_neg hc_24] at h
        refine az_E.sn 2 (pc' := 7) (L' := [.int (I 63 0), .int (0 : Int32), .int ((I 55 1) - (1 : Int32))]) (S' := [.int ((I 55 1) - (1 : Int32)), .int (I 63 0)]) (σ' := (97, I, J, R)) rfl ?_
        refine az_E.br (c := ((I 55 1) - (1 : Int32)) < (I 63 0)) (tt := 14) (ff := 10) (L' := [.int (I 63 0), .int (0 : Int32), .int ((I 55 1) - (1 : Int32))]) (S' := []) (σ' := (97, I, J, R)) rfl (fun hc_25 => ?_) (fun hc_25 => ?_)
        · rw [if_pos hc_25] at h
          refine az_E.sn 1 (pc' := 15) (L' := [.int (I 63 0), .int (0 : Int32), .int ((I 55 1) - (1 : Int32))]) (S' := [.int (0 : Int32)]) (σ' := (97, I, J, R)) rfl ?_
          refine az_E.ret (v := some (.int (0 : Int32))) (σ' := (97, I, J, R)) rfl ?_
          show az_E az_F ex 1 2 11 [.ref 55, .int (I 63 0)] [.int (0 : Int32)] (97, I, J, R) _
          refine az_E.ret (v := some (.int (0 : Int32))) (σ' := (97, I, J, R)) rfl ?_
          show az_E az_F ex 2 129 47 [.ref 3, .retAddr 0, .int v2, .ref 63] [.int (0 : Int32)] (97, I, J, R) _
          refine az_E.br (c := (0 : Int32) = 0) (tt := 69) (ff := 50) (L' := [.ref 3, .retAddr 0, .int v2, .ref 63]) (S' := []) (σ' := (97, I, J, R)) rfl (fun _ => ?_) (fun hn => absurd (by decide) hn)
          refine az_E.sn 1 (pc' := 71) (L' := [.ref 3, .retAddr 0, .int v2, .ref 63]) (S' := [.int (-12 : Int32)]) (σ' := (97, I, J, R)) rfl ?_
          have h := Option.some.inj h
          subst h
          exact az_E.ret (v := some (.int (-12 : Int32))) (σ' := (97, I, J, R)) rfl hQ
        · rw [if_neg hc_25] at h
          refine az_E.sn 2 (pc' := 15) (L' := [.int (I 63 0), .int (0 : Int32), .int ((I 55 1) - (1 : Int32))]) (S' := [.int (1 : Int32)]) (σ' := (97, I, J, R)) rfl ?_
          refine az_E.ret (v := some (.int (1 : Int32))) (σ' := (97, I, J, R)) rfl ?_
          show az_E az_F ex 1 2 11 [.ref 55, .int (I 63 0)] [.int (1 : Int32)] (97, I, J, R) _
          refine az_E.ret (v := some (.int (1 : Int32))) (σ' := (97, I, J, R)) rfl ?_
          show az_E az_F ex 2 129 47 [.ref 3, .retAddr 0, .int v2, .ref 63] [.int (1 : Int32)] (97, I, J, R) _
          refine az_E.br (c := (1 : Int32) = 0) (tt := 69) (ff := 50) (L' := [.ref 3, .retAddr 0, .int v2, .ref 63]) (S' := []) (σ' := (97, I, J, R)) rfl (fun hn => absurd hn (by decide)) (fun _ => ?_)
          refine az_E.sn 5 (pc' := 61) (L' := [.ref 3, .retAddr 0, .int v2, .ref 63]) (S' := [.int (I 63 0), .ref 56]) (σ' := (97, I, J, R)) rfl ?_
          by_cases hc_26 : (I 63 0) < 0 ∨ 50 ≤ (I 63 0).toNatClampNeg
          · rw [if_pos hc_26] at h; cases h
          · rw [if_neg hc_26] at h
            refine az_E.oi (o := az_ai az_F ex (97, I, J, R) 56 (I 63 0)) (pc' := 62) (L' := [.ref 3, .retAddr 0, .int v2, .ref 63]) (S' := []) (σ' := (97, I, J, R)) (x := (I 56 (I 63 0).toNatClampNeg)) rfl (if_neg hc_26) ?_
            refine az_E.sn 1 (pc' := 63) (L' := [.ref 3, .retAddr 0, .int v2, .ref 63]) (S' := [.int v2, .int (I 56 (I 63 0).toNatClampNeg)]) (σ' := (97, I, J, R)) rfl ?_
            cases hx_28 : rs_Bd_isUnder ex I (I 56 (I 63 0).toNatClampNeg) v2 with
            | none => rw [hx_28] at h; cases h
            | some x_27 =>
              rw [hx_28] at h
              dsimp only at h
              refine az_E.call (d := 1) (k' := 3) (vs := [.int (I 56 (I 63 0).toNatClampNeg), .int v2]) (pc' := 66) (S' := []) (Q1 := fun v s => v = some (.int x_27) ∧ s = (97, I, J, R)) rfl (az_E.deep (by omega) (re_Bd_isUnder (J := J) (R := R)  hx_28 ⟨rfl, rfl⟩)) (fun v s hq => ?_)
              obtain ⟨rfl, rfl⟩ := hq
              show az_E az_F ex 2 129 66 [.ref 3, .retAddr 0, .int v2, .ref 63] [.int x_27] (97, I, J, R) _
              refine az_E.br (c := x_27 = 0) (tt := 69) (ff := 72) (L' := [.ref 3, .retAddr 0, .int v2, .ref 63]) (S' := []) (σ' := (97, I, J, R)) rfl (fun hc_29 => ?_) (fun hc_29 => ?_)
              · rw [if_pos hc_29] at h
                refine az_E.sn 1 (pc' := 71) (L' := [.ref 3, .retAddr 0, .int v2, .ref 63]) (S' := [.int (-12 : Int32)]) (σ' := (97, I, J, R)) rfl ?_
                have h := Option.some.inj h
                subst h
                exact az_E.ret (v := some (.int (-12 : Int32))) (σ' := (97, I, J, R)) rfl hQ
              · rw [if_neg hc_29] at h
                refine az_E.sn 5 (pc' := 83) (L' := [.ref 3, .retAddr 0, .int v2, .ref 63]) (S' := [.int (I 63 0), .ref 56]) (σ' := (97, I, J, R)) rfl ?_
                by_cases hc_30 : (I 63 0) < 0 ∨ 50 ≤ (I 63 0).toNatClampNeg
                · rw [if_pos hc_30] at h; cases h
                · rw [if_neg hc_30] at h
                  refine az_E.oi (o := az_ai az_F ex (97, I, J, R) 56 (I 63 0)) (pc' := 84) (L' := [.ref 3, .retAddr 0, .int v2, .ref 63]) (S' := []) (σ' := (97, I, J, R)) (x := (I 56 (I 63 0).toNatClampNeg)) rfl (if_neg hc_30) ?_
                  have h := Option.some.inj h
                  subst h
                  exact az_E.ret (v := some (.int (I 56 (I 63 0).toNatClampNeg))) (σ' := (97, I, J, R)) rfl hQ
  · rw [if_neg hc_22] at h
    refine az_E.sn 1 (pc' := 21) (L' := [.ref 63]) (S' := [.int (0 : Int32)]) (σ' := (97, I, J, R)) rfl ?_
    refine az_E.ret (v := some (.int (0 : Int32))) (σ' := (97, I, J, R)) rfl ?_
    show az_E az_F ex 2 129 30 [.ref 3, .retAddr 0, .int v2, .ref 63] [.int (0 : Int32)] (97, I, J, R) _
    refine az_E.br (c := (0 : Int32) = 0) (tt := 36) (ff := 33) (L' := [.ref 3, .retAddr 0, .int v2, .ref 63]) (S' := []) (σ' := (97, I, J, R)) rfl (fun _ => ?_) (fun hn => absurd (by decide) hn)
    refine az_E.sn 4 (pc' := 44) (L' := [.ref 3, .retAddr 0, .int v2, .ref 63]) (S' := [.int (I 63 0), .ref 55]) (σ' := (97, I, J, R)) rfl ?_
    refine az_E.call (d := 1) (k' := 2) (vs := [.ref 55, .int (I 63 0)]) (pc' := 47) (S' := []) rfl ?_ (fun _ _ hq => hq)
    show az_E az_F ex 1 2 0 [.ref 55, .int (I 63 0)] [] (97, I, J, R) _
    refine az_E.sn 6 (pc' := 8) (L' := [.ref 55, .int (I 63 0)]) (S' := [.int ((I 55 1) - (1 : Int32)), .int (0 : Int32), .int (I 63 0)]) (σ' := (97, I, J, R)) rfl ?_
    refine az_E.call (d := 0) (k' := 131) (vs := [.int (I 63 0), .int (0 : Int32), .int ((I 55 1) - (1 : Int32))]) (pc' := 11) (S' := []) rfl ?_ (fun _ _ hq => hq)
    show az_E az_F ex 0 131 0 [.int (I 63 0), .int (0 : Int32), .int ((I 55 1) - (1 : Int32))] [] (97, I, J, R) _
    refine az_E.sn 2 (pc' := 2) (L' := [.int (I 63 0), .int (0 : Int32), .int ((I 55 1) - (1 : Int32))]) (S' := [.int (0 : Int32), .int (I 63 0)]) (σ' := (97, I, J, R)) rfl ?_
    refine az_E.br (c := (I 63 0) < (0 : Int32)) (tt := 14) (ff := 5) (L' := [.int (I 63 0), .int (0 : Int32), .int ((I 55 1) - (1 : Int32))]) (S' := []) (σ' := (97, I, J, R)) rfl (fun hc_31 => ?_) (fun hc_31 => ?_)
    · rw [if_pos hc_31] at h
      refine az_E.sn 1 (pc' := 15) (L' := [.int (I 63 0), .int (0 : Int32), .int ((I 55 1) - (1 : Int32))]) (S' := [.int (0 : Int32)]) (σ' := (97, I, J, R)) rfl ?_
      refine az_E.ret (v := some (.int (0 : Int32))) (σ' := (97, I, J, R)) rfl ?_
      show az_E az_F ex 1 2 11 [.ref 55, .int (I 63 0)] [.int (0 : Int32)] (97, I, J, R) _
      refine az_E.ret (v := some (.int (0 : Int32))) (σ' := (97, I, J, R)) rfl ?_
      show az_E az_F ex 2 129 47 [.ref 3, .retAddr 0, .int v2, .ref 63] [.int (0 : Int32)] (97, I, J, R) _
      refine az_E.br (c := (0 : Int32) = 0) (tt := 69) (ff := 50) (L' := [.ref 3, .retAddr 0, .int v2, .ref 63]) (S' := []) (σ' := (97, I, J, R)) rfl (fun _ => ?_) (fun hn => absurd (by decide) hn)
      refine az_E.sn 1 (pc' := 71) (L' := [.ref 3, .retAddr 0, .int v2, .ref 63]) (S' := [.int (-12 : Int32)]) (σ' := (97, I, J, R)) rfl ?_
      have h := Option.some.inj h
      subst h
      exact az_E.ret (v := some (.int (-12 : Int32))) (σ' := (97, I, J, R)) rfl hQ
    · rw [if_neg hc_31] at h
      refine az_E.sn 2 (pc' := 7) (L' := [.int (I 63 0), .int (0 : Int32), .int ((I 55 1) - (1 : Int32))]) (S' := [.int ((I 55 1) - (1 : Int32)), .int (I 63 0)]) (σ' := (97, I, J, R)) rfl ?_
      refine az_E.br (c := ((I 55 1) - (1 : Int32)) < (I 63 0)) (tt := 14) (ff := 10) (L' := [.int (I 63 0), .int (0 : Int32), .int ((I 55 1) - (1 : Int32))]) (S' := []) (σ' := (97, I, J, R)) rfl (fun hc_32 => ?_) (fun hc_32 => ?_)
      · rw [if_pos hc_32] at h
        refine az_E.sn 1 (pc' := 15) (L' := [.int (I 63 0), .int (0 : Int32), .int ((I 55 1) - (1 : Int32))]) (S' := [.int (0 : Int32)]) (σ' := (97, I, J, R)) rfl ?_
        refine az_E.ret (v := some (.int (0 : Int32))) (σ' := (97, I, J, R)) rfl ?_
        show az_E az_F ex 1 2 11 [.ref 55, .int (I 63 0)] [.int (0 : Int32)] (97, I, J, R) _
        refine az_E.ret (v := some (.int (0 : Int32))) (σ' := (97, I, J, R)) rfl ?_
        show az_E az_F ex 2 129 47 [.ref 3, .retAddr 0, .int v2, .ref 63] [.int (0 : Int32)] (97, I, J, R) _
        refine az_E.br (c := (0 : Int32) = 0) (tt := 69) (ff := 50) (L' := [.ref 3, .retAddr 0, .int v2, .ref 63]) (S' := []) (σ' := (97, I, J, R)) rfl (fun _ => ?_) (fun hn => absurd (by decide) hn)
        refine az_E.sn 1 (pc' := 71) (L' := [.ref 3, .retAddr 0, .int v2, .ref 63]) (S' := [.int (-12 : Int32)]) (σ' := (97, I, J, R)) rfl ?_
        have h := Option.some.inj h
        subst h
        exact az_E.ret (v := some (.int (-12 : Int32))) (σ' := (97, I, J, R)) rfl hQ
      · rw [if_neg hc_32] at h
        refine az_E.sn 2 (pc' := 15) (L' := [.int (I 63 0), .int (0 : Int32), .int ((I 55 1) - (1 : Int32))]) (S' := [.int (1 : Int32)]) (σ' := (97, I, J, R)) rfl ?_
        refine az_E.ret (v := some (.int (1 : Int32))) (σ' := (97, I, J, R)) rfl ?_
        show az_E az_F ex 1 2 11 [.ref 55, .int (I 63 0)] [.int (1 : Int32)] (97, I, J, R) _
        refine az_E.ret (v := some (.int (1 : Int32))) (σ' := (97, I, J, R)) rfl ?_
        show az_E az_F ex 2 129 47 [.ref 3, .retAddr 0, .int v2, .ref 63] [.int (1 : Int32)] (97, I, J, R) _
        refine az_E.br (c := (1 : Int32) = 0) (tt := 69) (ff := 50) (L' := [.ref 3, .retAddr 0, .int v2, .ref 63]) (S' := []) (σ' := (97, I, J, R)) rfl (fun hn => absurd hn (by decide)) (fun _ => ?_)
        refine az_E.sn 5 (pc' := 61) (L' := [.ref 3, .retAddr 0, .int v2, .ref 63]) (S' := [.int (I 63 0), .ref 56]) (σ' := (97, I, J, R)) rfl ?_
        by_cases hc_33 : (I 63 0) < 0 ∨ 50 ≤ (I 63 0).toNatClampNeg
        · rw [if_pos hc_33] at h; cases h
        · rw [if_neg hc_33] at h
          refine az_E.oi (o := az_ai az_F ex (97, I, J, R) 56 (I 63 0)) (pc' := 62) (L' := [.ref 3, .retAddr 0, .int v2, .ref 63]) (S' := []) (σ' := (97, I, J, R)) (x := (I 56 (I 63 0).toNatClampNeg)) rfl (if_neg hc_33) ?_
          refine az_E.sn 1 (pc' := 63) (L' := [.ref 3, .retAddr 0, .int v2, .ref 63]) (S' := [.int v2, .int (I 56 (I 63 0).toNatClampNeg)]) (σ' := (97, I, J, R)) rfl ?_
          cases hx_35 : rs_Bd_isUnder ex I (I 56 (I 63 0).toNatClampNeg) v2 with
          | none => rw [hx_35] at h; cases h
          | some x_34 =>
            rw [hx_35] at h
            dsimp only at h
            refine az_E.call (d := 1) (k' := 3) (vs := [.int (I 56 (I 63 0).toNatClampNeg), .int v2]) (pc' := 66) (S' := []) (Q1 := fun v s => v = some (.int x_34) ∧ s = (97, I, J, R)) rfl (az_E.deep (by omega) (re_Bd_isUnder (J := J) (R := R)  hx_35 ⟨rfl, rfl⟩)) (fun v s hq => ?_)
            obtain ⟨rfl, rfl⟩ := hq
            show az_E az_F ex 2 129 66 [.ref 3, .retAddr 0, .int v2, .ref 63] [.int x_34] (97, I, J, R) _
            refine az_E.br (c := x_34 = 0) (tt := 69) (ff := 72) (L' := [.ref 3, .retAddr 0, .int v2, .ref 63]) (S' := []) (σ' := (97, I, J, R)) rfl (fun hc_36 => ?_) (fun hc_36 => ?_)
            · rw [if_pos hc_36] at h
              refine az_E.sn 1 (pc' := 71) (L' := [.ref 3, .retAddr 0, .int v2, .ref 63]) (S' := [.int (-12 : Int32)]) (σ' := (97, I, J, R)) rfl ?_
              have h := Option.some.inj h
              subst h
              exact az_E.ret (v := some (.int (-12 : Int32))) (σ' := (97, I, J, R)) rfl hQ
            · rw [if_neg hc_36] at h
              refine az_E.sn 5 (pc' := 83) (L' := [.ref 3, .retAddr 0, .int v2, .ref 63]) (S' := [.int (I 63 0), .ref 56]) (σ' := (97, I, J, R)) rfl ?_
              by_cases hc_37 : (I 63 0) < 0 ∨ 50 ≤ (I 63 0).toNatClampNeg
              · rw [if_pos hc_37] at h; cases h
              · rw [if_neg hc_37] at h
                refine az_E.oi (o := az_ai az_F ex (97, I, J, R) 56 (I 63 0)) (pc' := 84) (L' := [.ref 3, .retAddr 0, .int v2, .ref 63]) (S' := []) (σ' := (97, I, J, R)) (x := (I 56 (I 63 0).toNatClampNeg)) rfl (if_neg hc_37) ?_
                have h := Option.some.inj h
                subst h
                exact az_E.ret (v := some (.int (I 56 (I 63 0).toNatClampNeg))) (σ' := (97, I, J, R)) rfl hQ
set_option maxRecDepth 100000 in
set_option maxHeartbeats 4000000 in
theorem re_X_taken_25_65 {ex : az_X} {I : Nat → Nat → Int32} {J : Nat → Nat → Int64} {R : Nat → Nat → Option Nat} {v2 : Int32} {x : Int32} (h : rs_X_taken_25 65 ex I v2 = some x) {Q : Option Value → az_S → Prop} (hQ : Q (some (.int x)) (97, I, J, R)) : az_E az_F ex 2 129 25 [.ref 3, .retAddr 0, .int v2, .retAddr 0] [.ref 65] (97, I, J, R) Q := by
  unfold rs_X_taken_25 at h
  refine az_E.sn 2 (pc' := 27) (L' := [.ref 3, .retAddr 0, .int v2, .ref 65]) (S' := [.ref 65]) (σ' := (97, I, J, R)) rfl ?_
  refine az_E.call (d := 1) (k' := 54) (vs := [.ref 65]) (pc' := 30) (S' := []) rfl ?_ (fun _ _ hq => hq)
  show az_E az_F ex 1 54 0 [.ref 65] [] (97, I, J, R) _
  refine az_E.sn 3 (pc' := 5) (L' := [.ref 65]) (S' := [.int (-1 : Int32), .int (I 65 0)]) (σ' := (97, I, J, R)) rfl ?_
  refine az_E.br (c := (I 65 0) = (-1 : Int32)) (tt := 8) (ff := 20) (L' := [.ref 65]) (S' := []) (σ' := (97, I, J, R)) rfl (fun hc_38 => ?_) (fun hc_38 => ?_)
  · rw [if_pos hc_38] at h
    refine az_E.sn 3 (pc' := 13) (L' := [.ref 65]) (S' := [.int (-1 : Int32), .int (I 65 1)]) (σ' := (97, I, J, R)) rfl ?_
    refine az_E.br (c := (I 65 1) = (-1 : Int32)) (tt := 16) (ff := 20) (L' := [.ref 65]) (S' := []) (σ' := (97, I, J, R)) rfl (fun hc_39 => ?_) (fun hc_39 => ?_)
    · rw [if_pos hc_39] at h
      refine az_E.sn 2 (pc' := 21) (L' := [.ref 65]) (S' := [.int (1 : Int32)]) (σ' := (97, I, J, R)) rfl ?_
      refine az_E.ret (v := some (.int (1 : Int32))) (σ' := (97, I, J, R)) rfl ?_
      show az_E az_F ex 2 129 30 [.ref 3, .retAddr 0, .int v2, .ref 65] [.int (1 : Int32)] (97, I, J, R) _
      refine az_E.br (c := (1 : Int32) = 0) (tt := 36) (ff := 33) (L' := [.ref 3, .retAddr 0, .int v2, .ref 65]) (S' := []) (σ' := (97, I, J, R)) rfl (fun hn => absurd hn (by decide)) (fun _ => ?_)
      refine az_E.sn 1 (pc' := 35) (L' := [.ref 3, .retAddr 0, .int v2, .ref 65]) (S' := [.int (-11 : Int32)]) (σ' := (97, I, J, R)) rfl ?_
      have h := Option.some.inj h
      subst h
      exact az_E.ret (v := some (.int (-11 : Int32))) (σ' := (97, I, J, R)) rfl hQ
    · rw [if_neg hc_39] at h
      refine az_E.sn 1 (pc' := 21) (L' := [.ref 65]) (S' := [.int (0 : Int32)]) (σ' := (97, I, J, R)) rfl ?_
      refine az_E.ret (v := some (.int (0 : Int32))) (σ' := (97, I, J, R)) rfl ?_
      show az_E az_F ex 2 129 30 [.ref 3, .retAddr 0, .int v2, .ref 65] [.int (0 : Int32)] (97, I, J, R) _
      refine az_E.br (c := (0 : Int32) = 0) (tt := 36) (ff := 33) (L' := [.ref 3, .retAddr 0, .int v2, .ref 65]) (S' := []) (σ' := (97, I, J, R)) rfl (fun _ => ?_) (fun hn => absurd (by decide) hn)
      refine az_E.sn 4 (pc' := 44) (L' := [.ref 3, .retAddr 0, .int v2, .ref 65]) (S' := [.int (I 65 0), .ref 55]) (σ' := (97, I, J, R)) rfl ?_
      refine az_E.call (d := 1) (k' := 2) (vs := [.ref 55, .int (I 65 0)]) (pc' := 47) (S' := []) rfl ?_ (fun _ _ hq => hq)
      show az_E az_F ex 1 2 0 [.ref 55, .int (I 65 0)] [] (97, I, J, R) _
      refine az_E.sn 6 (pc' := 8) (L' := [.ref 55, .int (I 65 0)]) (S' := [.int ((I 55 1) - (1 : Int32)), .int (0 : Int32), .int (I 65 0)]) (σ' := (97, I, J, R)) rfl ?_
      refine az_E.call (d := 0) (k' := 131) (vs := [.int (I 65 0), .int (0 : Int32), .int ((I 55 1) - (1 : Int32))]) (pc' := 11) (S' := []) rfl ?_ (fun _ _ hq => hq)
      show az_E az_F ex 0 131 0 [.int (I 65 0), .int (0 : Int32), .int ((I 55 1) - (1 : Int32))] [] (97, I, J, R) _
      refine az_E.sn 2 (pc' := 2) (L' := [.int (I 65 0), .int (0 : Int32), .int ((I 55 1) - (1 : Int32))]) (S' := [.int (0 : Int32), .int (I 65 0)]) (σ' := (97, I, J, R)) rfl ?_
      refine az_E.br (c := (I 65 0) < (0 : Int32)) (tt := 14) (ff := 5) (L' := [.int (I 65 0), .int (0 : Int32), .int ((I 55 1) - (1 : Int32))]) (S' := []) (σ' := (97, I, J, R)) rfl (fun hc_40 => ?_) (fun hc_40 => ?_)
      · rw [if_pos hc_40] at h
        refine az_E.sn 1 (pc' := 15) (L' := [.int (I 65 0), .int (0 : Int32), .int ((I 55 1) - (1 : Int32))]) (S' := [.int (0 : Int32)]) (σ' := (97, I, J, R)) rfl ?_
        refine az_E.ret (v := some (.int (0 : Int32))) (σ' := (97, I, J, R)) rfl ?_
        show az_E az_F ex 1 2 11 [.ref 55, .int (I 65 0)] [.int (0 : Int32)] (97, I, J, R) _
        refine az_E.ret (v := some (.int (0 : Int32))) (σ' := (97, I, J, R)) rfl ?_
        show az_E az_F ex 2 129 47 [.ref 3, .retAddr 0, .int v2, .ref 65] [.int (0 : Int32)] (97, I, J, R) _
        refine az_E.br (c := (0 : Int32) = 0) (tt := 69) (ff := 50) (L' := [.ref 3, .retAddr 0, .int v2, .ref 65]) (S' := []) (σ' := (97, I, J, R)) rfl (fun _ => ?_) (fun hn => absurd (by decide) hn)
        refine az_E.sn 1 (pc' := 71) (L' := [.ref 3, .retAddr 0, .int v2, .ref 65]) (S' := [.int (-12 : Int32)]) (σ' := (97, I, J, R)) rfl ?_
        have h := Option.some.inj h
        subst h
        exact az_E.ret (v := some (.int (-12 : Int32))) (σ' := (97, I, J, R)) rfl hQ
      · rw [if_neg hc_40] at h
        refine az_E.sn 2 (pc' := 7) (L' := [.int (I 65 0), .int (0 : Int32), .int ((I 55 1) - (1 : Int32))]) (S' := [.int ((I 55 1) - (1 : Int32)), .int (I 65 0)]) (σ' := (97, I, J, R)) rfl ?_
        refine az_E.br (c := ((I 55 1) - (1 : Int32)) < (I 65 0)) (tt := 14) (ff := 10) (L' := [.int (I 65 0), .int (0 : Int32), .int ((I 55 1) - (1 : Int32))]) (S' := []) (σ' := (97, I, J, R)) rfl (fun hc_41 => ?_) (fun hc_41 => ?_)
        · rw [if_pos hc_41] at h
          refine az_E.sn 1 (pc' := 15) (L' := [.int (I 65 0), .int (0 : Int32), .int ((I 55 1) - (1 : Int32))]) (S' := [.int (0 : Int32)]) (σ' := (97, I, J, R)) rfl ?_
          refine az_E.ret (v := some (.int (0 : Int32))) (σ' := (97, I, J, R)) rfl ?_
          show az_E az_F ex 1 2 11 [.ref 55, .int (I 65 0)] [.int (0 : Int32)] (97, I, J, R) _
          refine az_E.ret (v := some (.int (0 : Int32))) (σ' := (97, I, J, R)) rfl ?_
          show az_E az_F ex 2 129 47 [.ref 3, .retAddr 0, .int v2, .ref 65] [.int (0 : Int32)] (97, I, J, R) _
          refine az_E.br (c := (0 : Int32) = 0) (tt := 69) (ff := 50) (L' := [.ref 3, .retAddr 0, .int v2, .ref 65]) (S' := []) (σ' := (97, I, J, R)) rfl (fun _ => ?_) (fun hn => absurd (by decide) hn)
          refine az_E.sn 1 (pc' := 71) (L' := [.ref 3, .retAddr 0, .int v2, .ref 65]) (S' := [.int (-12 : Int32)]) (σ' := (97, I, J, R)) rfl ?_
          have h := Option.some.inj h
          subst h
          exact az_E.ret (v := some (.int (-12 : Int32))) (σ' := (97, I, J, R)) rfl hQ
        · rw [if_neg hc_41] at h
          refine az_E.sn 2 (pc' := 15) (L' := [.int (I 65 0), .int (0 : Int32), .int ((I 55 1) - (1 : Int32))]) (S' := [.int (1 : Int32)]) (σ' := (97, I, J, R)) rfl ?_
          refine az_E.ret (v := some (.int (1 : Int32))) (σ' := (97, I, J, R)) rfl ?_
          show az_E az_F ex 1 2 11 [.ref 55, .int (I 65 0)] [.int (1 : Int32)] (97, I, J, R) _
          refine az_E.ret (v := some (.int (1 : Int32))) (σ' := (97, I, J, R)) rfl ?_
          show az_E az_F ex 2 129 47 [.ref 3, .retAddr 0, .int v2, .ref 65] [.int (1 : Int32)] (97, I, J, R) _
          refine az_E.br (c := (1 : Int32) = 0) (tt := 69) (ff := 50) (L' := [.ref 3, .retAddr 0, .int v2, .ref 65]) (S' := []) (σ' := (97, I, J, R)) rfl (fun hn => absurd hn (by decide)) (fun _ => ?_)
          refine az_E.sn 5 (pc' := 61) (L' := [.ref 3, .retAddr 0, .int v2, .ref 65]) (S' := [.int (I 65 0), .ref 56]) (σ' := (97, I, J, R)) rfl ?_
          by_cases hc_42 : (I 65 0) < 0 ∨ 50 ≤ (I 65 0).toNatClampNeg
          · rw [if_pos hc_42] at h; cases h
          · rw [if_neg hc_42] at h
            refine az_E.oi (o := az_ai az_F ex (97, I, J, R) 56 (I 65 0)) (pc' := 62) (L' := [.ref 3, .retAddr 0, .int v2, .ref 65]) (S' := []) (σ' := (97, I, J, R)) (x := (I 56 (I 65 0).toNatClampNeg)) rfl (if_neg hc_42) ?_
            refine az_E.sn 1 (pc' := 63) (L' := [.ref 3, .retAddr 0, .int v2, .ref 65]) (S' := [.int v2, .int (I 56 (I 65 0).toNatClampNeg)]) (σ' := (97, I, J, R)) rfl ?_
            cases hx_44 : rs_Bd_isUnder ex I (I 56 (I 65 0).toNatClampNeg) v2 with
            | none => rw [hx_44] at h; cases h
            | some x_43 =>
              rw [hx_44] at h
              dsimp only at h
              refine az_E.call (d := 1) (k' := 3) (vs := [.int (I 56 (I 65 0).toNatClampNeg), .int v2]) (pc' := 66) (S' := []) (Q1 := fun v s => v = some (.int x_43) ∧ s = (97, I, J, R)) rfl (az_E.deep (by omega) (re_Bd_isUnder (J := J) (R := R)  hx_44 ⟨rfl, rfl⟩)) (fun v s hq => ?_)
              obtain ⟨rfl, rfl⟩ := hq
              show az_E az_F ex 2 129 66 [.ref 3, .retAddr 0, .int v2, .ref 65] [.int x_43] (97, I, J, R) _
              refine az_E.br (c := x_43 = 0) (tt := 69) (ff := 72) (L' := [.ref 3, .retAddr 0, .int v2, .ref 65]) (S' := []) (σ' := (97, I, J, R)) rfl (fun hc_45 => ?_) (fun hc_45 => ?_)
              · rw [if_pos hc_45] at h
                refine az_E.sn 1 (pc' := 71) (L' := [.ref 3, .retAddr 0, .int v2, .ref 65]) (S' := [.int (-12 : Int32)]) (σ' := (97, I, J, R)) rfl ?_
                have h := Option.some.inj h
                subst h
                exact az_E.ret (v := some (.int (-12 : Int32))) (σ' := (97, I, J, R)) rfl hQ
              · rw [if_neg hc_45] at h
                refine az_E.sn 5 (pc' := 83) (L' := [.ref 3, .retAddr 0, .int v2, .ref 65]) (S' := [.int (I 65 0), .ref 56]) (σ' := (97, I, J, R)) rfl ?_
                by_cases hc_46 : (I 65 0) < 0 ∨ 50 ≤ (I 65 0).toNatClampNeg
                · rw [if_pos hc_46] at h; cases h
                · rw [if_neg hc_46] at h
                  refine az_E.oi (o := az_ai az_F ex (97, I, J, R) 56 (I 65 0)) (pc' := 84) (L' := [.ref 3, .retAddr 0, .int v2, .ref 65]) (S' := []) (σ' := (97, I, J, R)) (x := (I 56 (I 65 0).toNatClampNeg)) rfl (if_neg hc_46) ?_
                  have h := Option.some.inj h
                  subst h
                  exact az_E.ret (v := some (.int (I 56 (I 65 0).toNatClampNeg))) (σ' := (97, I, J, R)) rfl hQ
  · rw [if_neg hc_38] at h
    refine az_E.sn 1 (pc' := 21) (L' := [.ref 65]) (S' := [.int (0 : Int32)]) (σ' := (97, I, J, R)) rfl ?_
    refine az_E.ret (v := some (.int (0 : Int32))) (σ' := (97, I, J, R)) rfl ?_
    show az_E az_F ex 2 129 30 [.ref 3, .retAddr 0, .int v2, .ref 65] [.int (0 : Int32)] (97, I, J, R) _
    refine az_E.br (c := (0 : Int32) = 0) (tt := 36) (ff := 33) (L' := [.ref 3, .retAddr 0, .int v2, .ref 65]) (S' := []) (σ' := (97, I, J, R)) rfl (fun _ => ?_) (fun hn => absurd (by decide) hn)
    refine az_E.sn 4 (pc' := 44) (L' := [.ref 3, .retAddr 0, .int v2, .ref 65]) (S' := [.int (I 65 0), .ref 55]) (σ' := (97, I, J, R)) rfl ?_
    refine az_E.call (d := 1) (k' := 2) (vs := [.ref 55, .int (I 65 0)]) (pc' := 47) (S' := []) rfl ?_ (fun _ _ hq => hq)
    show az_E az_F ex 1 2 0 [.ref 55, .int (I 65 0)] [] (97, I, J, R) _
    refine az_E.sn 6 (pc' := 8) (L' := [.ref 55, .int (I 65 0)]) (S' := [.int ((I 55 1) - (1 : Int32)), .int (0 : Int32), .int (I 65 0)]) (σ' := (97, I, J, R)) rfl ?_
    refine az_E.call (d := 0) (k' := 131) (vs := [.int (I 65 0), .int (0 : Int32), .int ((I 55 1) - (1 : Int32))]) (pc' := 11) (S' := []) rfl ?_ (fun _ _ hq => hq)
    show az_E az_F ex 0 131 0 [.int (I 65 0), .int (0 : Int32), .int ((I 55 1) - (1 : Int32))] [] (97, I, J, R) _
    refine az_E.sn 2 (pc' := 2) (L' := [.int (I 65 0), .int (0 : Int32), .int ((I 55 1) - (1 : Int32))]) (S' := [.int (0 : Int32), .int (I 65 0)]) (σ' := (97, I, J, R)) rfl ?_
    refine az_E.br (c := (I 65 0) < (0 : Int32)) (tt := 14) (ff := 5) (L' := [.int (I 65 0), .int (0 : Int32), .int ((I 55 1) - (1 : Int32))]) (S' := []) (σ' := (97, I, J, R)) rfl (fun hc_47 => ?_) (fun hc_47 => ?_)
    · rw [if_pos hc_47] at h
      refine az_E.sn 1 (pc' := 15) (L' := [.int (I 65 0), .int (0 : Int32), .int ((I 55 1) - (1 : Int32))]) (S' := [.int (0 : Int32)]) (σ' := (97, I, J, R)) rfl ?_
      refine az_E.ret (v := some (.int (0 : Int32))) (σ' := (97, I, J, R)) rfl ?_
      show az_E az_F ex 1 2 11 [.ref 55, .int (I 65 0)] [.int (0 : Int32)] (97, I, J, R) _
      refine az_E.ret (v := some (.int (0 : Int32))) (σ' := (97, I, J, R)) rfl ?_
      show az_E az_F ex 2 129 47 [.ref 3, .retAddr 0, .int v2, .ref 65] [.int (0 : Int32)] (97, I, J, R) _
      refine az_E.br (c := (0 : Int32) = 0) (tt := 69) (ff := 50) (L' := [.ref 3, .retAddr 0, .int v2, .ref 65]) (S' := []) (σ' := (97, I, J, R)) rfl (fun _ => ?_) (fun hn => absurd (by decide) hn)
      refine az_E.sn 1 (pc' := 71) (L' := [.ref 3, .retAddr 0, .int v2, .ref 65]) (S' := [.int (-12 : Int32)]) (σ' := (97, I, J, R)) rfl ?_
      have h := Option.some.inj h
      subst h
      exact az_E.ret (v := some (.int (-12 : Int32))) (σ' := (97, I, J, R)) rfl hQ
    · rw [if_neg hc_47] at h
      refine az_E.sn 2 (pc' := 7) (L' := [.int (I 65 0), .int (0 : Int32), .int ((I 55 1) - (1 : Int32))]) (S' := [.int ((I 55 1) - (1 : Int32)), .int (I 65 0)]) (σ' := (97, I, J, R)) rfl ?_
      refine az_E.br (c := ((I 55 1) - (1 : Int32)) < (I 65 0)) (tt := 14) (ff := 10) (L' := [.int (I 65 0), .int (0 : Int32), .int ((I 55 1) - (1 : Int32))]) (S' := []) (σ' := (97, I, J, R)) rfl (fun hc_48 => ?_) (fun hc_48 => ?_)
      · rw [if_pos hc_48] at h
        refine az_E.sn 1 (pc' := 15) (L' := [.int (I 65 0), .int (0 : Int32), .int ((I 55 1) - (1 : Int32))]) (S' := [.int (0 : Int32)]) (σ' := (97, I, J, R)) rfl ?_
        refine az_E.ret (v := some (.int (0 : Int32))) (σ' := (97, I, J, R)) rfl ?_
        show az_E az_F ex 1 2 11 [.ref 55, .int (I 65 0)] [.int (0 : Int32)] (97, I, J, R) _
        refine az_E.ret (v := some (.int (0 : Int32))) (σ' := (97, I, J, R)) rfl ?_
        show az_E az_F ex 2 129 47 [.ref 3, .retAddr 0, .int v2, .ref 65] [.int (0 : Int32)] (97, I, J, R) _
        refine az_E.br (c := (0 : Int32) = 0) (tt := 69) (ff := 50) (L' := [.ref 3, .retAddr 0, .int v2, .ref 65]) (S' := []) (σ' := (97, I, J, R)) rfl (fun _ => ?_) (fun hn => absurd (by decide) hn)
        refine az_E.sn 1 (pc' := 71) (L' := [.ref 3, .retAddr 0, .int v2, .ref 65]) (S' := [.int (-12 : Int32)]) (σ' := (97, I, J, R)) rfl ?_
        have h := Option.some.inj h
        subst h
        exact az_E.ret (v := some (.int (-12 : Int32))) (σ' := (97, I, J, R)) rfl hQ
      · rw [if_neg hc_48] at h
        refine az_E.sn 2 (pc' := 15) (L' := [.int (I 65 0), .int (0 : Int32), .int ((I 55 1) - (1 : Int32))]) (S' := [.int (1 : Int32)]) (σ' := (97, I, J, R)) rfl ?_
        refine az_E.ret (v := some (.int (1 : Int32))) (σ' := (97, I, J, R)) rfl ?_
        show az_E az_F ex 1 2 11 [.ref 55, .int (I 65 0)] [.int (1 : Int32)] (97, I, J, R) _
        refine az_E.ret (v := some (.int (1 : Int32))) (σ' := (97, I, J, R)) rfl ?_
        show az_E az_F ex 2 129 47 [.ref 3, .retAddr 0, .int v2, .ref 65] [.int (1 : Int32)] (97, I, J, R) _
        refine az_E.br (c := (1 : Int32) = 0) (tt := 69) (ff := 50) (L' := [.ref 3, .retAddr 0, .int v2, .ref 65]) (S' := []) (σ' := (97, I, J, R)) rfl (fun hn => absurd hn (by decide)) (fun _ => ?_)
        refine az_E.sn 5 (pc' := 61) (L' := [.ref 3, .retAddr 0, .int v2, .ref 65]) (S' := [.int (I 65 0), .ref 56]) (σ' := (97, I, J, R)) rfl ?_
        by_cases hc_49 : (I 65 0) < 0 ∨ 50 ≤ (I 65 0).toNatClampNeg
        · rw [if_pos hc_49] at h; cases h
        · rw [if_neg hc_49] at h
          refine az_E.oi (o := az_ai az_F ex (97, I, J, R) 56 (I 65 0)) (pc' := 62) (L' := [.ref 3, .retAddr 0, .int v2, .ref 65]) (S' := []) (σ' := (97, I, J, R)) (x := (I 56 (I 65 0).toNatClampNeg)) rfl (if_neg hc_49) ?_
          refine az_E.sn 1 (pc' := 63) (L' := [.ref 3, .retAddr 0, .int v2, .ref 65]) (S' := [.int v2, .int (I 56 (I 65 0).toNatClampNeg)]) (σ' := (97, I, J, R)) rfl ?_
          cases hx_51 : rs_Bd_isUnder ex I (I 56 (I 65 0).toNatClampNeg) v2 with
          | none => rw [hx_51] at h; cases h
          | some x_50 =>
            rw [hx_51] at h
            dsimp only at h
            refine az_E.call (d := 1) (k' := 3) (vs := [.int (I 56 (I 65 0).toNatClampNeg), .int v2]) (pc' := 66) (S' := []) (Q1 := fun v s => v = some (.int x_50) ∧ s = (97, I, J, R)) rfl (az_E.deep (by omega) (re_Bd_isUnder (J := J) (R := R)  hx_51 ⟨rfl, rfl⟩)) (fun v s hq => ?_)
            obtain ⟨rfl, rfl⟩ := hq
            show az_E az_F ex 2 129 66 [.ref 3, .retAddr 0, .int v2, .ref 65] [.int x_50] (97, I, J, R) _
            refine az_E.br (c := x_50 = 0) (tt := 69) (ff := 72) (L' := [.ref 3, .retAddr 0, .int v2, .ref 65]) (S' := []) (σ' := (97, I, J, R)) rfl (fun hc_52 => ?_) (fun hc_52 => ?_)
            · rw [if_pos hc_52] at h
              refine az_E.sn 1 (pc' := 71) (L' := [.ref 3, .retAddr 0, .int v2, .ref 65]) (S' := [.int (-12 : Int32)]) (σ' := (97, I, J, R)) rfl ?_
              have h := Option.some.inj h
              subst h
              exact az_E.ret (v := some (.int (-12 : Int32))) (σ' := (97, I, J, R)) rfl hQ
            · rw [if_neg hc_52] at h
              refine az_E.sn 5 (pc' := 83) (L' := [.ref 3, .retAddr 0, .int v2, .ref 65]) (S' := [.int (I 65 0), .ref 56]) (σ' := (97, I, J, R)) rfl ?_
              by_cases hc_53 : (I 65 0) < 0 ∨ 50 ≤ (I 65 0).toNatClampNeg
              · rw [if_pos hc_53] at h; cases h
              · rw [if_neg hc_53] at h
                refine az_E.oi (o := az_ai az_F ex (97, I, J, R) 56 (I 65 0)) (pc' := 84) (L' := [.ref 3, .retAddr 0, .int v2, .ref 65]) (S' := []) (σ' := (97, I, J, R)) (x := (I 56 (I 65 0).toNatClampNeg)) rfl (if_neg hc_53) ?_
                have h := Option.some.inj h
                subst h
                exact az_E.ret (v := some (.int (I 56 (I 65 0).toNatClampNeg))) (σ' := (97, I, J, R)) rfl hQ
set_option maxRecDepth 100000 in
set_option maxHeartbeats 4000000 in
theorem re_X_taken_25_67 {ex : az_X} {I : Nat → Nat → Int32} {J : Nat → Nat → Int64} {R : Nat → Nat → Option Nat} {v2 : Int32} {x : Int32} (h : rs_X_taken_25 67 ex I v2 = some x) {Q : Option Value → az_S → Prop} (hQ : Q (some (.int x)) (97, I, J, R)) : az_E az_F ex 2 129 25 [.ref 3, .retAddr 0, .int v2, .retAddr 0] [.ref 67] (97, I, J, R) Q := by
  unfold rs_X_taken_25 at h
  refine az_E.sn 2 (pc' := 27) (L' := [.ref 3, .retAddr 0, .int v2, .ref 67]) (S' := [.ref 67]) (σ' := (97, I, J, R)) rfl ?_
  refine az_E.call (d := 1) (k' := 54) (vs := [.ref 67]) (pc' := 30) (S' := []) rfl ?_ (fun _ _ hq => hq)
  show az_E az_F ex 1 54 0 [.ref 67] [] (97, I, J, R) _
  refine az_E.sn 3 (pc' := 5) (L' := [.ref 67]) (S' := [.int (-1 : Int32), .int (I 67 0)]) (σ' := (97, I, J, R)) rfl ?_
  refine az_E.br (c := (I 67 0) = (-1 : Int32)) (tt := 8) (ff := 20) (L' := [.ref 67]) (S' := []) (σ' := (97, I, J, R)) rfl (fun hc_54 => ?_) (fun hc_54 => ?_)
  · rw [if_pos hc_54] at h
    refine az_E.sn 3 (pc' := 13) (L' := [.ref 67]) (S' := [.int (-1 : Int32), .int (I 67 1)]) (σ' := (97, I, J, R)) rfl ?_
    refine az_E.br (c := (I 67 1) = (-1 : Int32)) (tt := 16) (ff := 20) (L' := [.ref 67]) (S' := []) (σ' := (97, I, J, R)) rfl (fun hc_55 => ?_) (fun hc_55 => ?_)
    · rw [if_pos hc_55] at h
      refine az_E.sn 2 (pc' := 21) (L' := [.ref 67]) (S' := [.int (1 : Int32)]) (σ' := (97, I, J, R)) rfl ?_
      refine az_E.ret (v := some (.int (1 : Int32))) (σ' := (97, I, J, R)) rfl ?_
      show az_E az_F ex 2 129 30 [.ref 3, .retAddr 0, .int v2, .ref 67] [.int (1 : Int32)] (97, I, J, R) _
      refine az_E.br (c := (1 : Int32) = 0) (tt := 36) (ff := 33) (L' := [.ref 3, .retAddr 0, .int v2, .ref 67]) (S' := []) (σ' := (97, I, J, R)) rfl (fun hn => absurd hn (by decide)) (fun _ => ?_)
      refine az_E.sn 1 (pc' := 35) (L' := [.ref 3, .retAddr 0, .int v2, .ref 67]) (S' := [.int (-11 : Int32)]) (σ' := (97, I, J, R)) rfl ?_
      have h := Option.some.inj h
      subst h
      exact az_E.ret (v := some (.int (-11 : Int32))) (σ' := (97, I, J, R)) rfl hQ
    · rw [if_neg hc_55] at h
      refine az_E.sn 1 (pc' := 21) (L' := [.ref 67]) (S' := [.int (0 : Int32)]) (σ' := (97, I, J, R)) rfl ?_
      refine az_E.ret (v := some (.int (0 : Int32))) (σ' := (97, I, J, R)) rfl ?_
      show az_E az_F ex 2 129 30 [.ref 3, .retAddr 0, .int v2, .ref 67] [.int (0 : Int32)] (97, I, J, R) _
      refine az_E.br (c := (0 : Int32) = 0) (tt := 36) (ff := 33) (L' := [.ref 3, .retAddr 0, .int v2, .ref 67]) (S' := []) (σ' := (97, I, J, R)) rfl (fun _ => ?_) (fun hn => absurd (by decide) hn)
      refine az_E.sn 4 (pc' := 44) (L' := [.ref 3, .retAddr 0, .int v2, .ref 67]) (S' := [.int (I 67 0), .ref 55]) (σ' := (97, I, J, R)) rfl ?_
      refine az_E.call (d := 1) (k' := 2) (vs := [.ref 55, .int (I 67 0)]) (pc' := 47) (S' := []) rfl ?_ (fun _ _ hq => hq)
      show az_E az_F ex 1 2 0 [.ref 55, .int (I 67 0)] [] (97, I, J, R) _
      refine az_E.sn 6 (pc' := 8) (L' := [.ref 55, .int (I 67 0)]) (S' := [.int ((I 55 1) - (1 : Int32)), .int (0 : Int32), .int (I 67 0)]) (σ' := (97, I, J, R)) rfl ?_
      refine az_E.call (d := 0) (k' := 131) (vs := [.int (I 67 0), .int (0 : Int32), .int ((I 55 1) - (1 : Int32))]) (pc' := 11) (S' := []) rfl ?_ (fun _ _ hq => hq)
      show az_E az_F ex 0 131 0 [.int (I 67 0), .int (0 : Int32), .int ((I 55 1) - (1 : Int32))] [] (97, I, J, R) _
      refine az_E.sn 2 (pc' := 2) (L' := [.int (I 67 0), .int (0 : Int32), .int ((I 55 1) - (1 : Int32))]) (S' := [.int (0 : Int32), .int (I 67 0)]) (σ' := (97, I, J, R)) rfl ?_
      refine az_E.br (c := (I 67 0) < (0 : Int32)) (tt := 14) (ff := 5) (L' := [.int (I 67 0), .int (0 : Int32), .int ((I 55 1) - (1 : Int32))]) (S' := []) (σ' := (97, I, J, R)) rfl (fun hc_56 => ?_) (fun hc_56 => ?_)
      · rw [if_pos hc_56] at h
        refine az_E.sn 1 (pc' := 15) (L' := [.int (I 67 0), .int (0 : Int32), .int ((I 55 1) - (1 : Int32))]) (S' := [.int (0 : Int32)]) (σ' := (97, I, J, R)) rfl ?_
        refine az_E.ret (v := some (.int (0 : Int32))) (σ' := (97, I, J, R)) rfl ?_
        show az_E az_F ex 1 2 11 [.ref 55, .int (I 67 0)] [.int (0 : Int32)] (97, I, J, R) _
        refine az_E.ret (v := some (.int (0 : Int32))) (σ' := (97, I, J, R)) rfl ?_
        show az_E az_F ex 2 129 47 [.ref 3, .retAddr 0, .int v2, .ref 67] [.int (0 : Int32)] (97, I, J, R) _
        refine az_E.br (c := (0 : Int32) = 0) (tt := 69) (ff := 50) (L' := [.ref 3, .retAddr 0, .int v2, .ref 67]) (S' := []) (σ' := (97, I, J, R)) rfl (fun _ => ?_) (fun hn => absurd (by decide) hn)
        refine az_E.sn 1 (pc' := 71) (L' := [.ref 3, .retAddr 0, .int v2, .ref 67]) (S' := [.int (-12 : Int32)]) (σ' := (97, I, J, R)) rfl ?_
        have h := Option.some.inj h
        subst h
        exact az_E.ret (v := some (.int (-12 : Int32))) (σ' := (97, I, J, R)) rfl hQ
      · rw [if_neg hc_56] at h
        refine az_E.sn 2 (pc' := 7) (L' := [.int (I 67 0), .int (0 : Int32), .int ((I 55 1) - (1 : Int32))]) (S' := [.int ((I 55 1) - (1 : Int32)), .int (I 67 0)]) (σ' := (97, I, J, R)) rfl ?_
        refine az_E.br (c := ((I 55 1) - (1 : Int32)) < (I 67 0)) (tt := 14) (ff := 10) (L' := [.int (I 67 0), .int (0 : Int32), .int ((I 55 1) - (1 : Int32))]) (S' := []) (σ' := (97, I, J, R)) rfl (fun hc_57 => ?_) (fun hc_57 => ?_)
        · rw [if_pos hc_57] at h
          refine az_E.sn 1 (pc' := 15) (L' := [.int (I 67 0), .int (0 : Int32), .int ((I 55 1) - (1 : Int32))]) (S' := [.int (0 : Int32)]) (σ' := (97, I, J, R)) rfl ?_
          refine az_E.ret (v := some (.int (0 : Int32))) (σ' := (97, I, J, R)) rfl ?_
          show az_E az_F ex 1 2 11 [.ref 55, .int (I 67 0)] [.int (0 : Int32)] (97, I, J, R) _
          refine az_E.ret (v := some (.int (0 : Int32))) (σ' := (97, I, J, R)) rfl ?_
          show az_E az_F ex 2 129 47 [.ref 3, .retAddr 0, .int v2, .ref 67] [.int (0 : Int32)] (97, I, J, R) _
          refine az_E.br (c := (0 : Int32) = 0) (tt := 69) (ff := 50) (L' := [.ref 3, .retAddr 0, .int v2, .ref 67]) (S' := []) (σ' := (97, I, J, R)) rfl (fun _ => ?_) (fun hn => absurd (by decide) hn)
          refine az_E.sn 1 (pc' := 71) (L' := [.ref 3, .retAddr 0, .int v2, .ref 67]) (S' := [.int (-12 : Int32)]) (σ' := (97, I, J, R)) rfl ?_
          have h := Option.some.inj h
          subst h
          exact az_E.ret (v := some (.int (-12 : Int32))) (σ' := (97, I, J, R)) rfl hQ
        · rw [if_neg hc_57] at h
          refine az_E.sn 2 (pc' := 15) (L' := [.int (I 67 0), .int (0 : Int32), .int ((I 55 1) - (1 : Int32))]) (S' := [.int (1 : Int32)]) (σ' := (97, I, J, R)) rfl ?_
          refine az_E.ret (v := some (.int (1 : Int32))) (σ' := (97, I, J, R)) rfl ?_
          show az_E az_F ex 1 2 11 [.ref 55, .int (I 67 0)] [.int (1 : Int32)] (97, I, J, R) _
          refine az_E.ret (v := some (.int (1 : Int32))) (σ' := (97, I, J, R)) rfl ?_
          show az_E az_F ex 2 129 47 [.ref 3, .retAddr 0, .int v2, .ref 67] [.int (1 : Int32)] (97, I, J, R) _
          refine az_E.br (c := (1 : Int32) = 0) (tt := 69) (ff := 50) (L' := [.ref 3, .retAddr 0, .int v2, .ref 67]) (S' := []) (σ' := (97, I, J, R)) rfl (fun hn => absurd hn (by decide)) (fun _ => ?_)
          refine az_E.sn 5 (pc' := 61) (L' := [.ref 3, .retAddr 0, .int v2, .ref 67]) (S' := [.int (I 67 0), .ref 56]) (σ' := (97, I, J, R)) rfl ?_
          by_cases hc_58 : (I 67 0) < 0 ∨ 50 ≤ (I 67 0).toNatClampNeg
          · rw [if_pos hc_58] at h; cases h
          · rw [if_neg hc_58] at h
            refine az_E.oi (o := az_ai az_F ex (97, I, J, R) 56 (I 67 0)) (pc' := 62) (L' := [.ref 3, .retAddr 0, .int v2, .ref 67]) (S' := []) (σ' := (97, I, J, R)) (x := (I 56 (I 67 0).toNatClampNeg)) rfl (if_neg hc_58) ?_
            refine az_E.sn 1 (pc' := 63) (L' := [.ref 3, .retAddr 0, .int v2, .ref 67]) (S' := [.int v2, .int (I 56 (I 67 0).toNatClampNeg)]) (σ' := (97, I, J, R)) rfl ?_
            cases hx_60 : rs_Bd_isUnder ex I (I 56 (I 67 0).toNatClampNeg) v2 with
            | none => rw [hx_60] at h; cases h
            | some x_59 =>
              rw [hx_60] at h
              dsimp only at h
              refine az_E.call (d := 1) (k' := 3) (vs := [.int (I 56 (I 67 0).toNatClampNeg), .int v2]) (pc' := 66) (S' := []) (Q1 := fun v s => v = some (.int x_59) ∧ s = (97, I, J, R)) rfl (az_E.deep (by omega) (re_Bd_isUnder (J := J) (R := R)  hx_60 ⟨rfl, rfl⟩)) (fun v s hq => ?_)
              obtain ⟨rfl, rfl⟩ := hq
              show az_E az_F ex 2 129 66 [.ref 3, .retAddr 0, .int v2, .ref 67] [.int x_59] (97, I, J, R) _
              refine az_E.br (c := x_59 = 0) (tt := 69) (ff := 72) (L' := [.ref 3, .retAddr 0, .int v2, .ref 67]) (S' := []) (σ' := (97, I, J, R)) rfl (fun hc_61 => ?_) (fun hc_61 => ?_)
              · rw [if_pos hc_61] at h
                refine az_E.sn 1 (pc' := 71) (L' := [.ref 3, .retAddr 0, .int v2, .ref 67]) (S' := [.int (-12 : Int32)]) (σ' := (97, I, J, R)) rfl ?_
                have h := Option.some.inj h
                subst h
                exact az_E.ret (v := some (.int (-12 : Int32))) (σ' := (97, I, J, R)) rfl hQ
              · rw [if_neg hc_61] at h
                refine az_E.sn 5 (pc' := 83) (L' := [.ref 3, .retAddr 0, .int v2, .ref 67]) (S' := [.int (I 67 0), .ref 56]) (σ' := (97, I, J, R)) rfl ?_
                by_cases hc_62 : (I 67 0) < 0 ∨ 50 ≤ (I 67 0).toNatClampNeg
                · rw [if_pos hc_62] at h; cases h
                · rw [if_neg hc_62] at h
                  refine az_E.oi (o := az_ai az_F ex (97, I, J, R) 56 (I 67 0)) (pc' := 84) (L' := [.ref 3, .retAddr 0, .int v2, .ref 67]) (S' := []) (σ' := (97, I, J, R)) (x := (I 56 (I 67 0).toNatClampNeg)) rfl (if_neg hc_62) ?_
                  have h := Option.some.inj h
                  subst h
                  exact az_E.ret (v := some (.int (I 56 (I 67 0).toNatClampNeg))) (σ' := (97, I, J, R)) rfl hQ
  · rw [if_neg hc_54] at h
    refine az_E.sn 1 (pc' := 21) (L' := [.ref 67]) (S' := [.int (0 : Int32)]) (σ' := (97, I, J, R)) rfl ?_
    refine az_E.ret (v := some (.int (0 : Int32))) (σ' := (97, I, J, R)) rfl ?_
    show az_E az_F ex 2 129 30 [.ref 3, .retAddr 0, .int v2, .ref 67] [.int (0 : Int32)] (97, I, J, R) _
    refine az_E.br (c := (0 : Int32) = 0) (tt := 36) (ff := 33) (L' := [.ref 3, .retAddr 0, .int v2, .ref 67]) (S' := []) (σ' := (97, I, J, R)) rfl (fun _ => ?_) (fun hn => absurd (by decide) hn)
    refine az_E.sn 4 (pc' := 44) (L' := [.ref 3, .retAddr 0, .int v2, .ref 67]) (S' := [.int (I 67 0), .ref 55]) (σ' := (97, I, J, R)) rfl ?_
    refine az_E.call (d := 1) (k' := 2) (vs := [.ref 55, .int (I 67 0)]) (pc' := 47) (S' := []) rfl ?_ (fun _ _ hq => hq)
    show az_E az_F ex 1 2 0 [.ref 55, .int (I 67 0)] [] (97, I, J, R) _
    refine az_E.sn 6 (pc' := 8) (L' := [.ref 55, .int (I 67 0)]) (S' := [.int ((I 55 1) - (1 : Int32)), .int (0 : Int32), .int (I 67 0)]) (σ' := (97, I, J, R)) rfl ?_
    refine az_E.call (d := 0) (k' := 131) (vs := [.int (I 67 0), .int (0 : Int32), .int ((I 55 1) - (1 : Int32))]) (pc' := 11) (S' := []) rfl ?_ (fun _ _ hq => hq)
    show az_E az_F ex 0 131 0 [.int (I 67 0), .int (0 : Int32), .int ((I 55 1) - (1 : Int32))] [] (97, I, J, R) _
    refine az_E.sn 2 (pc' := 2) (L' := [.int (I 67 0), .int (0 : Int32), .int ((I 55 1) - (1 : Int32))]) (S' := [.int (0 : Int32), .int (I 67 0)]) (σ' := (97, I, J, R)) rfl ?_
    refine az_E.br (c := (I 67 0) < (0 : Int32)) (tt := 14) (ff := 5) (L' := [.int (I 67 0), .int (0 : Int32), .int ((I 55 1) - (1 : Int32))]) (S' := []) (σ' := (97, I, J, R)) rfl (fun hc_63 => ?_) (fun hc_63 => ?_)
    · rw [if_pos hc_63] at h
      refine az_E.sn 1 (pc' := 15) (L' := [.int (I 67 0), .int (0 : Int32), .int ((I 55 1) - (1 : Int32))]) (S' := [.int (0 : Int32)]) (σ' := (97, I, J, R)) rfl ?_
      refine az_E.ret (v := some (.int (0 : Int32))) (σ' := (97, I, J, R)) rfl ?_
      show az_E az_F ex 1 2 11 [.ref 55, .int (I 67 0)] [.int (0 : Int32)] (97, I, J, R) _
      refine az_E.ret (v := some (.int (0 : Int32))) (σ' := (97, I, J, R)) rfl ?_
      show az_E az_F ex 2 129 47 [.ref 3, .retAddr 0, .int v2, .ref 67] [.int (0 : Int32)] (97, I, J, R) _
      refine az_E.br (c := (0 : Int32) = 0) (tt := 69) (ff := 50) (L' := [.ref 3, .retAddr 0, .int v2, .ref 67]) (S' := []) (σ' := (97, I, J, R)) rfl (fun _ => ?_) (fun hn => absurd (by decide) hn)
      refine az_E.sn 1 (pc' := 71) (L' := [.ref 3, .retAddr 0, .int v2, .ref 67]) (S' := [.int (-12 : Int32)]) (σ' := (97, I, J, R)) rfl ?_
      have h := Option.some.inj h
      subst h
      exact az_E.ret (v := some (.int (-12 : Int32))) (σ' := (97, I, J, R)) rfl hQ
    · rw [if_neg hc_63] at h
      refine az_E.sn 2 (pc' := 7) (L' := [.int (I 67 0), .int (0 : Int32), .int ((I 55 1) - (1 : Int32))]) (S' := [.int ((I 55 1) - (1 : Int32)), .int (I 67 0)]) (σ' := (97, I, J, R)) rfl ?_
      refine az_E.br (c := ((I 55 1) - (1 : Int32)) < (I 67 0)) (tt := 14) (ff := 10) (L' := [.int (I 67 0), .int (0 : Int32), .int ((I 55 1) - (1 : Int32))]) (S' := []) (σ' := (97, I, J, R)) rfl (fun hc_64 => ?_) (fun hc_64 => ?_)
      · rw [if_pos hc_64] at h
        refine az_E.sn 1 (pc' := 15) (L' := [.int (I 67 0), .int (0 : Int32), .int ((I 55 1) - (1 : Int32))]) (S' := [.int (0 : Int32)]) (σ' := (97, I, J, R)) rfl ?_
        refine az_E.ret (v := some (.int (0 : Int32))) (σ' := (97, I, J, R)) rfl ?_
        show az_E az_F ex 1 2 11 [.ref 55, .int (I 67 0)] [.int (0 : Int32)] (97, I, J, R) _
        refine az_E.ret (v := some (.int (0 : Int32))) (σ' := (97, I, J, R)) rfl ?_
        show az_E az_F ex 2 129 47 [.ref 3, .retAddr 0, .int v2, .ref 67] [.int (0 : Int32)] (97, I, J, R) _
        refine az_E.br (c := (0 : Int32) = 0) (tt := 69) (ff := 50) (L' := [.ref 3, .retAddr 0, .int v2, .ref 67]) (S' := []) (σ' := (97, I, J, R)) rfl (fun _ => ?_) (fun hn => absurd (by decide) hn)
        refine az_E.sn 1 (pc' := 71) (L' := [.ref 3, .retAddr 0, .int v2, .ref 67]) (S' := [.int (-12 : Int32)]) (σ' := (97, I, J, R)) rfl ?_
        have h := Option.some.inj h
        subst h
        exact az_E.ret (v := some (.int (-12 : Int32))) (σ' := (97, I, J, R)) rfl hQ
      · rw [if_neg hc_64] at h
        refine az_E.sn 2 (pc' := 15) (L' := [.int (I 67 0), .int (0 : Int32), .int ((I 55 1) - (1 : Int32))]) (S' := [.int (1 : Int32)]) (σ' := (97, I, J, R)) rfl ?_
        refine az_E.ret (v := some (.int (1 : Int32))) (σ' := (97, I, J, R)) rfl ?_
        show az_E az_F ex 1 2 11 [.ref 55, .int (I 67 0)] [.int (1 : Int32)] (97, I, J, R) _
        refine az_E.ret (v := some (.int (1 : Int32))) (σ' := (97, I, J, R)) rfl ?_
        show az_E az_F ex 2 129 47 [.ref 3, .retAddr 0, .int v2, .ref 67] [.int (1 : Int32)] (97, I, J, R) _
        refine az_E.br (c := (1 : Int32) = 0) (tt := 69) (ff := 50) (L' := [.ref 3, .retAddr 0, .int v2, .ref 67]) (S' := []) (σ' := (97, I, J, R)) rfl (fun hn => absurd hn (by decide)) (fun _ => ?_)
        refine az_E.sn 5 (pc' := 61) (L' := [.ref 3, .retAddr 0, .int v2, .ref 67]) (S' := [.int (I 67 0), .ref 56]) (σ' := (97, I, J, R)) rfl ?_
        by_cases hc_65 : (I 67 0) < 0 ∨ 50 ≤ (I 67 0).toNatClampNeg
        · rw [if_pos hc_65] at h; cases h
        · rw [if_neg hc_65] at h
          refine az_E.oi (o := az_ai az_F ex (97, I, J, R) 56 (I 67 0)) (pc' := 62) (L' := [.ref 3, .retAddr 0, .int v2, .ref 67]) (S' := []) (σ' := (97, I, J, R)) (x := (I 56 (I 67 0).toNatClampNeg)) rfl (if_neg hc_65) ?_
          refine az_E.sn 1 (pc' := 63) (L' := [.ref 3, .retAddr 0, .int v2, .ref 67]) (S' := [.int v2, .int (I 56 (I 67 0).toNatClampNeg)]) (σ' := (97, I, J, R)) rfl ?_
          cases hx_67 : rs_Bd_isUnder ex I (I 56 (I 67 0).toNatClampNeg) v2 with
          | none => rw [hx_67] at h; cases h
          | some x_66 =>
            rw [hx_67] at h
            dsimp only at h
            refine az_E.call (d := 1) (k' := 3) (vs := [.int (I 56 (I 67 0).toNatClampNeg), .int v2]) (pc' := 66) (S' := []) (Q1 := fun v s => v = some (.int x_66) ∧ s = (97, I, J, R)) rfl (az_E.deep (by omega) (re_Bd_isUnder (J := J) (R := R)  hx_67 ⟨rfl, rfl⟩)) (fun v s hq => ?_)
            obtain ⟨rfl, rfl⟩ := hq
            show az_E az_F ex 2 129 66 [.ref 3, .retAddr 0, .int v2, .ref 67] [.int x_66] (97, I, J, R) _
            refine az_E.br (c := x_66 = 0) (tt := 69) (ff := 72) (L' := [.ref 3, .retAddr 0, .int v2, .ref 67]) (S' := []) (σ' := (97, I, J, R)) rfl (fun hc_68 => ?_) (fun hc_68 => ?_)
            · rw [if_pos hc_68] at h
              refine az_E.sn 1 (pc' := 71) (L' := [.ref 3, .retAddr 0, .int v2, .ref 67]) (S' := [.int (-12 : Int32)]) (σ' := (97, I, J, R)) rfl ?_
              have h := Option.some.inj h
              subst h
              exact az_E.ret (v := some (.int (-12 : Int32))) (σ' := (97, I, J, R)) rfl hQ
            · rw [if_neg hc_68] at h
              refine az_E.sn 5 (pc' := 83) (L' := [.ref 3, .retAddr 0, .int v2, .ref 67]) (S' := [.int (I 67 0), .ref 56]) (σ' := (97, I, J, R)) rfl ?_
              by_cases hc_69 : (I 67 0) < 0 ∨ 50 ≤ (I 67 0).toNatClampNeg
              · rw [if_pos hc_69] at h; cases h
              · rw [if_neg hc_69] at h
                refine az_E.oi (o := az_ai az_F ex (97, I, J, R) 56 (I 67 0)) (pc' := 84) (L' := [.ref 3, .retAddr 0, .int v2, .ref 67]) (S' := []) (σ' := (97, I, J, R)) (x := (I 56 (I 67 0).toNatClampNeg)) rfl (if_neg hc_69) ?_
                have h := Option.some.inj h
                subst h
                exact az_E.ret (v := some (.int (I 56 (I 67 0).toNatClampNeg))) (σ' := (97, I, J, R)) rfl hQ
set_option maxRecDepth 100000 in
set_option maxHeartbeats 4000000 in
theorem re_X_taken_25_69 {ex : az_X} {I : Nat → Nat → Int32} {J : Nat → Nat → Int64} {R : Nat → Nat → Option Nat} {v2 : Int32} {x : Int32} (h : rs_X_taken_25 69 ex I v2 = some x) {Q : Option Value → az_S → Prop} (hQ : Q (some (.int x)) (97, I, J, R)) : az_E az_F ex 2 129 25 [.ref 3, .retAddr 0, .int v2, .retAddr 0] [.ref 69] (97, I, J, R) Q := by
  unfold rs_X_taken_25 at h
  refine az_E.sn 2 (pc' := 27) (L' := [.ref 3, .retAddr 0, .int v2, .ref 69]) (S' := [.ref 69]) (σ' := (97, I, J, R)) rfl ?_
  refine az_E.call (d := 1) (k' := 54) (vs := [.ref 69]) (pc' := 30) (S' := []) rfl ?_ (fun _ _ hq => hq)
  show az_E az_F ex 1 54 0 [.ref 69] [] (97, I, J, R) _
  refine az_E.sn 3 (pc' := 5) (L' := [.ref 69]) (S' := [.int (-1 : Int32), .int (I 69 0)]) (σ' := (97, I, J, R)) rfl ?_
  refine az_E.br (c := (I 69 0) = (-1 : Int32)) (tt := 8) (ff := 20) (L' := [.ref 69]) (S' := []) (σ' := (97, I, J, R)) rfl (fun hc_70 => ?_) (fun hc_70 => ?_)
  · rw [if_pos hc_70] at h
    refine az_E.sn 3 (pc' := 13) (L' := [.ref 69]) (S' := [.int (-1 : Int32), .int (I 69 1)]) (σ' := (97, I, J, R)) rfl ?_
    refine az_E.br (c := (I 69 1) = (-1 : Int32)) (tt := 16) (ff := 20) (L' := [.ref 69]) (S' := []) (σ' := (97, I, J, R)) rfl (fun hc_71 => ?_) (fun hc_71 => ?_)
    · rw [if_pos hc_71] at h
      refine az_E.sn 2 (pc' := 21) (L' := [.ref 69]) (S' := [.int (1 : Int32)]) (σ' := (97, I, J, R)) rfl ?_
      refine az_E.ret (v := some (.int (1 : Int32))) (σ' := (97, I, J, R)) rfl ?_
      show az_E az_F ex 2 129 30 [.ref 3, .retAddr 0, .int v2, .ref 69] [.int (1 : Int32)] (97, I, J, R) _
      refine az_E.br (c := (1 : Int32) = 0) (tt := 36) (ff := 33) (L' := [.ref 3, .retAddr 0, .int v2, .ref 69]) (S' := []) (σ' := (97, I, J, R)) rfl (fun hn => absurd hn (by decide)) (fun _ => ?_)
      refine az_E.sn 1 (pc' := 35) (L' := [.ref 3, .retAddr 0, .int v2, .ref 69]) (S' := [.int (-11 : Int32)]) (σ' := (97, I, J, R)) rfl ?_
      have h := Option.some.inj h
      subst h
      exact az_E.ret (v := some (.int (-11 : Int32))) (σ' := (97, I, J, R)) rfl hQ
    · rw [if_neg hc_71] at h
      refine az_E.sn 1 (pc' := 21) (L' := [.ref 69]) (S' := [.int (0 : Int32)]) (σ' := (97, I, J, R)) rfl ?_
      refine az_E.ret (v := some (.int (0 : Int32))) (σ' := (97, I, J, R)) rfl ?_
      show az_E az_F ex 2 129 30 [.ref 3, .retAddr 0, .int v2, .ref 69] [.int (0 : Int32)] (97, I, J, R) _
      refine az_E.br (c := (0 : Int32) = 0) (tt := 36) (ff := 33) (L' := [.ref 3, .retAddr 0, .int v2, .ref 69]) (S' := []) (σ' := (97, I, J, R)) rfl (fun _ => ?_) (fun hn => absurd (by decide) hn)
      refine az_E.sn 4 (pc' := 44) (L' := [.ref 3, .retAddr 0, .int v2, .ref 69]) (S' := [.int (I 69 0), .ref 55]) (σ' := (97, I, J, R)) rfl ?_
      refine az_E.call (d := 1) (k' := 2) (vs := [.ref 55, .int (I 69 0)]) (pc' := 47) (S' := []) rfl ?_ (fun _ _ hq => hq)
      show az_E az_F ex 1 2 0 [.ref 55, .int (I 69 0)] [] (97, I, J, R) _
      refine az_E.sn 6 (pc' := 8) (L' := [.ref 55, .int (I 69 0)]) (S' := [.int ((I 55 1) - (1 : Int32)), .int (0 : Int32), .int (I 69 0)]) (σ' := (97, I, J, R)) rfl ?_
      refine az_E.call (d := 0) (k' := 131) (vs := [.int (I 69 0), .int (0 : Int32), .int ((I 55 1) - (1 : Int32))]) (pc' := 11) (S' := []) rfl ?_ (fun _ _ hq => hq)
      show az_E az_F ex 0 131 0 [.int (I 69 0), .int (0 : Int32), .int ((I 55 1) - (1 : Int32))] [] (97, I, J, R) _
      refine az_E.sn 2 (pc' := 2) (L' := [.int (I 69 0), .int (0 : Int32), .int ((I 55 1) - (1 : Int32))]) (S' := [.int (0 : Int32), .int (I 69 0)]) (σ' := (97, I, J, R)) rfl ?_
      refine az_E.br (c := (I 69 0) < (0 : Int32)) (tt := 14) (ff := 5) (L' := [.int (I 69 0), .int (0 : Int32), .int ((I 55 1) - (1 : Int32))]) (S' := []) (σ' := (97, I, J, R)) rfl (fun hc_72 => ?_) (fun hc_72 => ?_)
      · rw [if_pos hc_72] at h
        refine az_E.sn 1 (pc' := 15) (L' := [.int (I 69 0), .int (0 : Int32), .int ((I 55 1) - (1 : Int32))]) (S' := [.int (0 : Int32)]) (σ' := (97, I, J, R)) rfl ?_
        refine az_E.ret (v := some (.int (0 : Int32))) (σ' := (97, I, J, R)) rfl ?_
        show az_E az_F ex 1 2 11 [.ref 55, .int (I 69 0)] [.int (0 : Int32)] (97, I, J, R) _
        refine az_E.ret (v := some (.int (0 : Int32))) (σ' := (97, I, J, R)) rfl ?_
        show az_E az_F ex 2 129 47 [.ref 3, .retAddr 0, .int v2, .ref 69] [.int (0 : Int32)] (97, I, J, R) _
        refine az_E.br (c := (0 : Int32) = 0) (tt := 69) (ff := 50) (L' := [.ref 3, .retAddr 0, .int v2, .ref 69]) (S' := []) (σ' := (97, I, J, R)) rfl (fun _ => ?_) (fun hn => absurd (by decide) hn)
        refine az_E.sn 1 (pc' := 71) (L' := [.ref 3, .retAddr 0, .int v2, .ref 69]) (S' := [.int (-12 : Int32)]) (σ' := (97, I, J, R)) rfl ?_
        have h := Option.some.inj h
        subst h
        exact az_E.ret (v := some (.int (-12 : Int32))) (σ' := (97, I, J, R)) rfl hQ
      · rw [if_neg hc_72] at h
        refine az_E.sn 2 (pc' := 7) (L' := [.int (I 69 0), .int (0 : Int32), .int ((I 55 1) - (1 : Int32))]) (S' := [.int ((I 55 1) - (1 : Int32)), .int (I 69 0)]) (σ' := (97, I, J, R)) rfl ?_
        refine az_E.br (c := ((I 55 1) - (1 : Int32)) < (I 69 0)) (tt := 14) (ff := 10) (L' := [.int (I 69 0), .int (0 : Int32), .int ((I 55 1) - (1 : Int32))]) (S' := []) (σ' := (97, I, J, R)) rfl (fun hc_73 => ?_) (fun hc_73 => ?_)
        · rw [if_pos hc_73] at h
          refine az_E.sn 1 (pc' := 15) (L' := [.int (I 69 0), .int (0 : Int32), .int ((I 55 1) - (1 : Int32))]) (S' := [.int (0 : Int32)]) (σ' := (97, I, J, R)) rfl ?_
          refine az_E.ret (v := some (.int (0 : Int32))) (σ' := (97, I, J, R)) rfl ?_
          show az_E az_F ex 1 2 11 [.ref 55, .int (I 69 0)] [.int (0 : Int32)] (97, I, J, R) _
          refine az_E.ret (v := some (.int (0 : Int32))) (σ' := (97, I, J, R)) rfl ?_
          show az_E az_F ex 2 129 47 [.ref 3, .retAddr 0, .int v2, .ref 69] [.int (0 : Int32)] (97, I, J, R) _
          refine az_E.br (c := (0 : Int32) = 0) (tt := 69) (ff := 50) (L' := [.ref 3, .retAddr 0, .int v2, .ref 69]) (S' := []) (σ' := (97, I, J, R)) rfl (fun _ => ?_) (fun hn => absurd (by decide) hn)
          refine az_E.sn 1 (pc' := 71) (L' := [.ref 3, .retAddr 0, .int v2, .ref 69]) (S' := [.int (-12 : Int32)]) (σ' := (97, I, J, R)) rfl ?_
          have h := Option.some.inj h
          subst h
          exact az_E.ret (v := some (.int (-12 : Int32))) (σ' := (97, I, J, R)) rfl hQ
        · rw [if_neg hc_73] at h
          refine az_E.sn 2 (pc' := 15) (L' := [.int (I 69 0), .int (0 : Int32), .int ((I 55 1) - (1 : Int32))]) (S' := [.int (1 : Int32)]) (σ' := (97, I, J, R)) rfl ?_
          refine az_E.ret (v := some (.int (1 : Int32))) (σ' := (97, I, J, R)) rfl ?_
          show az_E az_F ex 1 2 11 [.ref 55, .int (I 69 0)] [.int (1 : Int32)] (97, I, J, R) _
          refine az_E.ret (v := some (.int (1 : Int32))) (σ' := (97, I, J, R)) rfl ?_
          show az_E az_F ex 2 129 47 [.ref 3, .retAddr 0, .int v2, .ref 69] [.int (1 : Int32)] (97, I, J, R) _
          refine az_E.br (c := (1 : Int32) = 0) (tt := 69) (ff := 50) (L' := [.ref 3, .retAddr 0, .int v2, .ref 69]) (S' := []) (σ' := (97, I, J, R)) rfl (fun hn => absurd hn (by decide)) (fun _ => ?_)
          refine az_E.sn 5 (pc' := 61) (L' := [.ref 3, .retAddr 0, .int v2, .ref 69]) (S' := [.int (I 69 0), .ref 56]) (σ' := (97, I, J, R)) rfl ?_
          by_cases hc_74 : (I 69 0) < 0 ∨ 50 ≤ (I 69 0).toNatClampNeg
          · rw [if_pos hc_74] at h; cases h
          · rw [if_neg hc_74] at h
            refine az_E.oi (o := az_ai az_F ex (97, I, J, R) 56 (I 69 0)) (pc' := 62) (L' := [.ref 3, .retAddr 0, .int v2, .ref 69]) (S' := []) (σ' := (97, I, J, R)) (x := (I 56 (I 69 0).toNatClampNeg)) rfl (if_neg hc_74) ?_
            refine az_E.sn 1 (pc' := 63) (L' := [.ref 3, .retAddr 0, .int v2, .ref 69]) (S' := [.int v2, .int (I 56 (I 69 0).toNatClampNeg)]) (σ' := (97, I, J, R)) rfl ?_
            cases hx_76 : rs_Bd_isUnder ex I (I 56 (I 69 0).toNatClampNeg) v2 with
            | none => rw [hx_76] at h; cases h
            | some x_75 =>
              rw [hx_76] at h
              dsimp only at h
              refine az_E.call (d := 1) (k' := 3) (vs := [.int (I 56 (I 69 0).toNatClampNeg), .int v2]) (pc' := 66) (S' := []) (Q1 := fun v s => v = some (.int x_75) ∧ s = (97, I, J, R)) rfl (az_E.deep (by omega) (re_Bd_isUnder (J := J) (R := R)  hx_76 ⟨rfl, rfl⟩)) (fun v s hq => ?_)
              obtain ⟨rfl, rfl⟩ := hq
              show az_E az_F ex 2 129 66 [.ref 3, .retAddr 0, .int v2, .ref 69] [.int x_75] (97, I, J, R) _
              refine az_E.br (c := x_75 = 0) (tt := 69) (ff := 72) (L' := [.ref 3, .retAddr 0, .int v2, .ref 69]) (S' := []) (σ' := (97, I, J, R)) rfl (fun hc_77 => ?_) (fun hc_77 => ?_)
              · rw [if_pos hc_77] at h
                refine az_E.sn 1 (pc' := 71) (L' := [.ref 3, .retAddr 0, .int v2, .ref 69]) (S' := [.int (-12 : Int32)]) (σ' := (97, I, J, R)) rfl ?_
                have h := Option.some.inj h
                subst h
                exact az_E.ret (v := some (.int (-12 : Int32))) (σ' := (97, I, J, R)) rfl hQ
              · rw [if_neg hc_77] at h
                refine az_E.sn 5 (pc' := 83) (L' := [.ref 3, .retAddr 0, .int v2, .ref 69]) (S' := [.int (I 69 0), .ref 56]) (σ' := (97, I, J, R)) rfl ?_
                by_cases hc_78 : (I 69 0) < 0 ∨ 50 ≤ (I 69 0).toNatClampNeg
                · rw [if_pos hc_78] at h; cases h
                · rw [if_neg hc_78] at h
                  refine az_E.oi (o := az_ai az_F ex (97, I, J, R) 56 (I 69 0)) (pc' := 84) (L' := [.ref 3, .retAddr 0, .int v2, .ref 69]) (S' := []) (σ' := (97, I, J, R)) (x := (I 56 (I 69 0).toNatClampNeg)) rfl (if_neg hc_78) ?_
                  have h := Option.some.inj h
                  subst h
                  exact az_E.ret (v := some (.int (I 56 (I 69 0).toNatClampNeg))) (σ' := (97, I, J, R)) rfl hQ
  · rw [if_neg hc_70] at h
    refine az_E.sn 1 (pc' := 21) (L' := [.ref 69]) (S' := [.int (0 : Int32)]) (σ' := (97, I, J, R)) rfl ?_
    refine az_E.ret (v := some (.int (0 : Int32))) (σ' := (97, I, J, R)) rfl ?_
    show az_E az_F ex 2 129 30 [.ref 3, .retAddr 0, .int v2, .ref 69] [.int (0 : Int32)] (97, I, J, R) _
    refine az_E.br (c := (0 : Int32) = 0) (tt := 36) (ff := 33) (L' := [.ref 3, .retAddr 0, .int v2, .ref 69]) (S' := []) (σ' := (97, I, J, R)) rfl (fun _ => ?_) (fun hn => absurd (by decide) hn)
    refine az_E.sn 4 (pc' := 44) (L' := [.ref 3, .retAddr 0, .int v2, .ref 69]) (S' := [.int (I 69 0), .ref 55]) (σ' := (97, I, J, R)) rfl ?_
    refine az_E.call (d := 1) (k' := 2) (vs := [.ref 55, .int (I 69 0)]) (pc' := 47) (S' := []) rfl ?_ (fun _ _ hq => hq)
    show az_E az_F ex 1 2 0 [.ref 55, .int (I 69 0)] [] (97, I, J, R) _
    refine az_E.sn 6 (pc' := 8) (L' := [.ref 55, .int (I 69 0)]) (S' := [.int ((I 55 1) - (1 : Int32)), .int (0 : Int32), .int (I 69 0)]) (σ' := (97, I, J, R)) rfl ?_
    refine az_E.call (d := 0) (k' := 131) (vs := [.int (I 69 0), .int (0 : Int32), .int ((I 55 1) - (1 : Int32))]) (pc' := 11) (S' := []) rfl ?_ (fun _ _ hq => hq)
    show az_E az_F ex 0 131 0 [.int (I 69 0), .int (0 : Int32), .int ((I 55 1) - (1 : Int32))] [] (97, I, J, R) _
    refine az_E.sn 2 (pc' := 2) (L' := [.int (I 69 0), .int (0 : Int32), .int ((I 55 1) - (1 : Int32))]) (S' := [.int (0 : Int32), .int (I 69 0)]) (σ' := (97, I, J, R)) rfl ?_
    refine az_E.br (c := (I 69 0) < (0 : Int32)) (tt := 14) (ff := 5) (L' := [.int (I 69 0), .int (0 : Int32), .int ((I 55 1) - (1 : Int32))]) (S' := []) (σ' := (97, I, J, R)) rfl (fun hc_79 => ?_) (fun hc_79 => ?_)
    · rw [if_pos hc_79] at h
      refine az_E.sn 1 (pc' := 15) (L' := [.int (I 69 0), .int (0 : Int32), .int ((I 55 1) - (1 : Int32))]) (S' := [.int (0 : Int32)]) (σ' := (97, I, J, R)) rfl ?_
      refine az_E.ret (v := some (.int (0 : Int32))) (σ' := (97, I, J, R)) rfl ?_
      show az_E az_F ex 1 2 11 [.ref 55, .int (I 69 0)] [.int (0 : Int32)] (97, I, J, R) _
      refine az_E.ret (v := some (.int (0 : Int32))) (σ' := (97, I, J, R)) rfl ?_
      show az_E az_F ex 2 129 47 [.ref 3, .retAddr 0, .int v2, .ref 69] [.int (0 : Int32)] (97, I, J, R) _
      refine az_E.br (c := (0 : Int32) = 0) (tt := 69) (ff := 50) (L' := [.ref 3, .retAddr 0, .int v2, .ref 69]) (S' := []) (σ' := (97, I, J, R)) rfl (fun _ => ?_) (fun hn => absurd (by decide) hn)
      refine az_E.sn 1 (pc' := 71) (L' := [.ref 3, .retAddr 0, .int v2, .ref 69]) (S' := [.int (-12 : Int32)]) (σ' := (97, I, J, R)) rfl ?_
      have h := Option.some.inj h
      subst h
      exact az_E.ret (v := some (.int (-12 : Int32))) (σ' := (97, I, J, R)) rfl hQ
    · rw [if_neg hc_79] at h
      refine az_E.sn 2 (pc' := 7) (L' := [.int (I 69 0), .int (0 : Int32), .int ((I 55 1) - (1 : Int32))]) (S' := [.int ((I 55 1) - (1 : Int32)), .int (I 69 0)]) (σ' := (97, I, J, R)) rfl ?_
      refine az_E.br (c := ((I 55 1) - (1 : Int32)) < (I 69 0)) (tt := 14) (ff := 10) (L' := [.int (I 69 0), .int (0 : Int32), .int ((I 55 1) - (1 : Int32))]) (S' := []) (σ' := (97, I, J, R)) rfl (fun hc_80 => ?_) (fun hc_80 => ?_)
      · rw [if_pos hc_80] at h
        refine az_E.sn 1 (pc' := 15) (L' := [.int (I 69 0), .int (0 : Int32), .int ((I 55 1) - (1 : Int32))]) (S' := [.int (0 : Int32)]) (σ' := (97, I, J, R)) rfl ?_
        refine az_E.ret (v := some (.int (0 : Int32))) (σ' := (97, I, J, R)) rfl ?_
        show az_E az_F ex 1 2 11 [.ref 55, .int (I 69 0)] [.int (0 : Int32)] (97, I, J, R) _
        refine az_E.ret (v := some (.int (0 : Int32))) (σ' := (97, I, J, R)) rfl ?_
        show az_E az_F ex 2 129 47 [.ref 3, .retAddr 0, .int v2, .ref 69] [.int (0 : Int32)] (97, I, J, R) _
        refine az_E.br (c := (0 : Int32) = 0) (tt := 69) (ff := 50) (L' := [.ref 3, .retAddr 0, .int v2, .ref 69]) (S' := []) (σ' := (97, I, J, R)) rfl (fun _ => ?_) (fun hn => absurd (by decide) hn)
        refine az_E.sn 1 (pc' := 71) (L' := [.ref 3, .retAddr 0, .int v2, .ref 69]) (S' := [.int (-12 : Int32)]) (σ' := (97, I, J, R)) rfl ?_
        have h := Option.some.inj h
        subst h
        exact az_E.ret (v := some (.int (-12 : Int32))) (σ' := (97, I, J, R)) rfl hQ
      · rw [if_neg hc_80] at h
        refine az_E.sn 2 (pc' := 15) (L' := [.int (I 69 0), .int (0 : Int32), .int ((I 55 1) - (1 : Int32))]) (S' := [.int (1 : Int32)]) (σ' := (97, I, J, R)) rfl ?_
        refine az_E.ret (v := some (.int (1 : Int32))) (σ' := (97, I, J, R)) rfl ?_
        show az_E az_F ex 1 2 11 [.ref 55, .int (I 69 0)] [.int (1 : Int32)] (97, I, J, R) _
        refine az_E.ret (v := some (.int (1 : Int32))) (σ' := (97, I, J, R)) rfl ?_
        show az_E az_F ex 2 129 47 [.ref 3, .retAddr 0, .int v2, .ref 69] [.int (1 : Int32)] (97, I, J, R) _
        refine az_E.br (c := (1 : Int32) = 0) (tt := 69) (ff := 50) (L' := [.ref 3, .retAddr 0, .int v2, .ref 69]) (S' := []) (σ' := (97, I, J, R)) rfl (fun hn => absurd hn (by decide)) (fun _ => ?_)
        refine az_E.sn 5 (pc' := 61) (L' := [.ref 3, .retAddr 0, .int v2, .ref 69]) (S' := [.int (I 69 0), .ref 56]) (σ' := (97, I, J, R)) rfl ?_
        by_cases hc_81 : (I 69 0) < 0 ∨ 50 ≤ (I 69 0).toNatClampNeg
        · rw [if_pos hc_81] at h; cases h
        · rw [if_neg hc_81] at h
          refine az_E.oi (o := az_ai az_F ex (97, I, J, R) 56 (I 69 0)) (pc' := 62) (L' := [.ref 3, .retAddr 0, .int v2, .ref 69]) (S' := []) (σ' := (97, I, J, R)) (x := (I 56 (I 69 0).toNatClampNeg)) rfl (if_neg hc_81) ?_
          refine az_E.sn 1 (pc' := 63) (L' := [.ref 3, .retAddr 0, .int v2, .ref 69]) (S' := [.int v2, .int (I 56 (I 69 0).toNatClampNeg)]) (σ' := (97, I, J, R)) rfl ?_
          cases hx_83 : rs_Bd_isUnder ex I (I 56 (I 69 0).toNatClampNeg) v2 with
          | none => rw [hx_83] at h; cases h
          | some x_82 =>
            rw [hx_83] at h
            dsimp only at h
            refine az_E.call (d := 1) (k' := 3) (vs := [.int (I 56 (I 69 0).toNatClampNeg), .int v2]) (pc' := 66) (S' := []) (Q1 := fun v s => v = some (.int x_82) ∧ s = (97, I, J, R)) rfl (az_E.deep (by omega) (re_Bd_isUnder (J := J) (R := R)  hx_83 ⟨rfl, rfl⟩)) (fun v s hq => ?_)
            obtain ⟨rfl, rfl⟩ := hq
            show az_E az_F ex 2 129 66 [.ref 3, .retAddr 0, .int v2, .ref 69] [.int x_82] (97, I, J, R) _
            refine az_E.br (c := x_82 = 0) (tt := 69) (ff := 72) (L' := [.ref 3, .retAddr 0, .int v2, .ref 69]) (S' := []) (σ' := (97, I, J, R)) rfl (fun hc_84 => ?_) (fun hc_84 => ?_)
            · rw [if_pos hc_84] at h
              refine az_E.sn 1 (pc' := 71) (L' := [.ref 3, .retAddr 0, .int v2, .ref 69]) (S' := [.int (-12 : Int32)]) (σ' := (97, I, J, R)) rfl ?_
              have h := Option.some.inj h
              subst h
              exact az_E.ret (v := some (.int (-12 : Int32))) (σ' := (97, I, J, R)) rfl hQ
            · rw [if_neg hc_84] at h
              refine az_E.sn 5 (pc' := 83) (L' := [.ref 3, .retAddr 0, .int v2, .ref 69]) (S' := [.int (I 69 0), .ref 56]) (σ' := (97, I, J, R)) rfl ?_
              by_cases hc_85 : (I 69 0) < 0 ∨ 50 ≤ (I 69 0).toNatClampNeg
              · rw [if_pos hc_85] at h; cases h
              · rw [if_neg hc_85] at h
                refine az_E.oi (o := az_ai az_F ex (97, I, J, R) 56 (I 69 0)) (pc' := 84) (L' := [.ref 3, .retAddr 0, .int v2, .ref 69]) (S' := []) (σ' := (97, I, J, R)) (x := (I 56 (I 69 0).toNatClampNeg)) rfl (if_neg hc_85) ?_
                have h := Option.some.inj h
                subst h
                exact az_E.ret (v := some (.int (I 56 (I 69 0).toNatClampNeg))) (σ' := (97, I, J, R)) rfl hQ
set_option maxRecDepth 100000 in
set_option maxHeartbeats 4000000 in
theorem re_X_taken_25_71 {ex : az_X} {I : Nat → Nat → Int32} {J : Nat → Nat → Int64} {R : Nat → Nat → Option Nat} {v2 : Int32} {x : Int32} (h : rs_X_taken_25 71 ex I v2 = some x) {Q : Option Value → az_S → Prop} (hQ : Q (some (.int x)) (97, I, J, R)) : az_E az_F ex 2 129 25 [.ref 3, .retAddr 0, .int v2, .retAddr 0] [.ref 71] (97, I, J, R) Q := by
  unfold rs_X_taken_25 at h
  refine az_E.sn 2 (pc' := 27) (L' := [.ref 3, .retAddr 0, .int v2, .ref 71]) (S' := [.ref 71]) (σ' := (97, I, J, R)) rfl ?_
  refine az_E.call (d := 1) (k' := 54) (vs := [.ref 71]) (pc' := 30) (S' := []) rfl ?_ (fun _ _ hq => hq)
  show az_E az_F ex 1 54 0 [.ref 71] [] (97, I, J, R) _
  refine az_E.sn 3 (pc' := 5) (L' := [.ref 71]) (S' := [.int (-1 : Int32), .int (I 71 0)]) (σ' := (97, I, J, R)) rfl ?_
  refine az_E.br (c := (I 71 0) = (-1 : Int32)) (tt := 8) (ff := 20) (L' := [.ref 71]) (S' := []) (σ' := (97, I, J, R)) rfl (fun hc_86 => ?_) (fun hc_86 => ?_)
  · rw [if_pos hc_86] at h
    refine az_E.sn 3 (pc' := 13) (L' := [.ref 71]) (S' := [.int (-1 : Int32), .int (I 71 1)]) (σ' := (97, I, J, R)) rfl ?_
    refine az_E.br (c := (I 71 1) = (-1 : Int32)) (tt := 16) (ff := 20) (L' := [.ref 71]) (S' := []) (σ' := (97, I, J, R)) rfl (fun hc_87 => ?_) (fun hc_87 => ?_)
    · rw [if_pos hc_87] at h
      refine az_E.sn 2 (pc' := 21) (L' := [.ref 71]) (S' := [.int (1 : Int32)]) (σ' := (97, I, J, R)) rfl ?_
      refine az_E.ret (v := some (.int (1 : Int32))) (σ' := (97, I, J, R)) rfl ?_
      show az_E az_F ex 2 129 30 [.ref 3, .retAddr 0, .int v2, .ref 71] [.int (1 : Int32)] (97, I, J, R) _
      refine az_E.br (c := (1 : Int32) = 0) (tt := 36) (ff := 33) (L' := [.ref 3, .retAddr 0, .int v2, .ref 71]) (S' := []) (σ' := (97, I, J, R)) rfl (fun hn => absurd hn (by decide)) (fun _ => ?_)
      refine az_E.sn 1 (pc' := 35) (L' := [.ref 3, .retAddr 0, .int v2, .ref 71]) (S' := [.int (-11 : Int32)]) (σ' := (97, I, J, R)) rfl ?_
      have h := Option.some.inj h
      subst h
      exact az_E.ret (v := some (.int (-11 : Int32))) (σ' := (97, I, J, R)) rfl hQ
    · rw [if_neg hc_87] at h
      refine az_E.sn 1 (pc' := 21) (L' := [.ref 71]) (S' := [.int (0 : Int32)]) (σ' := (97, I, J, R)) rfl ?_
      refine az_E.ret (v := some (.int (0 : Int32))) (σ' := (97, I, J, R)) rfl ?_
      show az_E az_F ex 2 129 30 [.ref 3, .retAddr 0, .int v2, .ref 71] [.int (0 : Int32)] (97, I, J, R) _
      refine az_E.br (c := (0 : Int32) = 0) (tt := 36) (ff := 33) (L' := [.ref 3, .retAddr 0, .int v2, .ref 71]) (S' := []) (σ' := (97, I, J, R)) rfl (fun _ => ?_) (fun hn => absurd (by decide) hn)
      refine az_E.sn 4 (pc' := 44) (L' := [.ref 3, .retAddr 0, .int v2, .ref 71]) (S' := [.int (I 71 0), .ref 55]) (σ' := (97, I, J, R)) rfl ?_
      refine az_E.call (d := 1) (k' := 2) (vs := [.ref 55, .int (I 71 0)]) (pc' := 47) (S' := []) rfl ?_ (fun _ _ hq => hq)
      show az_E az_F ex 1 2 0 [.ref 55, .int (I 71 0)] [] (97, I, J, R) _
      refine az_E.sn 6 (pc' := 8) (L' := [.ref 55, .int (I 71 0)]) (S' := [.int ((I 55 1) - (1 : Int32)), .int (0 : Int32), .int (I 71 0)]) (σ' := (97, I, J, R)) rfl ?_
      refine az_E.call (d := 0) (k' := 131) (vs := [.int (I 71 0), .int (0 : Int32), .int ((I 55 1) - (1 : Int32))]) (pc' := 11) (S' := []) rfl ?_ (fun _ _ hq => hq)
      show az_E az_F ex 0 131 0 [.int (I 71 0), .int (0 : Int32), .int ((I 55 1) - (1 : Int32))] [] (97, I, J, R) _
      refine az_E.sn 2 (pc' := 2) (L' := [.int (I 71 0), .int (0 : Int32), .int ((I 55 1) - (1 : Int32))]) (S' := [.int (0 : Int32), .int (I 71 0)]) (σ' := (97, I, J, R)) rfl ?_
      refine az_E.br (c := (I 71 0) < (0 : Int32)) (tt := 14) (ff := 5) (L' := [.int (I 71 0), .int (0 : Int32), .int ((I 55 1) - (1 : Int32))]) (S' := []) (σ' := (97, I, J, R)) rfl (fun hc_88 => ?_) (fun hc_88 => ?_)
      · rw [if_pos hc_88] at h
        refine az_E.sn 1 (pc' := 15) (L' := [.int (I 71 0), .int (0 : Int32), .int ((I 55 1) - (1 : Int32))]) (S' := [.int (0 : Int32)]) (σ' := (97, I, J, R)) rfl ?_
        refine az_E.ret (v := some (.int (0 : Int32))) (σ' := (97, I, J, R)) rfl ?_
        show az_E az_F ex 1 2 11 [.ref 55, .int (I 71 0)] [.int (0 : Int32)] (97, I, J, R) _
        refine az_E.ret (v := some (.int (0 : Int32))) (σ' := (97, I, J, R)) rfl ?_
        show az_E az_F ex 2 129 47 [.ref 3, .retAddr 0, .int v2, .ref 71] [.int (0 : Int32)] (97, I, J, R) _
        refine az_E.br (c := (0 : Int32) = 0) (tt := 69) (ff := 50) (L' := [.ref 3, .retAddr 0, .int v2, .ref 71]) (S' := []) (σ' := (97, I, J, R)) rfl (fun _ => ?_) (fun hn => absurd (by decide) hn)
        refine az_E.sn 1 (pc' := 71) (L' := [.ref 3, .retAddr 0, .int v2, .ref 71]) (S' := [.int (-12 : Int32)]) (σ' := (97, I, J, R)) rfl ?_
        have h := Option.some.inj h
        subst h
        exact az_E.ret (v := some (.int (-12 : Int32))) (σ' := (97, I, J, R)) rfl hQ
      · rw [if_neg hc_88] at h
        refine az_E.sn 2 (pc' := 7) (L' := [.int (I 71 0), .int (0 : Int32), .int ((I 55 1) - (1 : Int32))]) (S' := [.int ((I 55 1) - (1 : Int32)), .int (I 71 0)]) (σ' := (97, I, J, R)) rfl ?_
        refine az_E.br (c := ((I 55 1) - (1 : Int32)) < (I 71 0)) (tt := 14) (ff := 10) (L' := [.int (I 71 0), .int (0 : Int32), .int ((I 55 1) - (1 : Int32))]) (S' := []) (σ' := (97, I, J, R)) rfl (fun hc_89 => ?_) (fun hc_89 => ?_)
        · rw [if_pos hc_89] at h
          refine az_E.sn 1 (pc' := 15) (L' := [.int (I 71 0), .int (0 : Int32), .int ((I 55 1) - (1 : Int32))]) (S' := [.int (0 : Int32)]) (σ' := (97, I, J, R)) rfl ?_
          refine az_E.ret (v := some (.int (0 : Int32))) (σ' := (97, I, J, R)) rfl ?_
          show az_E az_F ex 1 2 11 [.ref 55, .int (I 71 0)] [.int (0 : Int32)] (97, I, J, R) _
          refine az_E.ret (v := some (.int (0 : Int32))) (σ' := (97, I, J, R)) rfl ?_
          show az_E az_F ex 2 129 47 [.ref 3, .retAddr 0, .int v2, .ref 71] [.int (0 : Int32)] (97, I, J, R) _
          refine az_E.br (c := (0 : Int32) = 0) (tt := 69) (ff := 50) (L' := [.ref 3, .retAddr 0, .int v2, .ref 71]) (S' := []) (σ' := (97, I, J, R)) rfl (fun _ => ?_) (fun hn => absurd (by decide) hn)
          refine az_E.sn 1 (pc' := 71) (L' := [.ref 3, .retAddr 0, .int v2, .ref 71]) (S' := [.int (-12 : Int32)]) (σ' := (97, I, J, R)) rfl ?_
          have h := Option.some.inj h
          subst h
          exact az_E.ret (v := some (.int (-12 : Int32))) (σ' := (97, I, J, R)) rfl hQ
        · rw [if_neg hc_89] at h
          refine az_E.sn 2 (pc' := 15) (L' := [.int (I 71 0), .int (0 : Int32), .int ((I 55 1) - (1 : Int32))]) (S' := [.int (1 : Int32)]) (σ' := (97, I, J, R)) rfl ?_
          refine az_E.ret (v := some (.int (1 : Int32))) (σ' := (97, I, J, R)) rfl ?_
          show az_E az_F ex 1 2 11 [.ref 55, .int (I 71 0)] [.int (1 : Int32)] (97, I, J, R) _
          refine az_E.ret (v := some (.int (1 : Int32))) (σ' := (97, I, J, R)) rfl ?_
          show az_E az_F ex 2 129 47 [.ref 3, .retAddr 0, .int v2, .ref 71] [.int (1 : Int32)] (97, I, J, R) _
          refine az_E.br (c := (1 : Int32) = 0) (tt := 69) (ff := 50) (L' := [.ref 3, .retAddr 0, .int v2, .ref 71]) (S' := []) (σ' := (97, I, J, R)) rfl (fun hn => absurd hn (by decide)) (fun _ => ?_)
          refine az_E.sn 5 (pc' := 61) (L' := [.ref 3, .retAddr 0, .int v2, .ref 71]) (S' := [.int (I 71 0), .ref 56]) (σ' := (97, I, J, R)) rfl ?_
          by_cases hc_90 : (I 71 0) < 0 ∨ 50 ≤ (I 71 0).toNatClampNeg
          · rw [if_pos hc_90] at h; cases h
          · rw [if_neg hc_90] at h
            refine az_E.oi (o := az_ai az_F ex (97, I, J, R) 56 (I 71 0)) (pc' := 62) (L' := [.ref 3, .retAddr 0, .int v2, .ref 71]) (S' := []) (σ' := (97, I, J, R)) (x := (I 56 (I 71 0).toNatClampNeg)) rfl (if_neg hc_90) ?_
            refine az_E.sn 1 (pc' := 63) (L' := [.ref 3, .retAddr 0, .int v2, .ref 71]) (S' := [.int v2, .int (I 56 (I 71 0).toNatClampNeg)]) (σ' := (97, I, J, R)) rfl ?_
            cases hx_92 : rs_Bd_isUnder ex I (I 56 (I 71 0).toNatClampNeg) v2 with
            | none => rw [hx_92] at h; cases h
            | some x_91 =>
              rw [hx_92] at h
              dsimp only at h
              refine az_E.call (d := 1) (k' := 3) (vs := [.int (I 56 (I 71 0).toNatClampNeg), .int v2]) (pc' := 66) (S' := []) (Q1 := fun v s => v = some (.int x_91) ∧ s = (97, I, J, R)) rfl (az_E.deep (by omega) (re_Bd_isUnder (J := J) (R := R)  hx_92 ⟨rfl, rfl⟩)) (fun v s hq => ?_)
              obtain ⟨rfl, rfl⟩ := hq
              show az_E az_F ex 2 129 66 [.ref 3, .retAddr 0, .int v2, .ref 71] [.int x_91] (97, I, J, R) _
              refine az_E.br (c := x_91 = 0) (tt := 69) (ff := 72) (L' := [.ref 3, .retAddr 0, .int v2, .ref 71]) (S' := []) (σ' := (97, I, J, R)) rfl (fun hc_93 => ?_) (fun hc_93 => ?_)
              · rw [if_pos hc_93] at h
                refine az_E.sn 1 (pc' := 71) (L' := [.ref 3, .retAddr 0, .int v2, .ref 71]) (S' := [.int (-12 : Int32)]) (σ' := (97, I, J, R)) rfl ?_
                have h := Option.some.inj h
                subst h
                exact az_E.ret (v := some (.int (-12 : Int32))) (σ' := (97, I, J, R)) rfl hQ
              · rw [if_neg hc_93] at h
                refine az_E.sn 5 (pc' := 83) (L' := [.ref 3, .retAddr 0, .int v2, .ref 71]) (S' := [.int (I 71 0), .ref 56]) (σ' := (97, I, J, R)) rfl ?_
                by_cases hc_94 : (I 71 0) < 0 ∨ 50 ≤ (I 71 0).toNatClampNeg
                · rw [if_pos hc_94] at h; cases h
                · rw [if_neg hc_94] at h
                  refine az_E.oi (o := az_ai az_F ex (97, I, J, R) 56 (I 71 0)) (pc' := 84) (L' := [.ref 3, .retAddr 0, .int v2, .ref 71]) (S' := []) (σ' := (97, I, J, R)) (x := (I 56 (I 71 0).toNatClampNeg)) rfl (if_neg hc_94) ?_
                  have h := Option.some.inj h
                  subst h
                  exact az_E.ret (v := some (.int (I 56 (I 71 0).toNatClampNeg))) (σ' := (97, I, J, R)) rfl hQ
  · rw [if_neg hc_86] at h
    refine az_E.sn 1 (pc' := 21) (L' := [.ref 71]) (S' := [.int (0 : Int32)]) (σ' := (97, I, J, R)) rfl ?_
    refine az_E.ret (v := some (.int (0 : Int32))) (σ' := (97, I, J, R)) rfl ?_
    show az_E az_F ex 2 129 30 [.ref 3, .retAddr 0, .int v2, .ref 71] [.int (0 : Int32)] (97, I, J, R) _
    refine az_E.br (c := (0 : Int32) = 0) (tt := 36) (ff := 33) (L' := [.ref 3, .retAddr 0, .int v2, .ref 71]) (S' := []) (σ' := (97, I, J, R)) rfl (fun _ => ?_) (fun hn => absurd (by decide) hn)
    refine az_E.sn 4 (pc' := 44) (L' := [.ref 3, .retAddr 0, .int v2, .ref 71]) (S' := [.int (I 71 0), .ref 55]) (σ' := (97, I, J, R)) rfl ?_
    refine az_E.call (d := 1) (k' := 2) (vs := [.ref 55, .int (I 71 0)]) (pc' := 47) (S' := []) rfl ?_ (fun _ _ hq => hq)
    show az_E az_F ex 1 2 0 [.ref 55, .int (I 71 0)] [] (97, I, J, R) _
    refine az_E.sn 6 (pc' := 8) (L' := [.ref 55, .int (I 71 0)]) (S' := [.int ((I 55 1) - (1 : Int32)), .int (0 : Int32), .int (I 71 0)]) (σ' := (97, I, J, R)) rfl ?_
    refine az_E.call (d := 0) (k' := 131) (vs := [.int (I 71 0), .int (0 : Int32), .int ((I 55 1) - (1 : Int32))]) (pc' := 11) (S' := []) rfl ?_ (fun _ _ hq => hq)
    show az_E az_F ex 0 131 0 [.int (I 71 0), .int (0 : Int32), .int ((I 55 1) - (1 : Int32))] [] (97, I, J, R) _
    refine az_E.sn 2 (pc' := 2) (L' := [.int (I 71 0), .int (0 : Int32), .int ((I 55 1) - (1 : Int32))]) (S' := [.int (0 : Int32), .int (I 71 0)]) (σ' := (97, I, J, R)) rfl ?_
    refine az_E.br (c := (I 71 0) < (0 : Int32)) (tt := 14) (ff := 5) (L' := [.int (I 71 0), .int (0 : Int32), .int ((I 55 1) - (1 : Int32))]) (S' := []) (σ' := (97, I, J, R)) rfl (fun hc_95 => ?_) (fun hc_95 => ?_)
    · rw [if_pos hc_95] at h
      refine az_E.sn 1 (pc' := 15) (L' := [.int (I 71 0), .int (0 : Int32), .int ((I 55 1) - (1 : Int32))]) (S' := [.int (0 : Int32)]) (σ' := (97, I, J, R)) rfl ?_
      refine az_E.ret (v := some (.int (0 : Int32))) (σ' := (97, I, J, R)) rfl ?_
      show az_E az_F ex 1 2 11 [.ref 55, .int (I 71 0)] [.int (0 : Int32)] (97, I, J, R) _
      refine az_E.ret (v := some (.int (0 : Int32))) (σ' := (97, I, J, R)) rfl ?_
      show az_E az_F ex 2 129 47 [.ref 3, .retAddr 0, .int v2, .ref 71] [.int (0 : Int32)] (97, I, J, R) _
      refine az_E.br (c := (0 : Int32) = 0) (tt := 69) (ff := 50) (L' := [.ref 3, .retAddr 0, .int v2, .ref 71]) (S' := []) (σ' := (97, I, J, R)) rfl (fun _ => ?_) (fun hn => absurd (by decide) hn)
      refine az_E.sn 1 (pc' := 71) (L' := [.ref 3, .retAddr 0, .int v2, .ref 71]) (S' := [.int (-12 : Int32)]) (σ' := (97, I, J, R)) rfl ?_
      have h := Option.some.inj h
      subst h
      exact az_E.ret (v := some (.int (-12 : Int32))) (σ' := (97, I, J, R)) rfl hQ
    · rw [if_neg hc_95] at h
      refine az_E.sn 2 (pc' := 7) (L' := [.int (I 71 0), .int (0 : Int32), .int ((I 55 1) - (1 : Int32))]) (S' := [.int ((I 55 1) - (1 : Int32)), .int (I 71 0)]) (σ' := (97, I, J, R)) rfl ?_
      refine az_E.br (c := ((I 55 1) - (1 : Int32)) < (I 71 0)) (tt := 14) (ff := 10) (L' := [.int (I 71 0), .int (0 : Int32), .int ((I 55 1) - (1 : Int32))]) (S' := []) (σ' := (97, I, J, R)) rfl (fun hc_96 => ?_) (fun hc_96 => ?_)
      · rw [if_pos hc_96] at h
        refine az_E.sn 1 (pc' := 15) (L' := [.int (I 71 0), .int (0 : Int32), .int ((I 55 1) - (1 : Int32))]) (S' := [.int (0 : Int32)]) (σ' := (97, I, J, R)) rfl ?_
        refine az_E.ret (v := some (.int (0 : Int32))) (σ' := (97, I, J, R)) rfl ?_
        show az_E az_F ex 1 2 11 [.ref 55, .int (I 71 0)] [.int (0 : Int32)] (97, I, J, R) _
        refine az_E.ret (v := some (.int (0 : Int32))) (σ' := (97, I, J, R)) rfl ?_
        show az_E az_F ex 2 129 47 [.ref 3, .retAddr 0, .int v2, .ref 71] [.int (0 : Int32)] (97, I, J, R) _
        refine az_E.br (c := (0 : Int32) = 0) (tt := 69) (ff := 50) (L' := [.ref 3, .retAddr 0, .int v2, .ref 71]) (S' := []) (σ' := (97, I, J, R)) rfl (fun _ => ?_) (fun hn => absurd (by decide) hn)
        refine az_E.sn 1 (pc' := 71) (L' := [.ref 3, .retAddr 0, .int v2, .ref 71]) (S' := [.int (-12 : Int32)]) (σ' := (97, I, J, R)) rfl ?_
        have h := Option.some.inj h
        subst h
        exact az_E.ret (v := some (.int (-12 : Int32))) (σ' := (97, I, J, R)) rfl hQ
      · rw [if_neg hc_96] at h
        refine az_E.sn 2 (pc' := 15) (L' := [.int (I 71 0), .int (0 : Int32), .int ((I 55 1) - (1 : Int32))]) (S' := [.int (1 : Int32)]) (σ' := (97, I, J, R)) rfl ?_
        refine az_E.ret (v := some (.int (1 : Int32))) (σ' := (97, I, J, R)) rfl ?_
        show az_E az_F ex 1 2 11 [.ref 55, .int (I 71 0)] [.int (1 : Int32)] (97, I, J, R) _
        refine az_E.ret (v := some (.int (1 : Int32))) (σ' := (97, I, J, R)) rfl ?_
        show az_E az_F ex 2 129 47 [.ref 3, .retAddr 0, .int v2, .ref 71] [.int (1 : Int32)] (97, I, J, R) _
        refine az_E.br (c := (1 : Int32) = 0) (tt := 69) (ff := 50) (L' := [.ref 3, .retAddr 0, .int v2, .ref 71]) (S' := []) (σ' := (97, I, J, R)) rfl (fun hn => absurd hn (by decide)) (fun _ => ?_)
        refine az_E.sn 5 (pc' := 61) (L' := [.ref 3, .retAddr 0, .int v2, .ref 71]) (S' := [.int (I 71 0), .ref 56]) (σ' := (97, I, J, R)) rfl ?_
        by_cases hc_97 : (I 71 0) < 0 ∨ 50 ≤ (I 71 0).toNatClampNeg
        · rw [if_pos hc_97] at h; cases h
        · rw [if_neg hc_97] at h
          refine az_E.oi (o := az_ai az_F ex (97, I, J, R) 56 (I 71 0)) (pc' := 62) (L' := [.ref 3, .retAddr 0, .int v2, .ref 71]) (S' := []) (σ' := (97, I, J, R)) (x := (I 56 (I 71 0).toNatClampNeg)) rfl (if_neg hc_97) ?_
          refine az_E.sn 1 (pc' := 63) (L' := [.ref 3, .retAddr 0, .int v2, .ref 71]) (S' := [.int v2, .int (I 56 (I 71 0).toNatClampNeg)]) (σ' := (97, I, J, R)) rfl ?_
          cases hx_99 : rs_Bd_isUnder ex I (I 56 (I 71 0).toNatClampNeg) v2 with
          | none => rw [hx_99] at h; cases h
          | some x_98 =>
            rw [hx_99] at h
            dsimp only at h
            refine az_E.call (d := 1) (k' := 3) (vs := [.int (I 56 (I 71 0).toNatClampNeg), .int v2]) (pc' := 66) (S' := []) (Q1 := fun v s => v = some (.int x_98) ∧ s = (97, I, J, R)) rfl (az_E.deep (by omega) (re_Bd_isUnder (J := J) (R := R)  hx_99 ⟨rfl, rfl⟩)) (fun v s hq => ?_)
            obtain ⟨rfl, rfl⟩ := hq
            show az_E az_F ex 2 129 66 [.ref 3, .retAddr 0, .int v2, .ref 71] [.int x_98] (97, I, J, R) _
            refine az_E.br (c := x_98 = 0) (tt := 69) (ff := 72) (L' := [.ref 3, .retAddr 0, .int v2, .ref 71]) (S' := []) (σ' := (97, I, J, R)) rfl (fun hc_100 => ?_) (fun hc_100 => ?_)
            · rw [if_pos hc_100] at h
              refine az_E.sn 1 (pc' := 71) (L' := [.ref 3, .retAddr 0, .int v2, .ref 71]) (S' := [.int (-12 : Int32)]) (σ' := (97, I, J, R)) rfl ?_
              have h := Option.some.inj h
              subst h
              exact az_E.ret (v := some (.int (-12 : Int32))) (σ' := (97, I, J, R)) rfl hQ
            · rw [if_neg hc_100] at h
              refine az_E.sn 5 (pc' := 83) (L' := [.ref 3, .retAddr 0, .int v2, .ref 71]) (S' := [.int (I 71 0), .ref 56]) (σ' := (97, I, J, R)) rfl ?_
              by_cases hc_101 : (I 71 0) < 0 ∨ 50 ≤ (I 71 0).toNatClampNeg
              · rw [if_pos hc_101] at h; cases h
              · rw [if_neg hc_101] at h
                refine az_E.oi (o := az_ai az_F ex (97, I, J, R) 56 (I 71 0)) (pc' := 84) (L' := [.ref 3, .retAddr 0, .int v2, .ref 71]) (S' := []) (σ' := (97, I, J, R)) (x := (I 56 (I 71 0).toNatClampNeg)) rfl (if_neg hc_101) ?_
                have h := Option.some.inj h
                subst h
                exact az_E.ret (v := some (.int (I 56 (I 71 0).toNatClampNeg))) (σ' := (97, I, J, R)) rfl hQ
set_option maxRecDepth 100000 in
set_option maxHeartbeats 4000000 in
theorem re_X_taken {ex : az_X} {I : Nat → Nat → Int32} {J : Nat → Nat → Int64} {R : Nat → Nat → Option Nat} {a1 : Int32} {a2 : Int32} {o : Int32} (h : rs_X_taken ex I a1 a2 = some o) {Q : Option Value → az_S → Prop} (hQ : Q (some (.int o)) (97, I, J, R)) : az_E az_F ex 2 129 0 [.ref 3, .int a1, .int a2, .retAddr 0] [] (97, I, J, R) Q := by
  unfold rs_X_taken at h
  refine az_E.sn 1 (pc' := 1) (L' := [.ref 3, .int a1, .int a2, .retAddr 0]) (S' := [.int a1]) (σ' := (97, I, J, R)) rfl ?_
  refine az_E.call (d := 1) (k' := 137) (vs := [.int a1]) (pc' := 4) (S' := []) rfl ?_ (fun _ _ hq => hq)
  show az_E az_F ex 1 137 0 [.int a1] [] (97, I, J, R) _
  refine az_E.sn 3 (pc' := 3) (L' := [.int a1]) (S' := [.int (5 : Int32), .int (0 : Int32), .int a1]) (σ' := (97, I, J, R)) rfl ?_
  refine az_E.call (d := 0) (k' := 131) (vs := [.int a1, .int (0 : Int32), .int (5 : Int32)]) (pc' := 6) (S' := []) rfl ?_ (fun _ _ hq => hq)
  show az_E az_F ex 0 131 0 [.int a1, .int (0 : Int32), .int (5 : Int32)] [] (97, I, J, R) _
  refine az_E.sn 2 (pc' := 2) (L' := [.int a1, .int (0 : Int32), .int (5 : Int32)]) (S' := [.int (0 : Int32), .int a1]) (σ' := (97, I, J, R)) rfl ?_
  refine az_E.br (c := a1 < (0 : Int32)) (tt := 14) (ff := 5) (L' := [.int a1, .int (0 : Int32), .int (5 : Int32)]) (S' := []) (σ' := (97, I, J, R)) rfl (fun hc_1 => ?_) (fun hc_1 => ?_)
  · rw [if_pos hc_1] at h
    refine az_E.sn 1 (pc' := 15) (L' := [.int a1, .int (0 : Int32), .int (5 : Int32)]) (S' := [.int (0 : Int32)]) (σ' := (97, I, J, R)) rfl ?_
    refine az_E.ret (v := some (.int (0 : Int32))) (σ' := (97, I, J, R)) rfl ?_
    show az_E az_F ex 1 137 6 [.int a1] [.int (0 : Int32)] (97, I, J, R) _
    refine az_E.ret (v := some (.int (0 : Int32))) (σ' := (97, I, J, R)) rfl ?_
    show az_E az_F ex 2 129 4 [.ref 3, .int a1, .int a2, .retAddr 0] [.int (0 : Int32)] (97, I, J, R) _
    refine az_E.br (c := (0 : Int32) = 0) (tt := 17) (ff := 7) (L' := [.ref 3, .int a1, .int a2, .retAddr 0]) (S' := []) (σ' := (97, I, J, R)) rfl (fun _ => ?_) (fun hn => absurd (by decide) hn)
    refine az_E.sn 1 (pc' := 18) (L' := [.ref 3, .int a1, .int a2, .retAddr 0]) (S' := [.int (-1 : Int32)]) (σ' := (97, I, J, R)) rfl ?_
    have h := Option.some.inj h
    subst h
    exact az_E.ret (v := some (.int (-1 : Int32))) (σ' := (97, I, J, R)) rfl hQ
  · rw [if_neg hc_1] at h
    refine az_E.sn 2 (pc' := 7) (L' := [.int a1, .int (0 : Int32), .int (5 : Int32)]) (S' := [.int (5 : Int32), .int a1]) (σ' := (97, I, J, R)) rfl ?_
    refine az_E.br (c := (5 : Int32) < a1) (tt := 14) (ff := 10) (L' := [.int a1, .int (0 : Int32), .int (5 : Int32)]) (S' := []) (σ' := (97, I, J, R)) rfl (fun hc_2 => ?_) (fun hc_2 => ?_)
    · rw [if_pos hc_2] at h
      refine az_E.sn 1 (pc' := 15) (L' := [.int a1, .int (0 : Int32), .int (5 : Int32)]) (S' := [.int (0 : Int32)]) (σ' := (97, I, J, R)) rfl ?_
      refine az_E.ret (v := some (.int (0 : Int32))) (σ' := (97, I, J, R)) rfl ?_
      show az_E az_F ex 1 137 6 [.int a1] [.int (0 : Int32)] (97, I, J, R) _
      refine az_E.ret (v := some (.int (0 : Int32))) (σ' := (97, I, J, R)) rfl ?_
      show az_E az_F ex 2 129 4 [.ref 3, .int a1, .int a2, .retAddr 0] [.int (0 : Int32)] (97, I, J, R) _
      refine az_E.br (c := (0 : Int32) = 0) (tt := 17) (ff := 7) (L' := [.ref 3, .int a1, .int a2, .retAddr 0]) (S' := []) (σ' := (97, I, J, R)) rfl (fun _ => ?_) (fun hn => absurd (by decide) hn)
      refine az_E.sn 1 (pc' := 18) (L' := [.ref 3, .int a1, .int a2, .retAddr 0]) (S' := [.int (-1 : Int32)]) (σ' := (97, I, J, R)) rfl ?_
      have h := Option.some.inj h
      subst h
      exact az_E.ret (v := some (.int (-1 : Int32))) (σ' := (97, I, J, R)) rfl hQ
    · rw [if_neg hc_2] at h
      refine az_E.sn 2 (pc' := 15) (L' := [.int a1, .int (0 : Int32), .int (5 : Int32)]) (S' := [.int (1 : Int32)]) (σ' := (97, I, J, R)) rfl ?_
      refine az_E.ret (v := some (.int (1 : Int32))) (σ' := (97, I, J, R)) rfl ?_
      show az_E az_F ex 1 137 6 [.int a1] [.int (1 : Int32)] (97, I, J, R) _
      refine az_E.ret (v := some (.int (1 : Int32))) (σ' := (97, I, J, R)) rfl ?_
      show az_E az_F ex 2 129 4 [.ref 3, .int a1, .int a2, .retAddr 0] [.int (1 : Int32)] (97, I, J, R) _
      refine az_E.br (c := (1 : Int32) = 0) (tt := 17) (ff := 7) (L' := [.ref 3, .int a1, .int a2, .retAddr 0]) (S' := []) (σ' := (97, I, J, R)) rfl (fun hn => absurd hn (by decide)) (fun _ => ?_)
      refine az_E.sn 3 (pc' := 11) (L' := [.ref 3, .int a1, .int a2, .retAddr 0]) (S' := [.int (7 : Int32), .int (0 : Int32), .int a2]) (σ' := (97, I, J, R)) rfl ?_
      refine az_E.call (d := 1) (k' := 131) (vs := [.int a2, .int (0 : Int32), .int (7 : Int32)]) (pc' := 14) (S' := []) rfl ?_ (fun _ _ hq => hq)
      show az_E az_F ex 1 131 0 [.int a2, .int (0 : Int32), .int (7 : Int32)] [] (97, I, J, R) _
      refine az_E.sn 2 (pc' := 2) (L' := [.int a2, .int (0 : Int32), .int (7 : Int32)]) (S' := [.int (0 : Int32), .int a2]) (σ' := (97, I, J, R)) rfl ?_
      refine az_E.br (c := a2 < (0 : Int32)) (tt := 14) (ff := 5) (L' := [.int a2, .int (0 : Int32), .int (7 : Int32)]) (S' := []) (σ' := (97, I, J, R)) rfl (fun hc_3 => ?_) (fun hc_3 => ?_)
      · rw [if_pos hc_3] at h
        refine az_E.sn 1 (pc' := 15) (L' := [.int a2, .int (0 : Int32), .int (7 : Int32)]) (S' := [.int (0 : Int32)]) (σ' := (97, I, J, R)) rfl ?_
        refine az_E.ret (v := some (.int (0 : Int32))) (σ' := (97, I, J, R)) rfl ?_
        show az_E az_F ex 2 129 14 [.ref 3, .int a1, .int a2, .retAddr 0] [.int (0 : Int32)] (97, I, J, R) _
        refine az_E.br (c := (0 : Int32) = 0) (tt := 17) (ff := 19) (L' := [.ref 3, .int a1, .int a2, .retAddr 0]) (S' := []) (σ' := (97, I, J, R)) rfl (fun _ => ?_) (fun hn => absurd (by decide) hn)
        refine az_E.sn 1 (pc' := 18) (L' := [.ref 3, .int a1, .int a2, .retAddr 0]) (S' := [.int (-1 : Int32)]) (σ' := (97, I, J, R)) rfl ?_
        have h := Option.some.inj h
        subst h
        exact az_E.ret (v := some (.int (-1 : Int32))) (σ' := (97, I, J, R)) rfl hQ
      · rw [if_neg hc_3] at h
        refine az_E.sn 2 (pc' := 7) (L' := [.int a2, .int (0 : Int32), .int (7 : Int32)]) (S' := [.int (7 : Int32), .int a2]) (σ' := (97, I, J, R)) rfl ?_
        refine az_E.br (c := (7 : Int32) < a2) (tt := 14) (ff := 10) (L' := [.int a2, .int (0 : Int32), .int (7 : Int32)]) (S' := []) (σ' := (97, I, J, R)) rfl (fun hc_4 => ?_) (fun hc_4 => ?_)
        · rw [if_pos hc_4] at h
          refine az_E.sn 1 (pc' := 15) (L' := [.int a2, .int (0 : Int32), .int (7 : Int32)]) (S' := [.int (0 : Int32)]) (σ' := (97, I, J, R)) rfl ?_
          refine az_E.ret (v := some (.int (0 : Int32))) (σ' := (97, I, J, R)) rfl ?_
          show az_E az_F ex 2 129 14 [.ref 3, .int a1, .int a2, .retAddr 0] [.int (0 : Int32)] (97, I, J, R) _
          refine az_E.br (c := (0 : Int32) = 0) (tt := 17) (ff := 19) (L' := [.ref 3, .int a1, .int a2, .retAddr 0]) (S' := []) (σ' := (97, I, J, R)) rfl (fun _ => ?_) (fun hn => absurd (by decide) hn)
          refine az_E.sn 1 (pc' := 18) (L' := [.ref 3, .int a1, .int a2, .retAddr 0]) (S' := [.int (-1 : Int32)]) (σ' := (97, I, J, R)) rfl ?_
          have h := Option.some.inj h
          subst h
          exact az_E.ret (v := some (.int (-1 : Int32))) (σ' := (97, I, J, R)) rfl hQ
        · rw [if_neg hc_4] at h
          refine az_E.sn 2 (pc' := 15) (L' := [.int a2, .int (0 : Int32), .int (7 : Int32)]) (S' := [.int (1 : Int32)]) (σ' := (97, I, J, R)) rfl ?_
          refine az_E.ret (v := some (.int (1 : Int32))) (σ' := (97, I, J, R)) rfl ?_
          show az_E az_F ex 2 129 14 [.ref 3, .int a1, .int a2, .retAddr 0] [.int (1 : Int32)] (97, I, J, R) _
          refine az_E.br (c := (1 : Int32) = 0) (tt := 17) (ff := 19) (L' := [.ref 3, .int a1, .int a2, .retAddr 0]) (S' := []) (σ' := (97, I, J, R)) rfl (fun hn => absurd hn (by decide)) (fun _ => ?_)
          refine az_E.sn 3 (pc' := 24) (L' := [.ref 3, .int a1, .int a2, .retAddr 0]) (S' := [.int a1, .ref 58]) (σ' := (97, I, J, R)) rfl ?_
          by_cases hc_5 : a1 < 0 ∨ 6 ≤ a1.toNatClampNeg
          · rw [if_pos hc_5] at h; cases h
          · rw [if_neg hc_5] at h
            rcases az_six hc_5 with ehc_5 | ehc_5 | ehc_5 | ehc_5 | ehc_5 | ehc_5
            · subst ehc_5
              refine az_E.ov (pc' := 25) (L' := [.ref 3, .int (0 : Int32), .int a2, .retAddr 0]) (S' := []) (σ' := (97, I, J, R)) (x := .ref 61) (o := az_aa az_F (97, I, J, R) 58 (0 : Int32)) rfl rfl ?_
              exact az_E.forget (L := [.ref 3, .retAddr 0, .int a2, .retAddr 0]) ⟨rfl, trivial, rfl, trivial, trivial⟩ (re_X_taken_25_61 (I := I) (J := J) (R := R)  h hQ)
            · subst ehc_5
              refine az_E.ov (pc' := 25) (L' := [.ref 3, .int (1 : Int32), .int a2, .retAddr 0]) (S' := []) (σ' := (97, I, J, R)) (x := .ref 63) (o := az_aa az_F (97, I, J, R) 58 (1 : Int32)) rfl rfl ?_
              exact az_E.forget (L := [.ref 3, .retAddr 0, .int a2, .retAddr 0]) ⟨rfl, trivial, rfl, trivial, trivial⟩ (re_X_taken_25_63 (I := I) (J := J) (R := R)  h hQ)
            · subst ehc_5
              refine az_E.ov (pc' := 25) (L' := [.ref 3, .int (2 : Int32), .int a2, .retAddr 0]) (S' := []) (σ' := (97, I, J, R)) (x := .ref 65) (o := az_aa az_F (97, I, J, R) 58 (2 : Int32)) rfl rfl ?_
              exact az_E.forget (L := [.ref 3, .retAddr 0, .int a2, .retAddr 0]) ⟨rfl, trivial, rfl, trivial, trivial⟩ (re_X_taken_25_65 (I := I) (J := J) (R := R)  h hQ)
            · subst ehc_5
              refine az_E.ov (pc' := 25) (L' := [.ref 3, .int (3 : Int32), .int a2, .retAddr 0]) (S' := []) (σ' := (97, I, J, R)) (x := .ref 67) (o := az_aa az_F (97, I, J, R) 58 (3 : Int32)) rfl rfl ?_
              exact az_E.forget (L := [.ref 3, .retAddr 0, .int a2, .retAddr 0]) ⟨rfl, trivial, rfl, trivial, trivial⟩ (re_X_taken_25_67 (I := I) (J := J) (R := R)  h hQ)
            · subst ehc_5
              refine az_E.ov (pc' := 25) (L' := [.ref 3, .int (4 : Int32), .int a2, .retAddr 0]) (S' := []) (σ' := (97, I, J, R)) (x := .ref 69) (o := az_aa az_F (97, I, J, R) 58 (4 : Int32)) rfl rfl ?_
              exact az_E.forget (L := [.ref 3, .retAddr 0, .int a2, .retAddr 0]) ⟨rfl, trivial, rfl, trivial, trivial⟩ (re_X_taken_25_69 (I := I) (J := J) (R := R)  h hQ)
            · subst ehc_5
              refine az_E.ov (pc' := 25) (L' := [.ref 3, .int (5 : Int32), .int a2, .retAddr 0]) (S' := []) (σ' := (97, I, J, R)) (x := .ref 71) (o := az_aa az_F (97, I, J, R) 58 (5 : Int32)) rfl rfl ?_
              exact az_E.forget (L := [.ref 3, .retAddr 0, .int a2, .retAddr 0]) ⟨rfl, trivial, rfl, trivial, trivial⟩ (re_X_taken_25_71 (I := I) (J := J) (R := R)  h hQ)
set_option maxRecDepth 100000 in
set_option maxHeartbeats 4000000 in
theorem re_M_taken_75 {ex : az_X} {I : Nat → Nat → Int32} {J : Nat → Nat → Int64} {R : Nat → Nat → Option Nat} {v1 : Int32} {v2 : Int32} {v3 : Int32} {x : Int32} (h : rs_M_taken_75 I v1 v2 v3 = some x) {Q : Option Value → az_S → Prop} (hQ : Q (some (.int x)) (97, I, J, R)) : az_E az_F ex 2 253 75 [.ref 73, .int v1, .int v2, .int v3] [] (97, I, J, R) Q := by
  unfold rs_M_taken_75 at h
  refine az_E.sn 2 (pc' := 77) (L' := [.ref 73, .int v1, .int v2, .int v3]) (S' := [.int v2, .int v3]) (σ' := (97, I, J, R)) rfl ?_
  refine az_E.br (c := v3 = v2) (tt := 80) (ff := 93) (L' := [.ref 73, .int v1, .int v2, .int v3]) (S' := []) (σ' := (97, I, J, R)) rfl (fun hc_12 => ?_) (fun hc_12 => ?_)
  · rw [if_pos hc_12] at h
    refine az_E.sn 4 (pc' := 86) (L' := [.ref 73, .int v1, .int v2, .int v3]) (S' := [.int v1, .ref 96, .ref 73]) (σ' := (97, I, J, R)) rfl ?_
    by_cases hc_13 : v1 < 0 ∨ 6 ≤ v1.toNatClampNeg
    · rw [if_pos hc_13] at h; cases h
    · rw [if_neg hc_13] at h
      refine az_E.oi (o := az_ai az_F ex (97, I, J, R) 96 v1) (pc' := 87) (L' := [.ref 73, .int v1, .int v2, .int v3]) (S' := [.ref 73]) (σ' := (97, I, J, R)) (x := (I 96 v1.toNatClampNeg)) rfl (if_neg hc_13) ?_
      refine az_E.call (d := 1) (k' := 235) (vs := [.ref 73, .int (I 96 v1.toNatClampNeg)]) (pc' := 90) (S' := []) rfl ?_ (fun _ _ hq => hq)
      show az_E az_F ex 1 235 0 [.ref 73, .int (I 96 v1.toNatClampNeg)] [] (97, I, J, R) _
      refine az_E.sn 3 (pc' := 5) (L' := [.ref 73, .int (I 96 v1.toNatClampNeg)]) (S' := [.int (I 96 v1.toNatClampNeg), .ref 94]) (σ' := (97, I, J, R)) rfl ?_
      by_cases hc_14 : (I 96 v1.toNatClampNeg) < 0 ∨ 50 ≤ (I 96 v1.toNatClampNeg).toNatClampNeg
      · rw [if_pos hc_14] at h; cases h
      · rw [if_neg hc_14] at h
        refine az_E.oi (o := az_ai az_F ex (97, I, J, R) 94 (I 96 v1.toNatClampNeg)) (pc' := 6) (L' := [.ref 73, .int (I 96 v1.toNatClampNeg)]) (S' := []) (σ' := (97, I, J, R)) (x := (I 94 (I 96 v1.toNatClampNeg).toNatClampNeg)) rfl (if_neg hc_14) ?_
        refine az_E.ret (v := some (.int (I 94 (I 96 v1.toNatClampNeg).toNatClampNeg))) (σ' := (97, I, J, R)) rfl ?_
        show az_E az_F ex 2 253 90 [.ref 73, .int v1, .int v2, .int v3] [.int (I 94 (I 96 v1.toNatClampNeg).toNatClampNeg)] (97, I, J, R) _
        refine az_E.sn 1 (pc' := 95) (L' := [.ref 73, .int v1, .int v2, .int v3]) (S' := [.int (I 94 (I 96 v1.toNatClampNeg).toNatClampNeg)]) (σ' := (97, I, J, R)) rfl ?_
        have h := Option.some.inj h
        subst h
        exact az_E.ret (v := some (.int (I 94 (I 96 v1.toNatClampNeg).toNatClampNeg))) (σ' := (97, I, J, R)) rfl hQ
  · rw [if_neg hc_12] at h
    refine az_E.sn 1 (pc' := 95) (L' := [.ref 73, .int v1, .int v2, .int v3]) (S' := [.int (-12 : Int32)]) (σ' := (97, I, J, R)) rfl ?_
    have h := Option.some.inj h
    subst h
    exact az_E.ret (v := some (.int (-12 : Int32))) (σ' := (97, I, J, R)) rfl hQ
set_option maxRecDepth 100000 in
set_option maxHeartbeats 4000000 in
theorem re_M_taken_58_b {ex : az_X} {I : Nat → Nat → Int32} {J : Nat → Nat → Int64} {R : Nat → Nat → Option Nat} {v1 : Int32} {v2 : Int32} {v3 : Int32} {x : ((Int32) ⊕ (Int32))} (h : rs_M_taken_58_b I v1 v2 v3 = some x) {Q : Option Value → az_S → Prop} (hQ : Sum.elim (fun s => az_E az_F ex 2 253 58 [.ref 73, .int v1, .int v2, .int s] [] (97, I, J, R) Q) (fun x => Q (some (.int x)) (97, I, J, R)) x) : az_E az_F ex 2 253 58 [.ref 73, .int v1, .int v2, .int v3] [] (97, I, J, R) Q := by
  unfold rs_M_taken_58_b at h
  refine az_E.sn 2 (pc' := 60) (L' := [.ref 73, .int v1, .int v2, .int v3]) (S' := [.int v2, .int v3]) (σ' := (97, I, J, R)) rfl ?_
  refine az_E.br (c := v3 = v2) (tt := 75) (ff := 63) (L' := [.ref 73, .int v1, .int v2, .int v3]) (S' := []) (σ' := (97, I, J, R)) rfl (fun hc_11 => ?_) (fun hc_11 => ?_)
  · rw [if_pos hc_11] at h
    obtain ⟨x, hx, rfl⟩ := Option.map_eq_some_iff.mp h
    exact az_E.forget (L := [.ref 73, .int v1, .int v2, .int v3]) ⟨rfl, rfl, rfl, rfl, trivial⟩ (re_M_taken_75 (I := I) (J := J) (R := R)  hx hQ)
  · rw [if_neg hc_11] at h
    refine az_E.sn 1 (pc' := 64) (L' := [.ref 73, .int v1, .int v2, .int v3]) (S' := [.int v3]) (σ' := (97, I, J, R)) rfl ?_
    refine az_E.br (c := v3 ≤ 0) (tt := 75) (ff := 67) (L' := [.ref 73, .int v1, .int v2, .int v3]) (S' := []) (σ' := (97, I, J, R)) rfl (fun hc_15 => ?_) (fun hc_15 => ?_)
    · rw [if_pos hc_15] at h
      obtain ⟨x, hx, rfl⟩ := Option.map_eq_some_iff.mp h
      exact az_E.forget (L := [.ref 73, .int v1, .int v2, .int v3]) ⟨rfl, rfl, rfl, rfl, trivial⟩ (re_M_taken_75 (I := I) (J := J) (R := R)  hx hQ)
    · rw [if_neg hc_15] at h
      refine az_E.sn 1 (pc' := 68) (L' := [.ref 73, .int v1, .int v2, .int v3]) (S' := [.int v3]) (σ' := (97, I, J, R)) rfl ?_
      refine az_E.call (d := 1) (k' := 237) (vs := [.int v3]) (pc' := 71) (S' := []) rfl ?_ (fun _ _ hq => hq)
      show az_E az_F ex 1 237 0 [.int v3] [] (97, I, J, R) _
      refine az_E.sn 2 (pc' := 2) (L' := [.int v3]) (S' := [.int (3 : Int32), .int v3]) (σ' := (97, I, J, R)) rfl ?_
      refine az_E.br (c := v3 = (3 : Int32)) (tt := 5) (ff := 9) (L' := [.int v3]) (S' := []) (σ' := (97, I, J, R)) rfl (fun hc_16 => ?_) (fun hc_16 => ?_)
      · rw [if_pos hc_16] at h
        refine az_E.sn 2 (pc' := 38) (L' := [.int v3]) (S' := [.int (2 : Int32)]) (σ' := (97, I, J, R)) rfl ?_
        refine az_E.ret (v := some (.int (2 : Int32))) (σ' := (97, I, J, R)) rfl ?_
        show az_E az_F ex 2 253 71 [.ref 73, .int v1, .int v2, .int v3] [.int (2 : Int32)] (97, I, J, R) _
        refine az_E.sn 2 (pc' := 58) (L' := [.ref 73, .int v1, .int v2, .int (2 : Int32)]) (S' := []) (σ' := (97, I, J, R)) rfl ?_
        have h := Option.some.inj h
        subst h
        exact az_E.forget (L := [.ref 73, .int v1, .int v2, .int (2 : Int32)]) ⟨rfl, rfl, rfl, rfl, trivial⟩ hQ
      · rw [if_neg hc_16] at h
        refine az_E.sn 2 (pc' := 11) (L' := [.int v3]) (S' := [.int (4 : Int32), .int v3]) (σ' := (97, I, J, R)) rfl ?_
        refine az_E.br (c := v3 = (4 : Int32)) (tt := 14) (ff := 18) (L' := [.int v3]) (S' := []) (σ' := (97, I, J, R)) rfl (fun hc_17 => ?_) (fun hc_17 => ?_)
        · rw [if_pos hc_17] at h
          refine az_E.sn 2 (pc' := 38) (L' := [.int v3]) (S' := [.int (1 : Int32)]) (σ' := (97, I, J, R)) rfl ?_
          refine az_E.ret (v := some (.int (1 : Int32))) (σ' := (97, I, J, R)) rfl ?_
          show az_E az_F ex 2 253 71 [.ref 73, .int v1, .int v2, .int v3] [.int (1 : Int32)] (97, I, J, R) _
          refine az_E.sn 2 (pc' := 58) (L' := [.ref 73, .int v1, .int v2, .int (1 : Int32)]) (S' := []) (σ' := (97, I, J, R)) rfl ?_
          have h := Option.some.inj h
          subst h
          exact az_E.forget (L := [.ref 73, .int v1, .int v2, .int (1 : Int32)]) ⟨rfl, rfl, rfl, rfl, trivial⟩ hQ
        · rw [if_neg hc_17] at h
          refine az_E.sn 2 (pc' := 20) (L' := [.int v3]) (S' := [.int (5 : Int32), .int v3]) (σ' := (97, I, J, R)) rfl ?_
          refine az_E.br (c := v3 = (5 : Int32)) (tt := 23) (ff := 27) (L' := [.int v3]) (S' := []) (σ' := (97, I, J, R)) rfl (fun hc_18 => ?_) (fun hc_18 => ?_)
          · rw [if_pos hc_18] at h
            refine az_E.sn 2 (pc' := 38) (L' := [.int v3]) (S' := [.int (3 : Int32)]) (σ' := (97, I, J, R)) rfl ?_
            refine az_E.ret (v := some (.int (3 : Int32))) (σ' := (97, I, J, R)) rfl ?_
            show az_E az_F ex 2 253 71 [.ref 73, .int v1, .int v2, .int v3] [.int (3 : Int32)] (97, I, J, R) _
            refine az_E.sn 2 (pc' := 58) (L' := [.ref 73, .int v1, .int v2, .int (3 : Int32)]) (S' := []) (σ' := (97, I, J, R)) rfl ?_
            have h := Option.some.inj h
            subst h
            exact az_E.forget (L := [.ref 73, .int v1, .int v2, .int (3 : Int32)]) ⟨rfl, rfl, rfl, rfl, trivial⟩ hQ
          · rw [if_neg hc_18] at h
            refine az_E.sn 2 (pc' := 30) (L' := [.int v3]) (S' := [.int (7 : Int32), .int v3]) (σ' := (97, I, J, R)) rfl ?_
            refine az_E.br (c := v3 = (7 : Int32)) (tt := 33) (ff := 37) (L' := [.int v3]) (S' := []) (σ' := (97, I, J, R)) rfl (fun hc_19 => ?_) (fun hc_19 => ?_)
            · rw [if_pos hc_19] at h
              refine az_E.sn 2 (pc' := 38) (L' := [.int v3]) (S' := [.int (4 : Int32)]) (σ' := (97, I, J, R)) rfl ?_
              refine az_E.ret (v := some (.int (4 : Int32))) (σ' := (97, I, J, R)) rfl ?_
              show az_E az_F ex 2 253 71 [.ref 73, .int v1, .int v2, .int v3] [.int (4 : Int32)] (97, I, J, R) _
              refine az_E.sn 2 (pc' := 58) (L' := [.ref 73, .int v1, .int v2, .int (4 : Int32)]) (S' := []) (σ' := (97, I, J, R)) rfl ?_
              have h := Option.some.inj h
              subst h
              exact az_E.forget (L := [.ref 73, .int v1, .int v2, .int (4 : Int32)]) ⟨rfl, rfl, rfl, rfl, trivial⟩ hQ
            · rw [if_neg hc_19] at h
              refine az_E.sn 1 (pc' := 38) (L' := [.int v3]) (S' := [.int (0 : Int32)]) (σ' := (97, I, J, R)) rfl ?_
              refine az_E.ret (v := some (.int (0 : Int32))) (σ' := (97, I, J, R)) rfl ?_
              show az_E az_F ex 2 253 71 [.ref 73, .int v1, .int v2, .int v3] [.int (0 : Int32)] (97, I, J, R) _
              refine az_E.sn 2 (pc' := 58) (L' := [.ref 73, .int v1, .int v2, .int (0 : Int32)]) (S' := []) (σ' := (97, I, J, R)) rfl ?_
              have h := Option.some.inj h
              subst h
              exact az_E.forget (L := [.ref 73, .int v1, .int v2, .int (0 : Int32)]) ⟨rfl, rfl, rfl, rfl, trivial⟩ hQ
set_option maxRecDepth 100000 in
set_option maxHeartbeats 4000000 in
theorem re_M_taken_58 {ex : az_X} {I : Nat → Nat → Int32} {J : Nat → Nat → Int64} {R : Nat → Nat → Option Nat} {v1 : Int32} {v2 : Int32} {v3 : Int32} {x : Int32} (h : rs_M_taken_58 I v1 v2 v3 = some x) {Q : Option Value → az_S → Prop} (hQ : Q (some (.int x)) (97, I, J, R)) : az_E az_F ex 2 253 58 [.ref 73, .int v1, .int v2, .int v3] [] (97, I, J, R) Q := by
  unfold rs_M_taken_58 at h
  refine az_lp_E (G := fun s => az_E az_F ex 2 253 58 [.ref 73, .int v1, .int v2, .int s] [] (97, I, J, R) Q) (H := fun x => Q (some (.int x)) (97, I, J, R)) (fun s o hb ho => ?_) _ _ _ h hQ
  exact re_M_taken_58_b  hb ho
set_option maxRecDepth 100000 in
set_option maxHeartbeats 4000000 in
theorem re_M_taken {ex : az_X} {I : Nat → Nat → Int32} {J : Nat → Nat → Int64} {R : Nat → Nat → Option Nat} {a1 : Int32} {a2 : Int32} {o : Int32} (h : rs_M_taken I a1 a2 = some o) {Q : Option Value → az_S → Prop} (hQ : Q (some (.int o)) (97, I, J, R)) : az_E az_F ex 2 253 0 [.ref 73, .int a1, .int a2, .retAddr 0] [] (97, I, J, R) Q := by
  unfold rs_M_taken at h
  refine az_E.sn 1 (pc' := 1) (L' := [.ref 73, .int a1, .int a2, .retAddr 0]) (S' := [.int a1]) (σ' := (97, I, J, R)) rfl ?_
  refine az_E.call (d := 1) (k' := 245) (vs := [.int a1]) (pc' := 4) (S' := []) rfl ?_ (fun _ _ hq => hq)
  show az_E az_F ex 1 245 0 [.int a1] [] (97, I, J, R) _
  refine az_E.sn 4 (pc' := 6) (L' := [.int a1]) (S' := [.long (5 : Int64), .long (0 : Int64), .long a1.toInt64]) (σ' := (97, I, J, R)) rfl ?_
  refine az_E.call (d := 0) (k' := 154) (vs := [.long a1.toInt64, .long (0 : Int64), .long (5 : Int64)]) (pc' := 9) (S' := []) rfl ?_ (fun _ _ hq => hq)
  show az_E az_F ex 0 154 0 [.long a1.toInt64, .retAddr 0, .long (0 : Int64), .retAddr 0, .long (5 : Int64), .retAddr 0] [] (97, I, J, R) _
  refine az_E.sn 3 (pc' := 3) (L' := [.long a1.toInt64, .retAddr 0, .long (0 : Int64), .retAddr 0, .long (5 : Int64), .retAddr 0]) (S' := [.int (lg_cmp a1.toInt64 (0 : Int64))]) (σ' := (97, I, J, R)) rfl ?_
  refine az_E.br (c := (lg_cmp a1.toInt64 (0 : Int64)) < 0) (tt := 17) (ff := 6) (L' := [.long a1.toInt64, .retAddr 0, .long (0 : Int64), .retAddr 0, .long (5 : Int64), .retAddr 0]) (S' := []) (σ' := (97, I, J, R)) rfl (fun hc_1 => ?_) (fun hc_1 => ?_)
  · rw [if_pos hc_1] at h
    refine az_E.sn 1 (pc' := 18) (L' := [.long a1.toInt64, .retAddr 0, .long (0 : Int64), .retAddr 0, .long (5 : Int64), .retAddr 0]) (S' := [.int (0 : Int32)]) (σ' := (97, I, J, R)) rfl ?_
    refine az_E.ret (v := some (.int (0 : Int32))) (σ' := (97, I, J, R)) rfl ?_
    show az_E az_F ex 1 245 9 [.int a1] [.int (0 : Int32)] (97, I, J, R) _
    refine az_E.ret (v := some (.int (0 : Int32))) (σ' := (97, I, J, R)) rfl ?_
    show az_E az_F ex 2 253 4 [.ref 73, .int a1, .int a2, .retAddr 0] [.int (0 : Int32)] (97, I, J, R) _
    refine az_E.br (c := (0 : Int32) = 0) (tt := 19) (ff := 7) (L' := [.ref 73, .int a1, .int a2, .retAddr 0]) (S' := []) (σ' := (97, I, J, R)) rfl (fun _ => ?_) (fun hn => absurd (by decide) hn)
    refine az_E.sn 1 (pc' := 20) (L' := [.ref 73, .int a1, .int a2, .retAddr 0]) (S' := [.int (-1 : Int32)]) (σ' := (97, I, J, R)) rfl ?_
    have h := Option.some.inj h
    subst h
    exact az_E.ret (v := some (.int (-1 : Int32))) (σ' := (97, I, J, R)) rfl hQ
  · rw [if_neg hc_1] at h
    refine az_E.sn 3 (pc' := 10) (L' := [.long a1.toInt64, .retAddr 0, .long (0 : Int64), .retAddr 0, .long (5 : Int64), .retAddr 0]) (S' := [.int (lg_cmp a1.toInt64 (5 : Int64))]) (σ' := (97, I, J, R)) rfl ?_
    refine az_E.br (c := 0 < (lg_cmp a1.toInt64 (5 : Int64))) (tt := 17) (ff := 13) (L' := [.long a1.toInt64, .retAddr 0, .long (0 : Int64), .retAddr 0, .long (5 : Int64), .retAddr 0]) (S' := []) (σ' := (97, I, J, R)) rfl (fun hc_2 => ?_) (fun hc_2 => ?_)
    · rw [if_pos hc_2] at h
      refine az_E.sn 1 (pc' := 18) (L' := [.long a1.toInt64, .retAddr 0, .long (0 : Int64), .retAddr 0, .long (5 : Int64), .retAddr 0]) (S' := [.int (0 : Int32)]) (σ' := (97, I, J, R)) rfl ?_
      refine az_E.ret (v := some (.int (0 : Int32))) (σ' := (97, I, J, R)) rfl ?_
      show az_E az_F ex 1 245 9 [.int a1] [.int (0 : Int32)] (97, I, J, R) _
      refine az_E.ret (v := some (.int (0 : Int32))) (σ' := (97, I, J, R)) rfl ?_
      show az_E az_F ex 2 253 4 [.ref 73, .int a1, .int a2, .retAddr 0] [.int (0 : Int32)] (97, I, J, R) _
      refine az_E.br (c := (0 : Int32) = 0) (tt := 19) (ff := 7) (L' := [.ref 73, .int a1, .int a2, .retAddr 0]) (S' := []) (σ' := (97, I, J, R)) rfl (fun _ => ?_) (fun hn => absurd (by decide) hn)
      refine az_E.sn 1 (pc' := 20) (L' := [.ref 73, .int a1, .int a2, .retAddr 0]) (S' := [.int (-1 : Int32)]) (σ' := (97, I, J, R)) rfl ?_
      have h := Option.some.inj h
      subst h
      exact az_E.ret (v := some (.int (-1 : Int32))) (σ' := (97, I, J, R)) rfl hQ
    · rw [if_neg hc_2] at h
      refine az_E.sn 2 (pc' := 18) (L' := [.long a1.toInt64, .retAddr 0, .long (0 : Int64), .retAddr 0, .long (5 : Int64), .retAddr 0]) (S' := [.int (1 : Int32)]) (σ' := (97, I, J, R)) rfl ?_
      refine az_E.ret (v := some (.int (1 : Int32))) (σ' := (97, I, J, R)) rfl ?_
      show az_E az_F ex 1 245 9 [.int a1] [.int (1 : Int32)] (97, I, J, R) _
      refine az_E.ret (v := some (.int (1 : Int32))) (σ' := (97, I, J, R)) rfl ?_
      show az_E az_F ex 2 253 4 [.ref 73, .int a1, .int a2, .retAddr 0] [.int (1 : Int32)] (97, I, J, R) _
      refine az_E.br (c := (1 : Int32) = 0) (tt := 19) (ff := 7) (L' := [.ref 73, .int a1, .int a2, .retAddr 0]) (S' := []) (σ' := (97, I, J, R)) rfl (fun hn => absurd hn (by decide)) (fun _ => ?_)
      refine az_E.sn 4 (pc' := 13) (L' := [.ref 73, .int a1, .int a2, .retAddr 0]) (S' := [.long (7 : Int64), .long (0 : Int64), .long a2.toInt64]) (σ' := (97, I, J, R)) rfl ?_
      refine az_E.call (d := 1) (k' := 154) (vs := [.long a2.toInt64, .long (0 : Int64), .long (7 : Int64)]) (pc' := 16) (S' := []) rfl ?_ (fun _ _ hq => hq)
      show az_E az_F ex 1 154 0 [.long a2.toInt64, .retAddr 0, .long (0 : Int64), .retAddr 0, .long (7 : Int64), .retAddr 0] [] (97, I, J, R) _
      refine az_E.sn 3 (pc' := 3) (L' := [.long a2.toInt64, .retAddr 0, .long (0 : Int64), .retAddr 0, .long (7 : Int64), .retAddr 0]) (S' := [.int (lg_cmp a2.toInt64 (0 : Int64))]) (σ' := (97, I, J, R)) rfl ?_
      refine az_E.br (c := (lg_cmp a2.toInt64 (0 : Int64)) < 0) (tt := 17) (ff := 6) (L' := [.long a2.toInt64, .retAddr 0, .long (0 : Int64), .retAddr 0, .long (7 : Int64), .retAddr 0]) (S' := []) (σ' := (97, I, J, R)) rfl (fun hc_3 => ?_) (fun hc_3 => ?_)
      · rw [if_pos hc_3] at h
        refine az_E.sn 1 (pc' := 18) (L' := [.long a2.toInt64, .retAddr 0, .long (0 : Int64), .retAddr 0, .long (7 : Int64), .retAddr 0]) (S' := [.int (0 : Int32)]) (σ' := (97, I, J, R)) rfl ?_
        refine az_E.ret (v := some (.int (0 : Int32))) (σ' := (97, I, J, R)) rfl ?_
        show az_E az_F ex 2 253 16 [.ref 73, .int a1, .int a2, .retAddr 0] [.int (0 : Int32)] (97, I, J, R) _
        refine az_E.br (c := (0 : Int32) = 0) (tt := 19) (ff := 21) (L' := [.ref 73, .int a1, .int a2, .retAddr 0]) (S' := []) (σ' := (97, I, J, R)) rfl (fun _ => ?_) (fun hn => absurd (by decide) hn)
        refine az_E.sn 1 (pc' := 20) (L' := [.ref 73, .int a1, .int a2, .retAddr 0]) (S' := [.int (-1 : Int32)]) (σ' := (97, I, J, R)) rfl ?_
        have h := Option.some.inj h
        subst h
        exact az_E.ret (v := some (.int (-1 : Int32))) (σ' := (97, I, J, R)) rfl hQ
      · rw [if_neg hc_3] at h
        refine az_E.sn 3 (pc' := 10) (L' := [.long a2.toInt64, .retAddr 0, .long (0 : Int64), .retAddr 0, .long (7 : Int64), .retAddr 0]) (S' := [.int (lg_cmp a2.toInt64 (7 : Int64))]) (σ' := (97, I, J, R)) rfl ?_
        refine az_E.br (c := 0 < (lg_cmp a2.toInt64 (7 : Int64))) (tt := 17) (ff := 13) (L' := [.long a2.toInt64, .retAddr 0, .long (0 : Int64), .retAddr 0, .long (7 : Int64), .retAddr 0]) (S' := []) (σ' := (97, I, J, R)) rfl (fun hc_4 => ?_) (fun hc_4 => ?_)
        · rw [if_pos hc_4] at h
          refine az_E.sn 1 (pc' := 18) (L' := [.long a2.toInt64, .retAddr 0, .long (0 : Int64), .retAddr 0, .long (7 : Int64), .retAddr 0]) (S' := [.int (0 : Int32)]) (σ' := (97, I, J, R)) rfl ?_
          refine az_E.ret (v := some (.int (0 : Int32))) (σ' := (97, I, J, R)) rfl ?_
          show az_E az_F ex 2 253 16 [.ref 73, .int a1, .int a2, .retAddr 0] [.int (0 : Int32)] (97, I, J, R) _
          refine az_E.br (c := (0 : Int32) = 0) (tt := 19) (ff := 21) (L' := [.ref 73, .int a1, .int a2, .retAddr 0]) (S' := []) (σ' := (97, I, J, R)) rfl (fun _ => ?_) (fun hn => absurd (by decide) hn)
          refine az_E.sn 1 (pc' := 20) (L' := [.ref 73, .int a1, .int a2, .retAddr 0]) (S' := [.int (-1 : Int32)]) (σ' := (97, I, J, R)) rfl ?_
          have h := Option.some.inj h
          subst h
          exact az_E.ret (v := some (.int (-1 : Int32))) (σ' := (97, I, J, R)) rfl hQ
        · rw [if_neg hc_4] at h
          refine az_E.sn 2 (pc' := 18) (L' := [.long a2.toInt64, .retAddr 0, .long (0 : Int64), .retAddr 0, .long (7 : Int64), .retAddr 0]) (S' := [.int (1 : Int32)]) (σ' := (97, I, J, R)) rfl ?_
          refine az_E.ret (v := some (.int (1 : Int32))) (σ' := (97, I, J, R)) rfl ?_
          show az_E az_F ex 2 253 16 [.ref 73, .int a1, .int a2, .retAddr 0] [.int (1 : Int32)] (97, I, J, R) _
          refine az_E.br (c := (1 : Int32) = 0) (tt := 19) (ff := 21) (L' := [.ref 73, .int a1, .int a2, .retAddr 0]) (S' := []) (σ' := (97, I, J, R)) rfl (fun hn => absurd hn (by decide)) (fun _ => ?_)
          refine az_E.sn 3 (pc' := 26) (L' := [.ref 73, .int a1, .int a2, .retAddr 0]) (S' := [.int a1, .ref 96]) (σ' := (97, I, J, R)) rfl ?_
          by_cases hc_5 : a1 < 0 ∨ 6 ≤ a1.toNatClampNeg
          · rw [if_pos hc_5] at h; cases h
          · rw [if_neg hc_5] at h
            refine az_E.oi (o := az_ai az_F ex (97, I, J, R) 96 a1) (pc' := 27) (L' := [.ref 73, .int a1, .int a2, .retAddr 0]) (S' := []) (σ' := (97, I, J, R)) (x := (I 96 a1.toNatClampNeg)) rfl (if_neg hc_5) ?_
            refine az_E.br (c := 0 ≤ (I 96 a1.toNatClampNeg)) (tt := 33) (ff := 30) (L' := [.ref 73, .int a1, .int a2, .retAddr 0]) (S' := []) (σ' := (97, I, J, R)) rfl (fun hc_6 => ?_) (fun hc_6 => ?_)
            · rw [if_pos hc_6] at h
              refine az_E.sn 3 (pc' := 38) (L' := [.ref 73, .int a1, .int a2, .retAddr 0]) (S' := [.int a1, .ref 96]) (σ' := (97, I, J, R)) rfl ?_
              by_cases hc_7 : a1 < 0 ∨ 6 ≤ a1.toNatClampNeg
              · rw [if_pos hc_7] at h; cases h
              · rw [if_neg hc_7] at h
                refine az_E.oi (o := az_ai az_F ex (97, I, J, R) 96 a1) (pc' := 39) (L' := [.ref 73, .int a1, .int a2, .retAddr 0]) (S' := []) (σ' := (97, I, J, R)) (x := (I 96 a1.toNatClampNeg)) rfl (if_neg hc_7) ?_
                refine az_E.sn 1 (pc' := 41) (L' := [.ref 73, .int a1, .int a2, .retAddr 0]) (S' := [.int (50 : Int32), .int (I 96 a1.toNatClampNeg)]) (σ' := (97, I, J, R)) rfl ?_
                refine az_E.br (c := (I 96 a1.toNatClampNeg) < (50 : Int32)) (tt := 47) (ff := 44) (L' := [.ref 73, .int a1, .int a2, .retAddr 0]) (S' := []) (σ' := (97, I, J, R)) rfl (fun hc_8 => ?_) (fun hc_8 => ?_)
                · rw [if_pos hc_8] at h
                  refine az_E.sn 4 (pc' := 53) (L' := [.ref 73, .int a1, .int a2, .retAddr 0]) (S' := [.int a1, .ref 96, .ref 73]) (σ' := (97, I, J, R)) rfl ?_
                  by_cases hc_9 : a1 < 0 ∨ 6 ≤ a1.toNatClampNeg
                  · rw [if_pos hc_9] at h; cases h
                  · rw [if_neg hc_9] at h
                    refine az_E.oi (o := az_ai az_F ex (97, I, J, R) 96 a1) (pc' := 54) (L' := [.ref 73, .int a1, .int a2, .retAddr 0]) (S' := [.ref 73]) (σ' := (97, I, J, R)) (x := (I 96 a1.toNatClampNeg)) rfl (if_neg hc_9) ?_
                    refine az_E.call (d := 1) (k' := 235) (vs := [.ref 73, .int (I 96 a1.toNatClampNeg)]) (pc' := 57) (S' := []) rfl ?_ (fun _ _ hq => hq)
                    show az_E az_F ex 1 235 0 [.ref 73, .int (I 96 a1.toNatClampNeg)] [] (97, I, J, R) _
                    refine az_E.sn 3 (pc' := 5) (L' := [.ref 73, .int (I 96 a1.toNatClampNeg)]) (S' := [.int (I 96 a1.toNatClampNeg), .ref 94]) (σ' := (97, I, J, R)) rfl ?_
                    by_cases hc_10 : (I 96 a1.toNatClampNeg) < 0 ∨ 50 ≤ (I 96 a1.toNatClampNeg).toNatClampNeg
                    · rw [if_pos hc_10] at h; cases h
                    · rw [if_neg hc_10] at h
                      refine az_E.oi (o := az_ai az_F ex (97, I, J, R) 94 (I 96 a1.toNatClampNeg)) (pc' := 6) (L' := [.ref 73, .int (I 96 a1.toNatClampNeg)]) (S' := []) (σ' := (97, I, J, R)) (x := (I 94 (I 96 a1.toNatClampNeg).toNatClampNeg)) rfl (if_neg hc_10) ?_
                      refine az_E.ret (v := some (.int (I 94 (I 96 a1.toNatClampNeg).toNatClampNeg))) (σ' := (97, I, J, R)) rfl ?_
                      show az_E az_F ex 2 253 57 [.ref 73, .int a1, .int a2, .retAddr 0] [.int (I 94 (I 96 a1.toNatClampNeg).toNatClampNeg)] (97, I, J, R) _
                      refine az_E.sn 1 (pc' := 58) (L' := [.ref 73, .int a1, .int a2, .int (I 94 (I 96 a1.toNatClampNeg).toNatClampNeg)]) (S' := []) (σ' := (97, I, J, R)) rfl ?_
                      exact az_E.forget (L := [.ref 73, .int a1, .int a2, .int (I 94 (I 96 a1.toNatClampNeg).toNatClampNeg)]) ⟨rfl, rfl, rfl, rfl, trivial⟩ (re_M_taken_58 (I := I) (J := J) (R := R)  h hQ)
                · rw [if_neg hc_8] at h
                  refine az_E.sn 1 (pc' := 46) (L' := [.ref 73, .int a1, .int a2, .retAddr 0]) (S' := [.int (-12 : Int32)]) (σ' := (97, I, J, R)) rfl ?_
                  have h := Option.some.inj h
                  subst h
                  exact az_E.ret (v := some (.int (-12 : Int32))) (σ' := (97, I, J, R)) rfl hQ
            · rw [if_neg hc_6] at h
              refine az_E.sn 1 (pc' := 32) (L' := [.ref 73, .int a1, .int a2, .retAddr 0]) (S' := [.int (-11 : Int32)]) (σ' := (97, I, J, R)) rfl ?_
              have h := Option.some.inj h
              subst h
              exact az_E.ret (v := some (.int (-11 : Int32))) (σ' := (97, I, J, R)) rfl hQ
set_option maxRecDepth 100000 in
set_option maxHeartbeats 4000000 in
theorem re_X_count {ex : az_X} {I : Nat → Nat → Int32} {J : Nat → Nat → Int64} {R : Nat → Nat → Option Nat} {a1 : Int32} {o : Int32} (h : rs_X_count I a1 = some o) {Q : Option Value → az_S → Prop} (hQ : Q (some (.int o)) (97, I, J, R)) : az_E az_F ex 0 130 0 [.ref 3, .int a1] [] (97, I, J, R) Q := by
  unfold rs_X_count at h
  refine az_E.sn 1 (pc' := 1) (L' := [.ref 3, .int a1]) (S' := [.int a1]) (σ' := (97, I, J, R)) rfl ?_
  by_cases hc_1 : a1 = (0 : Int32)
  · rw [if_pos hc_1] at h
    refine az_E.sw hc_1 (pc' := 40) (L' := [.ref 3, .int a1]) (S' := []) (σ' := (97, I, J, R)) rfl ?_
    refine az_E.sn 3 (pc' := 47) (L' := [.ref 3, .int a1]) (S' := [.int (I 4 3)]) (σ' := (97, I, J, R)) rfl ?_
    have h := Option.some.inj h
    subst h
    exact az_E.ret (v := some (.int (I 4 3))) (σ' := (97, I, J, R)) rfl hQ
  · rw [if_neg hc_1] at h
    by_cases hc_2 : a1 = (1 : Int32)
    · rw [if_pos hc_2] at h
      refine az_E.sw hc_2 (pc' := 48) (L' := [.ref 3, .int a1]) (S' := []) (σ' := (97, I, J, R)) rfl ?_
      refine az_E.sn 3 (pc' := 55) (L' := [.ref 3, .int a1]) (S' := [.int (I 4 9)]) (σ' := (97, I, J, R)) rfl ?_
      have h := Option.some.inj h
      subst h
      exact az_E.ret (v := some (.int (I 4 9))) (σ' := (97, I, J, R)) rfl hQ
    · rw [if_neg hc_2] at h
      by_cases hc_3 : a1 = (2 : Int32)
      · rw [if_pos hc_3] at h
        refine az_E.sw hc_3 (pc' := 56) (L' := [.ref 3, .int a1]) (S' := []) (σ' := (97, I, J, R)) rfl ?_
        refine az_E.sn 3 (pc' := 63) (L' := [.ref 3, .int a1]) (S' := [.int (I 14 1)]) (σ' := (97, I, J, R)) rfl ?_
        have h := Option.some.inj h
        subst h
        exact az_E.ret (v := some (.int (I 14 1))) (σ' := (97, I, J, R)) rfl hQ
      · rw [if_neg hc_3] at h
        by_cases hc_4 : a1 = (3 : Int32)
        · rw [if_pos hc_4] at h
          refine az_E.sw hc_4 (pc' := 64) (L' := [.ref 3, .int a1]) (S' := []) (σ' := (97, I, J, R)) rfl ?_
          refine az_E.sn 3 (pc' := 71) (L' := [.ref 3, .int a1]) (S' := [.int (I 44 4)]) (σ' := (97, I, J, R)) rfl ?_
          have h := Option.some.inj h
          subst h
          exact az_E.ret (v := some (.int (I 44 4))) (σ' := (97, I, J, R)) rfl hQ
        · rw [if_neg hc_4] at h
          by_cases hc_5 : a1 = (4 : Int32)
          · rw [if_pos hc_5] at h
            refine az_E.sw hc_5 (pc' := 72) (L' := [.ref 3, .int a1]) (S' := []) (σ' := (97, I, J, R)) rfl ?_
            refine az_E.sn 3 (pc' := 79) (L' := [.ref 3, .int a1]) (S' := [.int (I 55 1)]) (σ' := (97, I, J, R)) rfl ?_
            have h := Option.some.inj h
            subst h
            exact az_E.ret (v := some (.int (I 55 1))) (σ' := (97, I, J, R)) rfl hQ
          · rw [if_neg hc_5] at h
            by_cases hc_6 : a1 = (5 : Int32)
            · rw [if_pos hc_6] at h
              refine az_E.sw hc_6 (pc' := 80) (L' := [.ref 3, .int a1]) (S' := []) (σ' := (97, I, J, R)) rfl ?_
              refine az_E.sn 3 (pc' := 87) (L' := [.ref 3, .int a1]) (S' := [.int (I 55 3)]) (σ' := (97, I, J, R)) rfl ?_
              have h := Option.some.inj h
              subst h
              exact az_E.ret (v := some (.int (I 55 3))) (σ' := (97, I, J, R)) rfl hQ
            · rw [if_neg hc_6] at h
              have ehc_1 := az_nei hc_1 (z := 0) (by decide)
              have ehc_2 := az_nei hc_2 (z := 1) (by decide)
              have ehc_3 := az_nei hc_3 (z := 2) (by decide)
              have ehc_4 := az_nei hc_4 (z := 3) (by decide)
              have ehc_5 := az_nei hc_5 (z := 4) (by decide)
              have ehc_6 := az_nei hc_6 (z := 5) (by decide)
              refine az_E.swd (a := 88) (lo := 0) (hi := 5) (offs := #[39, 47, 55, 63, 71, 79]) rfl (by omega) ?_
              refine az_E.sn 1 (pc' := 89) (L' := [.ref 3, .int a1]) (S' := [.int (-1 : Int32)]) (σ' := (97, I, J, R)) rfl ?_
              have h := Option.some.inj h
              subst h
              exact az_E.ret (v := some (.int (-1 : Int32))) (σ' := (97, I, J, R)) rfl hQ
set_option maxRecDepth 100000 in
set_option maxHeartbeats 4000000 in
theorem re_M_count {ex : az_X} {I : Nat → Nat → Int32} {J : Nat → Nat → Int64} {R : Nat → Nat → Option Nat} {a1 : Int32} {o : Int32} (h : rs_M_count I a1 = some o) {Q : Option Value → az_S → Prop} (hQ : Q (some (.int o)) (97, I, J, R)) : az_E az_F ex 0 254 0 [.ref 73, .int a1] [] (97, I, J, R) Q := by
  unfold rs_M_count at h
  refine az_E.sn 1 (pc' := 1) (L' := [.ref 73, .int a1]) (S' := [.int a1]) (σ' := (97, I, J, R)) rfl ?_
  by_cases hc_1 : a1 = (0 : Int32)
  · rw [if_pos hc_1] at h
    refine az_E.sw hc_1 (pc' := 40) (L' := [.ref 73, .int a1]) (S' := []) (σ' := (97, I, J, R)) rfl ?_
    refine az_E.sn 2 (pc' := 44) (L' := [.ref 73, .int a1]) (S' := [.int (I 73 6)]) (σ' := (97, I, J, R)) rfl ?_
    have h := Option.some.inj h
    subst h
    exact az_E.ret (v := some (.int (I 73 6))) (σ' := (97, I, J, R)) rfl hQ
  · rw [if_neg hc_1] at h
    by_cases hc_2 : a1 = (1 : Int32)
    · rw [if_pos hc_2] at h
      refine az_E.sw hc_2 (pc' := 45) (L' := [.ref 73, .int a1]) (S' := []) (σ' := (97, I, J, R)) rfl ?_
      refine az_E.sn 2 (pc' := 49) (L' := [.ref 73, .int a1]) (S' := [.int (I 73 7)]) (σ' := (97, I, J, R)) rfl ?_
      have h := Option.some.inj h
      subst h
      exact az_E.ret (v := some (.int (I 73 7))) (σ' := (97, I, J, R)) rfl hQ
    · rw [if_neg hc_2] at h
      by_cases hc_3 : a1 = (2 : Int32)
      · rw [if_pos hc_3] at h
        refine az_E.sw hc_3 (pc' := 50) (L' := [.ref 73, .int a1]) (S' := []) (σ' := (97, I, J, R)) rfl ?_
        refine az_E.sn 2 (pc' := 54) (L' := [.ref 73, .int a1]) (S' := [.int (I 73 11)]) (σ' := (97, I, J, R)) rfl ?_
        have h := Option.some.inj h
        subst h
        exact az_E.ret (v := some (.int (I 73 11))) (σ' := (97, I, J, R)) rfl hQ
      · rw [if_neg hc_3] at h
        by_cases hc_4 : a1 = (3 : Int32)
        · rw [if_pos hc_4] at h
          refine az_E.sw hc_4 (pc' := 55) (L' := [.ref 73, .int a1]) (S' := []) (σ' := (97, I, J, R)) rfl ?_
          refine az_E.sn 2 (pc' := 59) (L' := [.ref 73, .int a1]) (S' := [.int (I 73 5)]) (σ' := (97, I, J, R)) rfl ?_
          have h := Option.some.inj h
          subst h
          exact az_E.ret (v := some (.int (I 73 5))) (σ' := (97, I, J, R)) rfl hQ
        · rw [if_neg hc_4] at h
          by_cases hc_5 : a1 = (4 : Int32)
          · rw [if_pos hc_5] at h
            refine az_E.sw hc_5 (pc' := 60) (L' := [.ref 73, .int a1]) (S' := []) (σ' := (97, I, J, R)) rfl ?_
            refine az_E.sn 2 (pc' := 64) (L' := [.ref 73, .int a1]) (S' := [.int (I 73 33)]) (σ' := (97, I, J, R)) rfl ?_
            have h := Option.some.inj h
            subst h
            exact az_E.ret (v := some (.int (I 73 33))) (σ' := (97, I, J, R)) rfl hQ
          · rw [if_neg hc_5] at h
            by_cases hc_6 : a1 = (5 : Int32)
            · rw [if_pos hc_6] at h
              refine az_E.sw hc_6 (pc' := 65) (L' := [.ref 73, .int a1]) (S' := []) (σ' := (97, I, J, R)) rfl ?_
              refine az_E.sn 2 (pc' := 69) (L' := [.ref 73, .int a1]) (S' := [.int (I 73 36)]) (σ' := (97, I, J, R)) rfl ?_
              have h := Option.some.inj h
              subst h
              exact az_E.ret (v := some (.int (I 73 36))) (σ' := (97, I, J, R)) rfl hQ
            · rw [if_neg hc_6] at h
              have ehc_1 := az_nei hc_1 (z := 0) (by decide)
              have ehc_2 := az_nei hc_2 (z := 1) (by decide)
              have ehc_3 := az_nei hc_3 (z := 2) (by decide)
              have ehc_4 := az_nei hc_4 (z := 3) (by decide)
              have ehc_5 := az_nei hc_5 (z := 4) (by decide)
              have ehc_6 := az_nei hc_6 (z := 5) (by decide)
              refine az_E.swd (a := 70) (lo := 0) (hi := 5) (offs := #[39, 44, 49, 54, 59, 64]) rfl (by omega) ?_
              refine az_E.sn 1 (pc' := 71) (L' := [.ref 73, .int a1]) (S' := [.int (-1 : Int32)]) (σ' := (97, I, J, R)) rfl ?_
              have h := Option.some.inj h
              subst h
              exact az_E.ret (v := some (.int (-1 : Int32))) (σ' := (97, I, J, R)) rfl hQ
set_option maxRecDepth 100000 in
set_option maxHeartbeats 4000000 in
theorem re_La_beginText_16 {ex : az_X} {I : Nat → Nat → Int32} {J : Nat → Nat → Int64} {R : Nat → Nat → Option Nat} {o : (Nat → Nat → Int32)} (h : rs_La_beginText 16 I = some o) {Q : Option Value → az_S → Prop} (hQ : Q none (97, o, J, R)) : az_E az_F ex 0 27 0 [.ref 16] [] (97, I, J, R) Q := by
  unfold rs_La_beginText at h
  refine az_E.sn 6 (pc' := 10) (L' := [.ref 16]) (S' := []) (σ' := (97, (az_u (az_u I 16 5 (1 : Int32)) 16 4 (0 : Int32)), J, R)) rfl ?_
  have h := Option.some.inj h
  subst h
  exact az_E.ret (v := none) (σ' := (97, (az_u (az_u I 16 5 (1 : Int32)) 16 4 (0 : Int32)), J, R)) rfl hQ
set_option maxRecDepth 100000 in
set_option maxHeartbeats 4000000 in
theorem re_La_add_16 {ex : az_X} {I : Nat → Nat → Int32} {J : Nat → Nat → Int64} {R : Nat → Nat → Option Nat} {a1 : Int32} {a2 : Int32} {o : Int32 × (Nat → Nat → Int32)} (h : rs_La_add 16 I a1 a2 = some o) {Q : Option Value → az_S → Prop} (hQ : Q (some (.int o.1)) (97, o.2, J, R)) : az_E az_F ex 0 28 0 [.ref 16, .int a1, .int a2] [] (97, I, J, R) Q := by
  unfold rs_La_add at h
  refine az_E.sn 3 (pc' := 6) (L' := [.ref 16, .int a1, .int a2]) (S' := [.int (121 : Int32), .int (I 16 4)]) (σ' := (97, I, J, R)) rfl ?_
  refine az_E.br (c := (I 16 4) < (121 : Int32)) (tt := 14) (ff := 9) (L' := [.ref 16, .int a1, .int a2]) (S' := []) (σ' := (97, I, J, R)) rfl (fun hc_1 => ?_) (fun hc_1 => ?_)
  · rw [if_pos hc_1] at h
    refine az_E.sn 5 (pc' := 23) (L' := [.ref 16, .int a1, .int a2]) (S' := [.int a1, .int (I 16 4), .ref (16 + 1)]) (σ' := (97, I, J, R)) rfl ?_
    by_cases hc_2 : (I 16 4) < 0 ∨ 121 ≤ (I 16 4).toNatClampNeg
    · rw [if_pos hc_2] at h; cases h
    · rw [if_neg hc_2] at h
      refine az_E.o (o := az_si az_F (97, I, J, R) (16 + 1) (I 16 4) a1) (pc' := 24) (L' := [.ref 16, .int a1, .int a2]) (S' := []) (x := (97, (az_u I (16 + 1) (I 16 4).toNatClampNeg a1), J, R)) rfl (if_neg hc_2) ?_
      refine az_E.sn 5 (pc' := 33) (L' := [.ref 16, .int a1, .int a2]) (S' := [.int a2, .int (I 16 4), .ref (16 + 2)]) (σ' := (97, (az_u I (16 + 1) (I 16 4).toNatClampNeg a1), J, R)) rfl ?_
      by_cases hc_3 : (I 16 4) < 0 ∨ 121 ≤ (I 16 4).toNatClampNeg
      · rw [if_pos hc_3] at h; cases h
      · rw [if_neg hc_3] at h
        refine az_E.o (o := az_si az_F (97, (az_u I (16 + 1) (I 16 4).toNatClampNeg a1), J, R) (16 + 2) (I 16 4) a2) (pc' := 34) (L' := [.ref 16, .int a1, .int a2]) (S' := []) (x := (97, (az_u (az_u I (16 + 1) (I 16 4).toNatClampNeg a1) (16 + 2) (I 16 4).toNatClampNeg a2), J, R)) rfl (if_neg hc_3) ?_
        refine az_E.sn 7 (pc' := 45) (L' := [.ref 16, .int a1, .int a2]) (S' := [.int (I 16 4)]) (σ' := (97, (az_u (az_u (az_u I (16 + 1) (I 16 4).toNatClampNeg a1) (16 + 2) (I 16 4).toNatClampNeg a2) 16 4 ((I 16 4) + (1 : Int32))), J, R)) rfl ?_
        have h := Option.some.inj h
        subst h
        exact az_E.ret (v := some (.int (I 16 4))) (σ' := (97, (az_u (az_u (az_u I (16 + 1) (I 16 4).toNatClampNeg a1) (16 + 2) (I 16 4).toNatClampNeg a2) 16 4 ((I 16 4) + (1 : Int32))), J, R)) rfl hQ
  · rw [if_neg hc_1] at h
    refine az_E.sn 2 (pc' := 13) (L' := [.ref 16, .int a1, .int a2]) (S' := [.int (I 16 4)]) (σ' := (97, I, J, R)) rfl ?_
    have h := Option.some.inj h
    subst h
    exact az_E.ret (v := some (.int (I 16 4))) (σ' := (97, I, J, R)) rfl hQ
set_option maxRecDepth 100000 in
set_option maxHeartbeats 4000000 in
theorem re_Ta_readLevel_21_b_16 {rec : az_GT} {d : Nat} {ex : az_X} {I : Nat → Nat → Int32} {J : Nat → Nat → Int64} {R : Nat → Nat → Option Nat} {v1 : Int32} {v2 : Int32} {v3 : Int32} (hg_69 : ∀ (b1 b2 b3 b4 : Int32) (I : Nat → Nat → Int32) (o : Int32 × (Nat → Nat → Int32)), rec 69 b1 b2 b3 b4 I = some o → ∀ {J : Nat → Nat → Int64} {R : Nat → Nat → Option Nat} {Q : Option Value → az_S → Prop}, R 14 4 = some 16 → Q none (97, o.2, J, R) → az_E az_F ex d 69 0 [.ref 14, .int b1, .int b2, .retAddr 0, .retAddr 0] [] (97, I, J, R) Q) (hg_71 : ∀ (b1 b2 b3 b4 : Int32) (I : Nat → Nat → Int32) (o : Int32 × (Nat → Nat → Int32)), rec 71 b1 b2 b3 b4 I = some o → ∀ {J : Nat → Nat → Int64} {R : Nat → Nat → Option Nat} {Q : Option Value → az_S → Prop}, R 14 4 = some 16 → Q none (97, o.2, J, R) → az_E az_F ex d 71 0 [.ref 14, .int b1, .retAddr 0] [] (97, I, J, R) Q) (hR_14_4 : R 14 4 = some 16) {x : ((Int32 × (Nat → Nat → Int32)) ⊕ ((Nat → Nat → Int32)))} (h : rs_Ta_readLevel_21_b rec 16 v1 v2 v3 I = some x) {Q : Option Value → az_S → Prop} (hQ : Sum.elim (fun s => az_E az_F ex (d + 2) 69 21 [.ref 14, .int v1, .int v2, .int s.1, .retAddr 0] [] (97, s.2, J, R) Q) (fun x => Q none (97, x, J, R)) x) : az_E az_F ex (d + 2) 69 21 [.ref 14, .int v1, .int v2, .int v3, .retAddr 0] [] (97, I, J, R) Q := by
  unfold rs_Ta_readLevel_21_b at h
  refine az_E.sn 2 (pc' := 24) (L' := [.ref 14, .int v1, .int v2, .int v3, .retAddr 0]) (S' := [.int (120 : Int32), .int v3]) (σ' := (97, I, J, R)) rfl ?_
  refine az_E.br (c := (120 : Int32) ≤ v3) (tt := 92) (ff := 27) (L' := [.ref 14, .int v1, .int v2, .int v3, .retAddr 0]) (S' := []) (σ' := (97, I, J, R)) rfl (fun hc_5 => ?_) (fun hc_5 => ?_)
  · rw [if_pos hc_5] at h
    have h := Option.some.inj h
    subst h
    exact az_E.ret (v := none) (σ' := (97, I, J, R)) rfl hQ
  · rw [if_neg hc_5] at h
    refine az_E.sn 2 (pc' := 31) (L' := [.ref 14, .int v1, .int v2, .int v3, .retAddr 0]) (S' := [.int (I 14 3)]) (σ' := (97, I, J, R)) rfl ?_
    refine az_E.br (c := 0 ≤ (I 14 3)) (tt := 92) (ff := 34) (L' := [.ref 14, .int v1, .int v2, .int v3, .retAddr 0]) (S' := []) (σ' := (97, I, J, R)) rfl (fun hc_6 => ?_) (fun hc_6 => ?_)
    · rw [if_pos hc_6] at h
      have h := Option.some.inj h
      subst h
      exact az_E.ret (v := none) (σ' := (97, I, J, R)) rfl hQ
    · rw [if_neg hc_6] at h
      refine az_E.sn 2 (pc' := 36) (L' := [.ref 14, .int v1, .int v2, .int v3, .retAddr 0]) (S' := [.ref 14, .int v1]) (σ' := (97, I, J, R)) rfl ?_
      refine az_E.call (d := (d + 1)) (k' := 66) (vs := [.ref 14]) (pc' := 39) (S' := [.int v1]) rfl ?_ (fun _ _ hq => hq)
      show az_E az_F ex (d + 1) 66 0 [.ref 14] [] (97, I, J, R) _
      refine az_E.sn 2 (pc' := 4) (L' := [.ref 14]) (S' := [.int (I 14 2)]) (σ' := (97, I, J, R)) rfl ?_
      refine az_E.br (c := (I 14 2) < 0) (tt := 30) (ff := 7) (L' := [.ref 14]) (S' := []) (σ' := (97, I, J, R)) rfl (fun hc_7 => ?_) (fun hc_7 => ?_)
      · rw [if_pos hc_7] at h
        refine az_E.sn 1 (pc' := 31) (L' := [.ref 14]) (S' := [.int (-1 : Int32)]) (σ' := (97, I, J, R)) rfl ?_
        refine az_E.ret (v := some (.int (-1 : Int32))) (σ' := (97, I, J, R)) rfl ?_
        show az_E az_F ex (d + 2) 69 39 [.ref 14, .int v1, .int v2, .int v3, .retAddr 0] [.int (-1 : Int32), .int v1] (97, I, J, R) _
        cases hx_9 : rs_Ta_joinsAt v1 (-1 : Int32) with
        | none => rw [hx_9] at h; cases h
        | some x_8 =>
          rw [hx_9] at h
          dsimp only at h
          refine az_E.call (d := (d + 1)) (k' := 70) (vs := [.int v1, .int (-1 : Int32)]) (pc' := 42) (S' := []) (Q1 := fun v s => v = some (.int x_8) ∧ s = (97, I, J, R)) rfl (az_E.deep (by omega) (re_Ta_joinsAt (J := J) (R := R)  hx_9 ⟨rfl, rfl⟩)) (fun v s hq => ?_)
          obtain ⟨rfl, rfl⟩ := hq
          show az_E az_F ex (d + 2) 69 42 [.ref 14, .int v1, .int v2, .int v3, .retAddr 0] [.int x_8] (97, I, J, R) _
          refine az_E.br (c := x_8 = 0) (tt := 92) (ff := 45) (L' := [.ref 14, .int v1, .int v2, .int v3, .retAddr 0]) (S' := []) (σ' := (97, I, J, R)) rfl (fun hc_10 => ?_) (fun hc_10 => ?_)
          · rw [if_pos hc_10] at h
            have h := Option.some.inj h
            subst h
            exact az_E.ret (v := none) (σ' := (97, I, J, R)) rfl hQ
          · rw [if_neg hc_10] at h
            refine az_E.sn 1 (pc' := 46) (L' := [.ref 14, .int v1, .int v2, .int v3, .retAddr 0]) (S' := [.ref 14]) (σ' := (97, I, J, R)) rfl ?_
            refine az_E.call (d := (d + 1)) (k' := 66) (vs := [.ref 14]) (pc' := 49) (S' := []) rfl ?_ (fun _ _ hq => hq)
            show az_E az_F ex (d + 1) 66 0 [.ref 14] [] (97, I, J, R) _
            refine az_E.sn 2 (pc' := 4) (L' := [.ref 14]) (S' := [.int (I 14 2)]) (σ' := (97, I, J, R)) rfl ?_
            refine az_E.br (c := (I 14 2) < 0) (tt := 30) (ff := 7) (L' := [.ref 14]) (S' := []) (σ' := (97, I, J, R)) rfl (fun hc_11 => ?_) (fun hc_11 => ?_)
            · rw [if_pos hc_11] at h
              refine az_E.sn 1 (pc' := 31) (L' := [.ref 14]) (S' := [.int (-1 : Int32)]) (σ' := (97, I, J, R)) rfl ?_
              refine az_E.ret (v := some (.int (-1 : Int32))) (σ' := (97, I, J, R)) rfl ?_
              show az_E az_F ex (d + 2) 69 49 [.ref 14, .int v1, .int v2, .int v3, .retAddr 0] [.int (-1 : Int32)] (97, I, J, R) _
              refine az_E.sn 12 (pc' := 66) (L' := [.ref 14, .int v1, .int v2, .int v3, .int (-1 : Int32)]) (S' := [.int v2, .int (v1 + (1 : Int32)), .ref 14]) (σ' := (97, (az_u I 14 2 ((I 14 2) + (1 : Int32))), J, R)) rfl ?_
              cases hx_14 : rec 69 (v1 + (1 : Int32)) v2 0 0 (az_u I 14 2 ((I 14 2) + (1 : Int32))) with
              | none => rw [hx_14] at h; cases h
              | some o =>
                rw [hx_14] at h
                obtain ⟨x_12, I_13⟩ := o
                dsimp only at h
                refine az_E.call (d := (d + 1)) (k' := 69) (vs := [.ref 14, .int (v1 + (1 : Int32)), .int v2]) (pc' := 69) (S' := []) (Q1 := fun v s => v = none ∧ s = (97, I_13, J, R)) rfl (az_E.deep (by omega) (hg_69 _ _ _ _ _ _ hx_14 (J := J) (R := R) hR_14_4 ⟨rfl, rfl⟩)) (fun v s hq => ?_)
                obtain ⟨rfl, rfl⟩ := hq
                show az_E az_F ex (d + 2) 69 69 [.ref 14, .int v1, .int v2, .int v3, .int (-1 : Int32)] [] (97, I_13, J, R) _
                refine az_E.sn 1 (pc' := 70) (L' := [.ref 14, .int v1, .int v2, .int v3, .int (-1 : Int32)]) (S' := [.ref 14]) (σ' := (97, I_13, J, R)) rfl ?_
                refine az_E.ov (pc' := 73) (L' := [.ref 14, .int v1, .int v2, .int v3, .int (-1 : Int32)]) (S' := []) (σ' := (97, I_13, J, R)) (x := .ref 16) rfl (congrArg (fun z => some (va_rf z)) hR_14_4) ?_
                refine az_E.sn 2 (pc' := 76) (L' := [.ref 14, .int v1, .int v2, .int v3, .int (-1 : Int32)]) (S' := [.int (0 : Int32), .int (-1 : Int32), .ref 16]) (σ' := (97, I_13, J, R)) rfl ?_
                cases hx_17 : rs_La_add 16 I_13 (-1 : Int32) (0 : Int32) with
                | none => rw [hx_17] at h; cases h
                | some o =>
                  rw [hx_17] at h
                  obtain ⟨x_15, I_16⟩ := o
                  dsimp only at h
                  refine az_E.call (d := (d + 1)) (k' := 28) (vs := [.ref 16, .int (-1 : Int32), .int (0 : Int32)]) (pc' := 79) (S' := []) (Q1 := fun v s => v = some (.int x_15) ∧ s = (97, I_16, J, R)) rfl (az_E.deep (by omega) (re_La_add_16 (J := J) (R := R)  hx_17 ⟨rfl, rfl⟩)) (fun v s hq => ?_)
                  obtain ⟨rfl, rfl⟩ := hq
                  show az_E az_F ex (d + 2) 69 79 [.ref 14, .int v1, .int v2, .int v3, .int (-1 : Int32)] [.int x_15] (97, I_16, J, R) _
                  refine az_E.sn 3 (pc' := 82) (L' := [.ref 14, .int v1, .int v2, .int v3, .int (-1 : Int32)]) (S' := [.int (2 : Int32), .int v1]) (σ' := (97, I_16, J, R)) rfl ?_
                  refine az_E.br (c := v1 = (2 : Int32)) (tt := 85) (ff := 86) (L' := [.ref 14, .int v1, .int v2, .int v3, .int (-1 : Int32)]) (S' := []) (σ' := (97, I_16, J, R)) rfl (fun hc_18 => ?_) (fun hc_18 => ?_)
                  · rw [if_pos hc_18] at h
                    have h := Option.some.inj h
                    subst h
                    exact az_E.ret (v := none) (σ' := (97, I_16, J, R)) rfl hQ
                  · rw [if_neg hc_18] at h
                    refine az_E.sn 2 (pc' := 21) (L' := [.ref 14, .int v1, .int v2, .int (v3 + (1 : Int32)), .int (-1 : Int32)]) (S' := []) (σ' := (97, I_16, J, R)) rfl ?_
                    have h := Option.some.inj h
                    subst h
                    exact az_E.forget (L := [.ref 14, .int v1, .int v2, .int (v3 + (1 : Int32)), .retAddr 0]) ⟨rfl, rfl, rfl, rfl, trivial, trivial⟩ hQ
            · rw [if_neg hc_11] at h
              refine az_E.sn 4 (pc' := 15) (L' := [.ref 14]) (S' := [.int (I 14 1), .int (I 14 2)]) (σ' := (97, I, J, R)) rfl ?_
              refine az_E.br (c := (I 14 1) ≤ (I 14 2)) (tt := 30) (ff := 18) (L' := [.ref 14]) (S' := []) (σ' := (97, I, J, R)) rfl (fun hc_19 => ?_) (fun hc_19 => ?_)
              · rw [if_pos hc_19] at h
                refine az_E.sn 1 (pc' := 31) (L' := [.ref 14]) (S' := [.int (-1 : Int32)]) (σ' := (97, I, J, R)) rfl ?_
                refine az_E.ret (v := some (.int (-1 : Int32))) (σ' := (97, I, J, R)) rfl ?_
                show az_E az_F ex (d + 2) 69 49 [.ref 14, .int v1, .int v2, .int v3, .retAddr 0] [.int (-1 : Int32)] (97, I, J, R) _
                refine az_E.sn 12 (pc' := 66) (L' := [.ref 14, .int v1, .int v2, .int v3, .int (-1 : Int32)]) (S' := [.int v2, .int (v1 + (1 : Int32)), .ref 14]) (σ' := (97, (az_u I 14 2 ((I 14 2) + (1 : Int32))), J, R)) rfl ?_
                cases hx_22 : rec 69 (v1 + (1 : Int32)) v2 0 0 (az_u I 14 2 ((I 14 2) + (1 : Int32))) with
                | none => rw [hx_22] at h; cases h
                | some o =>
                  rw [hx_22] at h
                  obtain ⟨x_20, I_21⟩ := o
                  dsimp only at h
                  refine az_E.call (d := (d + 1)) (k' := 69) (vs := [.ref 14, .int (v1 + (1 : Int32)), .int v2]) (pc' := 69) (S' := []) (Q1 := fun v s => v = none ∧ s = (97, I_21, J, R)) rfl (az_E.deep (by omega) (hg_69 _ _ _ _ _ _ hx_22 (J := J) (R := R) hR_14_4 ⟨rfl, rfl⟩)) (fun v s hq => ?_)
                  obtain ⟨rfl, rfl⟩ := hq
                  show az_E az_F ex (d + 2) 69 69 [.ref 14, .int v1, .int v2, .int v3, .int (-1 : Int32)] [] (97, I_21, J, R) _
                  refine az_E.sn 1 (pc' := 70) (L' := [.ref 14, .int v1, .int v2, .int v3, .int (-1 : Int32)]) (S' := [.ref 14]) (σ' := (97, I_21, J, R)) rfl ?_
                  refine az_E.ov (pc' := 73) (L' := [.ref 14, .int v1, .int v2, .int v3, .int (-1 : Int32)]) (S' := []) (σ' := (97, I_21, J, R)) (x := .ref 16) rfl (congrArg (fun z => some (va_rf z)) hR_14_4) ?_
                  refine az_E.sn 2 (pc' := 76) (L' := [.ref 14, .int v1, .int v2, .int v3, .int (-1 : Int32)]) (S' := [.int (0 : Int32), .int (-1 : Int32), .ref 16]) (σ' := (97, I_21, J, R)) rfl ?_
                  cases hx_25 : rs_La_add 16 I_21 (-1 : Int32) (0 : Int32) with
                  | none => rw [hx_25] at h; cases h
                  | some o =>
                    rw [hx_25] at h
                    obtain ⟨x_23, I_24⟩ := o
                    dsimp only at h
                    refine az_E.call (d := (d + 1)) (k' := 28) (vs := [.ref 16, .int (-1 : Int32), .int (0 : Int32)]) (pc' := 79) (S' := []) (Q1 := fun v s => v = some (.int x_23) ∧ s = (97, I_24, J, R)) rfl (az_E.deep (by omega) (re_La_add_16 (J := J) (R := R)  hx_25 ⟨rfl, rfl⟩)) (fun v s hq => ?_)
                    obtain ⟨rfl, rfl⟩ := hq
                    show az_E az_F ex (d + 2) 69 79 [.ref 14, .int v1, .int v2, .int v3, .int (-1 : Int32)] [.int x_23] (97, I_24, J, R) _
                    refine az_E.sn 3 (pc' := 82) (L' := [.ref 14, .int v1, .int v2, .int v3, .int (-1 : Int32)]) (S' := [.int (2 : Int32), .int v1]) (σ' := (97, I_24, J, R)) rfl ?_
                    refine az_E.br (c := v1 = (2 : Int32)) (tt := 85) (ff := 86) (L' := [.ref 14, .int v1, .int v2, .int v3, .int (-1 : Int32)]) (S' := []) (σ' := (97, I_24, J, R)) rfl (fun hc_26 => ?_) (fun hc_26 => ?_)
                    · rw [if_pos hc_26] at h
                      have h := Option.some.inj h
                      subst h
                      exact az_E.ret (v := none) (σ' := (97, I_24, J, R)) rfl hQ
                    · rw [if_neg hc_26] at h
                      refine az_E.sn 2 (pc' := 21) (L' := [.ref 14, .int v1, .int v2, .int (v3 + (1 : Int32)), .int (-1 : Int32)]) (S' := []) (σ' := (97, I_24, J, R)) rfl ?_
                      have h := Option.some.inj h
                      subst h
                      exact az_E.forget (L := [.ref 14, .int v1, .int v2, .int (v3 + (1 : Int32)), .retAddr 0]) ⟨rfl, rfl, rfl, rfl, trivial, trivial⟩ hQ
              · rw [if_neg hc_19] at h
                refine az_E.sn 4 (pc' := 26) (L' := [.ref 14]) (S' := [.int (I 14 2), .ref 15]) (σ' := (97, I, J, R)) rfl ?_
                by_cases hc_27 : (I 14 2) < 0 ∨ 120 ≤ (I 14 2).toNatClampNeg
                · rw [if_pos hc_27] at h; cases h
                · rw [if_neg hc_27] at h
                  refine az_E.oi (o := az_ai az_F ex (97, I, J, R) 15 (I 14 2)) (pc' := 27) (L' := [.ref 14]) (S' := []) (σ' := (97, I, J, R)) (x := (I 15 (I 14 2).toNatClampNeg)) rfl (if_neg hc_27) ?_
                  refine az_E.sn 1 (pc' := 31) (L' := [.ref 14]) (S' := [.int (I 15 (I 14 2).toNatClampNeg)]) (σ' := (97, I, J, R)) rfl ?_
                  refine az_E.ret (v := some (.int (I 15 (I 14 2).toNatClampNeg))) (σ' := (97, I, J, R)) rfl ?_
                  show az_E az_F ex (d + 2) 69 49 [.ref 14, .int v1, .int v2, .int v3, .retAddr 0] [.int (I 15 (I 14 2).toNatClampNeg)] (97, I, J, R) _
                  refine az_E.sn 12 (pc' := 66) (L' := [.ref 14, .int v1, .int v2, .int v3, .int (I 15 (I 14 2).toNatClampNeg)]) (S' := [.int v2, .int (v1 + (1 : Int32)), .ref 14]) (σ' := (97, (az_u I 14 2 ((I 14 2) + (1 : Int32))), J, R)) rfl ?_
                  cases hx_30 : rec 69 (v1 + (1 : Int32)) v2 0 0 (az_u I 14 2 ((I 14 2) + (1 : Int32))) with
                  | none => rw [hx_30] at h; cases h
                  | some o =>
                    rw [hx_30] at h
                    obtain ⟨x_28, I_29⟩ := o
                    dsimp only at h
                    refine az_E.call (d := (d + 1)) (k' := 69) (vs := [.ref 14, .int (v1 + (1 : Int32)), .int v2]) (pc' := 69) (S' := []) (Q1 := fun v s => v = none ∧ s = (97, I_29, J, R)) rfl (az_E.deep (by omega) (hg_69 _ _ _ _ _ _ hx_30 (J := J) (R := R) hR_14_4 ⟨rfl, rfl⟩)) (fun v s hq => ?_)
                    obtain ⟨rfl, rfl⟩ := hq
                    show az_E az_F ex (d + 2) 69 69 [.ref 14, .int v1, .int v2, .int v3, .int (I 15 (I 14 2).toNatClampNeg)] [] (97, I_29, J, R) _
                    refine az_E.sn 1 (pc' := 70) (L' := [.ref 14, .int v1, .int v2, .int v3, .int (I 15 (I 14 2).toNatClampNeg)]) (S' := [.ref 14]) (σ' := (97, I_29, J, R)) rfl ?_
                    refine az_E.ov (pc' := 73) (L' := [.ref 14, .int v1, .int v2, .int v3, .int (I 15 (I 14 2).toNatClampNeg)]) (S' := []) (σ' := (97, I_29, J, R)) (x := .ref 16) rfl (congrArg (fun z => some (va_rf z)) hR_14_4) ?_
                    refine az_E.sn 2 (pc' := 76) (L' := [.ref 14, .int v1, .int v2, .int v3, .int (I 15 (I 14 2).toNatClampNeg)]) (S' := [.int (0 : Int32), .int (I 15 (I 14 2).toNatClampNeg), .ref 16]) (σ' := (97, I_29, J, R)) rfl ?_
                    cases hx_33 : rs_La_add 16 I_29 (I 15 (I 14 2).toNatClampNeg) (0 : Int32) with
                    | none => rw [hx_33] at h; cases h
                    | some o =>
                      rw [hx_33] at h
                      obtain ⟨x_31, I_32⟩ := o
                      dsimp only at h
                      refine az_E.call (d := (d + 1)) (k' := 28) (vs := [.ref 16, .int (I 15 (I 14 2).toNatClampNeg), .int (0 : Int32)]) (pc' := 79) (S' := []) (Q1 := fun v s => v = some (.int x_31) ∧ s = (97, I_32, J, R)) rfl (az_E.deep (by omega) (re_La_add_16 (J := J) (R := R)  hx_33 ⟨rfl, rfl⟩)) (fun v s hq => ?_)
                      obtain ⟨rfl, rfl⟩ := hq
                      show az_E az_F ex (d + 2) 69 79 [.ref 14, .int v1, .int v2, .int v3, .int (I 15 (I 14 2).toNatClampNeg)] [.int x_31] (97, I_32, J, R) _
                      refine az_E.sn 3 (pc' := 82) (L' := [.ref 14, .int v1, .int v2, .int v3, .int (I 15 (I 14 2).toNatClampNeg)]) (S' := [.int (2 : Int32), .int v1]) (σ' := (97, I_32, J, R)) rfl ?_
                      refine az_E.br (c := v1 = (2 : Int32)) (tt := 85) (ff := 86) (L' := [.ref 14, .int v1, .int v2, .int v3, .int (I 15 (I 14 2).toNatClampNeg)]) (S' := []) (σ' := (97, I_32, J, R)) rfl (fun hc_34 => ?_) (fun hc_34 => ?_)
                      · rw [if_pos hc_34] at h
                        have h := Option.some.inj h
                        subst h
                        exact az_E.ret (v := none) (σ' := (97, I_32, J, R)) rfl hQ
                      · rw [if_neg hc_34] at h
                        refine az_E.sn 2 (pc' := 21) (L' := [.ref 14, .int v1, .int v2, .int (v3 + (1 : Int32)), .int (I 15 (I 14 2).toNatClampNeg)]) (S' := []) (σ' := (97, I_32, J, R)) rfl ?_
                        have h := Option.some.inj h
                        subst h
                        exact az_E.forget (L := [.ref 14, .int v1, .int v2, .int (v3 + (1 : Int32)), .retAddr 0]) ⟨rfl, rfl, rfl, rfl, trivial, trivial⟩ hQ
      · rw [if_neg hc_7] at h
        refine az_E.sn 4 (pc' := 15) (L' := [.ref 14]) (S' := [.int (I 14 1), .int (I 14 2)]) (σ' := (97, I, J, R)) rfl ?_
        refine az_E.br (c := (I 14 1) ≤ (I 14 2)) (tt := 30) (ff := 18) (L' := [.ref 14]) (S' := []) (σ' := (97, I, J, R)) rfl (fun hc_35 => ?_) (fun hc_35 => ?_)
        · rw [if_pos hc_35] at h
          refine az_E.sn 1 (pc' := 31) (L' := [.ref 14]) (S' := [.int (-1 : Int32)]) (σ' := (97, I, J, R)) rfl ?_
          refine az_E.ret (v := some (.int (-1 : Int32))) (σ' := (97, I, J, R)) rfl ?_
          show az_E az_F ex (d + 2) 69 39 [.ref 14, .int v1, .int v2, .int v3, .retAddr 0] [.int (-1 : Int32), .int v1] (97, I, J, R) _
          cases hx_37 : rs_Ta_joinsAt v1 (-1 : Int32) with
          | none => rw [hx_37] at h; cases h
          | some x_36 =>
            rw [hx_37] at h
            dsimp only at h
            refine az_E.call (d := (d + 1)) (k' := 70) (vs := [.int v1, .int (-1 : Int32)]) (pc' := 42) (S' := []) (Q1 := fun v s => v = some (.int x_36) ∧ s = (97, I, J, R)) rfl (az_E.deep (by omega) (re_Ta_joinsAt (J := J) (R := R)  hx_37 ⟨rfl, rfl⟩)) (fun v s hq => ?_)
            obtain ⟨rfl, rfl⟩ := hq
            show az_E az_F ex (d + 2) 69 42 [.ref 14, .int v1, .int v2, .int v3, .retAddr 0] [.int x_36] (97, I, J, R) _
            refine az_E.br (c := x_36 = 0) (tt := 92) (ff := 45) (L' := [.ref 14, .int v1, .int v2, .int v3, .retAddr 0]) (S' := []) (σ' := (97, I, J, R)) rfl (fun hc_38 => ?_) (fun hc_38 => ?_)
            · rw [if_pos hc_38] at h
              have h := Option.some.inj h
              subst h
              exact az_E.ret (v := none) (σ' := (97, I, J, R)) rfl hQ
            · rw [if_neg hc_38] at h
              refine az_E.sn 1 (pc' := 46) (L' := [.ref 14, .int v1, .int v2, .int v3, .retAddr 0]) (S' := [.ref 14]) (σ' := (97, I, J, R)) rfl ?_
              refine az_E.call (d := (d + 1)) (k' := 66) (vs := [.ref 14]) (pc' := 49) (S' := []) rfl ?_ (fun _ _ hq => hq)
              show az_E az_F ex (d + 1) 66 0 [.ref 14] [] (97, I, J, R) _
              refine az_E.sn 2 (pc' := 4) (L' := [.ref 14]) (S' := [.int (I 14 2)]) (σ' := (97, I, J, R)) rfl ?_
              refine az_E.br (c := (I 14 2) < 0) (tt := 30) (ff := 7) (L' := [.ref 14]) (S' := []) (σ' := (97, I, J, R)) rfl (fun hc_39 => ?_) (fun hc_39 => ?_)
              · rw [if_pos hc_39] at h
                refine az_E.sn 1 (pc' := 31) (L' := [.ref 14]) (S' := [.int (-1 : Int32)]) (σ' := (97, I, J, R)) rfl ?_
                refine az_E.ret (v := some (.int (-1 : Int32))) (σ' := (97, I, J, R)) rfl ?_
                show az_E az_F ex (d + 2) 69 49 [.ref 14, .int v1, .int v2, .int v3, .retAddr 0] [.int (-1 : Int32)] (97, I, J, R) _
                refine az_E.sn 12 (pc' := 66) (L' := [.ref 14, .int v1, .int v2, .int v3, .int (-1 : Int32)]) (S' := [.int v2, .int (v1 + (1 : Int32)), .ref 14]) (σ' := (97, (az_u I 14 2 ((I 14 2) + (1 : Int32))), J, R)) rfl ?_
                cases hx_42 : rec 69 (v1 + (1 : Int32)) v2 0 0 (az_u I 14 2 ((I 14 2) + (1 : Int32))) with
                | none => rw [hx_42] at h; cases h
                | some o =>
                  rw [hx_42] at h
                  obtain ⟨x_40, I_41⟩ := o
                  dsimp only at h
                  refine az_E.call (d := (d + 1)) (k' := 69) (vs := [.ref 14, .int (v1 + (1 : Int32)), .int v2]) (pc' := 69) (S' := []) (Q1 := fun v s => v = none ∧ s = (97, I_41, J, R)) rfl (az_E.deep (by omega) (hg_69 _ _ _ _ _ _ hx_42 (J := J) (R := R) hR_14_4 ⟨rfl, rfl⟩)) (fun v s hq => ?_)
                  obtain ⟨rfl, rfl⟩ := hq
                  show az_E az_F ex (d + 2) 69 69 [.ref 14, .int v1, .int v2, .int v3, .int (-1 : Int32)] [] (97, I_41, J, R) _
                  refine az_E.sn 1 (pc' := 70) (L' := [.ref 14, .int v1, .int v2, .int v3, .int (-1 : Int32)]) (S' := [.ref 14]) (σ' := (97, I_41, J, R)) rfl ?_
                  refine az_E.ov (pc' := 73) (L' := [.ref 14, .int v1, .int v2, .int v3, .int (-1 : Int32)]) (S' := []) (σ' := (97, I_41, J, R)) (x := .ref 16) rfl (congrArg (fun z => some (va_rf z)) hR_14_4) ?_
                  refine az_E.sn 2 (pc' := 76) (L' := [.ref 14, .int v1, .int v2, .int v3, .int (-1 : Int32)]) (S' := [.int (0 : Int32), .int (-1 : Int32), .ref 16]) (σ' := (97, I_41, J, R)) rfl ?_
                  cases hx_45 : rs_La_add 16 I_41 (-1 : Int32) (0 : Int32) with
                  | none => rw [hx_45] at h; cases h
                  | some o =>
                    rw [hx_45] at h
                    obtain ⟨x_43, I_44⟩ := o
                    dsimp only at h
                    refine az_E.call (d := (d + 1)) (k' := 28) (vs := [.ref 16, .int (-1 : Int32), .int (0 : Int32)]) (pc' := 79) (S' := []) (Q1 := fun v s => v = some (.int x_43) ∧ s = (97, I_44, J, R)) rfl (az_E.deep (by omega) (re_La_add_16 (J := J) (R := R)  hx_45 ⟨rfl, rfl⟩)) (fun v s hq => ?_)
                    obtain ⟨rfl, rfl⟩ := hq
                    show az_E az_F ex (d + 2) 69 79 [.ref 14, .int v1, .int v2, .int v3, .int (-1 : Int32)] [.int x_43] (97, I_44, J, R) _
                    refine az_E.sn 3 (pc' := 82) (L' := [.ref 14, .int v1, .int v2, .int v3, .int (-1 : Int32)]) (S' := [.int (2 : Int32), .int v1]) (σ' := (97, I_44, J, R)) rfl ?_
                    refine az_E.br (c := v1 = (2 : Int32)) (tt := 85) (ff := 86) (L' := [.ref 14, .int v1, .int v2, .int v3, .int (-1 : Int32)]) (S' := []) (σ' := (97, I_44, J, R)) rfl (fun hc_46 => ?_) (fun hc_46 => ?_)
                    · rw [if_pos hc_46] at h
                      have h := Option.some.inj h
                      subst h
                      exact az_E.ret (v := none) (σ' := (97, I_44, J, R)) rfl hQ
                    · rw [if_neg hc_46] at h
                      refine az_E.sn 2 (pc' := 21) (L' := [.ref 14, .int v1, .int v2, .int (v3 + (1 : Int32)), .int (-1 : Int32)]) (S' := []) (σ' := (97, I_44, J, R)) rfl ?_
                      have h := Option.some.inj h
                      subst h
                      exact az_E.forget (L := [.ref 14, .int v1, .int v2, .int (v3 + (1 : Int32)), .retAddr 0]) ⟨rfl, rfl, rfl, rfl, trivial, trivial⟩ hQ
              · rw [if_neg hc_39] at h
                refine az_E.sn 4 (pc' := 15) (L' := [.ref 14]) (S' := [.int (I 14 1), .int (I 14 2)]) (σ' := (97, I, J, R)) rfl ?_
                refine az_E.br (c := (I 14 1) ≤ (I 14 2)) (tt := 30) (ff := 18) (L' := [.ref 14]) (S' := []) (σ' := (97, I, J, R)) rfl (fun hc_47 => ?_) (fun hc_47 => ?_)
                · rw [if_pos hc_47] at h
                  refine az_E.sn 1 (pc' := 31) (L' := [.ref 14]) (S' := [.int (-1 : Int32)]) (σ' := (97, I, J, R)) rfl ?_
                  refine az_E.ret (v := some (.int (-1 : Int32))) (σ' := (97, I, J, R)) rfl ?_
                  show az_E az_F ex (d + 2) 69 49 [.ref 14, .int v1, .int v2, .int v3, .retAddr 0] [.int (-1 : Int32)] (97, I, J, R) _
                  refine az_E.sn 12 (pc' := 66) (L' := [.ref 14, .int v1, .int v2, .int v3, .int (-1 : Int32)]) (S' := [.int v2, .int (v1 + (1 : Int32)), .ref 14]) (σ' := (97, (az_u I 14 2 ((I 14 2) + (1 : Int32))), J, R)) rfl ?_
                  cases hx_50 : rec 69 (v1 + (1 : Int32)) v2 0 0 (az_u I 14 2 ((I 14 2) + (1 : Int32))) with
                  | none => rw [hx_50] at h; cases h
                  | some o =>
                    rw [hx_50] at h
                    obtain ⟨x_48, I_49⟩ := o
                    dsimp only at h
                    refine az_E.call (d := (d + 1)) (k' := 69) (vs := [.ref 14, .int (v1 + (1 : Int32)), .int v2]) (pc' := 69) (S' := []) (Q1 := fun v s => v = none ∧ s = (97, I_49, J, R)) rfl (az_E.deep (by omega) (hg_69 _ _ _ _ _ _ hx_50 (J := J) (R := R) hR_14_4 ⟨rfl, rfl⟩)) (fun v s hq => ?_)
                    obtain ⟨rfl, rfl⟩ := hq
                    show az_E az_F ex (d + 2) 69 69 [.ref 14, .int v1, .int v2, .int v3, .int (-1 : Int32)] [] (97, I_49, J, R) _
                    refine az_E.sn 1 (pc' := 70) (L' := [.ref 14, .int v1, .int v2, .int v3, .int (-1 : Int32)]) (S' := [.ref 14]) (σ' := (97, I_49, J, R)) rfl ?_
                    refine az_E.ov (pc' := 73) (L' := [.ref 14, .int v1, .int v2, .int v3, .int (-1 : Int32)]) (S' := []) (σ' := (97, I_49, J, R)) (x := .ref 16) rfl (congrArg (fun z => some (va_rf z)) hR_14_4) ?_
                    refine az_E.sn 2 (pc' := 76) (L' := [.ref 14, .int v1, .int v2, .int v3, .int (-1 : Int32)]) (S' := [.int (0 : Int32), .int (-1 : Int32), .ref 16]) (σ' := (97, I_49, J, R)) rfl ?_
                    cases hx_53 : rs_La_add 16 I_49 (-1 : Int32) (0 : Int32) with
                    | none => rw [hx_53] at h; cases h
                    | some o =>
                      rw [hx_53] at h
                      obtain ⟨x_51, I_52⟩ := o
                      dsimp only at h
                      refine az_E.call (d := (d + 1)) (k' := 28) (vs := [.ref 16, .int (-1 : Int32), .int (0 : Int32)]) (pc' := 79) (S' := []) (Q1 := fun v s => v = some (.int x_51) ∧ s = (97, I_52, J, R)) rfl (az_E.deep (by omega) (re_La_add_16 (J := J) (R := R)  hx_53 ⟨rfl, rfl⟩)) (fun v s hq => ?_)
                      obtain ⟨rfl, rfl⟩ := hq
                      show az_E az_F ex (d + 2) 69 79 [.ref 14, .int v1, .int v2, .int v3, .int (-1 : Int32)] [.int x_51] (97, I_52, J, R) _
                      refine az_E.sn 3 (pc' := 82) (L' := [.ref 14, .int v1, .int v2, .int v3, .int (-1 : Int32)]) (S' := [.int (2 : Int32), .int v1]) (σ' := (97, I_52, J, R)) rfl ?_
                      refine az_E.br (c := v1 = (2 : Int32)) (tt := 85) (ff := 86) (L' := [.ref 14, .int v1, .int v2, .int v3, .int (-1 : Int32)]) (S' := []) (σ' := (97, I_52, J, R)) rfl (fun hc_54 => ?_) (fun hc_54 => ?_)
                      · rw [if_pos hc_54] at h
                        have h := Option.some.inj h
                        subst h
                        exact az_E.ret (v := none) (σ' := (97, I_52, J, R)) rfl hQ
                      · rw [if_neg hc_54] at h
                        refine az_E.sn 2 (pc' := 21) (L' := [.ref 14, .int v1, .int v2, .int (v3 + (1 : Int32)), .int (-1 : Int32)]) (S' := []) (σ' := (97, I_52, J, R)) rfl ?_
                        have h := Option.some.inj h
                        subst h
                        exact az_E.forget (L := [.ref 14, .int v1, .int v2, .int (v3 + (1 : Int32)), .retAddr 0]) ⟨rfl, rfl, rfl, rfl, trivial, trivial⟩ hQ
                · rw [if_neg hc_47] at h
                  refine az_E.sn 4 (pc' := 26) (L' := [.ref 14]) (S' := [.int (I 14 2), .ref 15]) (σ' := (97, I, J, R)) rfl ?_
                  by_cases hc_55 : (I 14 2) < 0 ∨ 120 ≤ (I 14 2).toNatClampNeg
                  · rw [if_pos hc_55] at h; cases h
                  · rw [if_neg hc_55] at h
                    refine az_E.oi (o := az_ai az_F ex (97, I, J, R) 15 (I 14 2)) (pc' := 27) (L' := [.ref 14]) (S' := []) (σ' := (97, I, J, R)) (x := (I 15 (I 14 2).toNatClampNeg)) rfl (if_neg hc_55) ?_
                    refine az_E.sn 1 (pc' := 31) (L' := [.ref 14]) (S' := [.int (I 15 (I 14 2).toNatClampNeg)]) (σ' := (97, I, J, R)) rfl ?_
                    refine az_E.ret (v := some (.int (I 15 (I 14 2).toNatClampNeg))) (σ' := (97, I, J, R)) rfl ?_
                    show az_E az_F ex (d + 2) 69 49 [.ref 14, .int v1, .int v2, .int v3, .retAddr 0] [.int (I 15 (I 14 2).toNatClampNeg)] (97, I, J, R) _
                    refine az_E.sn 12 (pc' := 66) (L' := [.ref 14, .int v1, .int v2, .int v3, .int (I 15 (I 14 2).toNatClampNeg)]) (S' := [.int v2, .int (v1 + (1 : Int32)), .ref 14]) (σ' := (97, (az_u I 14 2 ((I 14 2) + (1 : Int32))), J, R)) rfl ?_
                    cases hx_58 : rec 69 (v1 + (1 : Int32)) v2 0 0 (az_u I 14 2 ((I 14 2) + (1 : Int32))) with
                    | none => rw [hx_58] at h; cases h
                    | some o =>
                      rw [hx_58] at h
                      obtain ⟨x_56, I_57⟩ := o
                      dsimp only at h
                      refine az_E.call (d := (d + 1)) (k' := 69) (vs := [.ref 14, .int (v1 + (1 : Int32)), .int v2]) (pc' := 69) (S' := []) (Q1 := fun v s => v = none ∧ s = (97, I_57, J, R)) rfl (az_E.deep (by omega) (hg_69 _ _ _ _ _ _ hx_58 (J := J) (R := R) hR_14_4 ⟨rfl, rfl⟩)) (fun v s hq => ?_)
                      obtain ⟨rfl, rfl⟩ := hq
                      show az_E az_F ex (d + 2) 69 69 [.ref 14, .int v1, .int v2, .int v3, .int (I 15 (I 14 2).toNatClampNeg)] [] (97, I_57, J, R) _
                      refine az_E.sn 1 (pc' := 70) (L' := [.ref 14, .int v1, .int v2, .int v3, .int (I 15 (I 14 2).toNatClampNeg)]) (S' := [.ref 14]) (σ' := (97, I_57, J, R)) rfl ?_
                      refine az_E.ov (pc' := 73) (L' := [.ref 14, .int v1, .int v2, .int v3, .int (I 15 (I 14 2).toNatClampNeg)]) (S' := []) (σ' := (97, I_57, J, R)) (x := .ref 16) rfl (congrArg (fun z => some (va_rf z)) hR_14_4) ?_
                      refine az_E.sn 2 (pc' := 76) (L' := [.ref 14, .int v1, .int v2, .int v3, .int (I 15 (I 14 2).toNatClampNeg)]) (S' := [.int (0 : Int32), .int (I 15 (I 14 2).toNatClampNeg), .ref 16]) (σ' := (97, I_57, J, R)) rfl ?_
                      cases hx_61 : rs_La_add 16 I_57 (I 15 (I 14 2).toNatClampNeg) (0 : Int32) with
                      | none => rw [hx_61] at h; cases h
                      | some o =>
                        rw [hx_61] at h
                        obtain ⟨x_59, I_60⟩ := o
                        dsimp only at h
                        refine az_E.call (d := (d + 1)) (k' := 28) (vs := [.ref 16, .int (I 15 (I 14 2).toNatClampNeg), .int (0 : Int32)]) (pc' := 79) (S' := []) (Q1 := fun v s => v = some (.int x_59) ∧ s = (97, I_60, J, R)) rfl (az_E.deep (by omega) (re_La_add_16 (J := J) (R := R)  hx_61 ⟨rfl, rfl⟩)) (fun v s hq => ?_)
                        obtain ⟨rfl, rfl⟩ := hq
                        show az_E az_F ex (d + 2) 69 79 [.ref 14, .int v1, .int v2, .int v3, .int (I 15 (I 14 2).toNatClampNeg)] [.int x_59] (97, I_60, J, R) _
                        refine az_E.sn 3 (pc' := 82) (L' := [.ref 14, .int v1, .int v2, .int v3, .int (I 15 (I 14 2).toNatClampNeg)]) (S' := [.int (2 : Int32), .int v1]) (σ' := (97, I_60, J, R)) rfl ?_
                        refine az_E.br (c := v1 = (2 : Int32)) (tt := 85) (ff := 86) (L' := [.ref 14, .int v1, .int v2, .int v3, .int (I 15 (I 14 2).toNatClampNeg)]) (S' := []) (σ' := (97, I_60, J, R)) rfl (fun hc_62 => ?_) (fun hc_62 => ?_)
                        · rw [if_pos hc_62] at h
                          have h := Option.some.inj h
                          subst h
                          exact az_E.ret (v := none) (σ' := (97, I_60, J, R)) rfl hQ
                        · rw [if_neg hc_62] at h
                          refine az_E.sn 2 (pc' := 21) (L' := [.ref 14, .int v1, .int v2, .int (v3 + (1 : Int32)), .int (I 15 (I 14 2).toNatClampNeg)]) (S' := []) (σ' := (97, I_60, J, R)) rfl ?_
                          have h := Option.some.inj h
                          subst h
                          exact az_E.forget (L := [.ref 14, .int v1, .int v2, .int (v3 + (1 : Int32)), .retAddr 0]) ⟨rfl, rfl, rfl, rfl, trivial, trivial⟩ hQ
        · rw [if_neg hc_35] at h
          refine az_E.sn 4 (pc' := 26) (L' := [.ref 14]) (S' := [.int (I 14 2), .ref 15]) (σ' := (97, I, J, R)) rfl ?_
          by_cases hc_63 : (I 14 2) < 0 ∨ 120 ≤ (I 14 2).toNatClampNeg
          · rw [if_pos hc_63] at h; cases h
          · rw [if_neg hc_63] at h
            refine az_E.oi (o := az_ai az_F ex (97, I, J, R) 15 (I 14 2)) (pc' := 27) (L' := [.ref 14]) (S' := []) (σ' := (97, I, J, R)) (x := (I 15 (I 14 2).toNatClampNeg)) rfl (if_neg hc_63) ?_
            refine az_E.sn 1 (pc' := 31) (L' := [.ref 14]) (S' := [.int (I 15 (I 14 2).toNatClampNeg)]) (σ' := (97, I, J, R)) rfl ?_
            refine az_E.ret (v := some (.int (I 15 (I 14 2).toNatClampNeg))) (σ' := (97, I, J, R)) rfl ?_
            show az_E az_F ex (d + 2) 69 39 [.ref 14, .int v1, .int v2, .int v3, .retAddr 0] [.int (I 15 (I 14 2).toNatClampNeg), .int v1] (97, I, J, R) _
            cases hx_65 : rs_Ta_joinsAt v1 (I 15 (I 14 2).toNatClampNeg) with
            | none => rw [hx_65] at h; cases h
            | some x_64 =>
              rw [hx_65] at h
              dsimp only at h
              refine az_E.call (d := (d + 1)) (k' := 70) (vs := [.int v1, .int (I 15 (I 14 2).toNatClampNeg)]) (pc' := 42) (S' := []) (Q1 := fun v s => v = some (.int x_64) ∧ s = (97, I, J, R)) rfl (az_E.deep (by omega) (re_Ta_joinsAt (J := J) (R := R)  hx_65 ⟨rfl, rfl⟩)) (fun v s hq => ?_)
              obtain ⟨rfl, rfl⟩ := hq
              show az_E az_F ex (d + 2) 69 42 [.ref 14, .int v1, .int v2, .int v3, .retAddr 0] [.int x_64] (97, I, J, R) _
              refine az_E.br (c := x_64 = 0) (tt := 92) (ff := 45) (L' := [.ref 14, .int v1, .int v2, .int v3, .retAddr 0]) (S' := []) (σ' := (97, I, J, R)) rfl (fun hc_66 => ?_) (fun hc_66 => ?_)
              · rw [if_pos hc_66] at h
                have h := Option.some.inj h
                subst h
                exact az_E.ret (v := none) (σ' := (97, I, J, R)) rfl hQ
              · rw [if_neg hc_66] at h
                refine az_E.sn 1 (pc' := 46) (L' := [.ref 14, .int v1, .int v2, .int v3, .retAddr 0]) (S' := [.ref 14]) (σ' := (97, I, J, R)) rfl ?_
                refine az_E.call (d := (d + 1)) (k' := 66) (vs := [.ref 14]) (pc' := 49) (S' := []) rfl ?_ (fun _ _ hq => hq)
                show az_E az_F ex (d + 1) 66 0 [.ref 14] [] (97, I, J, R) _
                refine az_E.sn 2 (pc' := 4) (L' := [.ref 14]) (S' := [.int (I 14 2)]) (σ' := (97, I, J, R)) rfl ?_
                refine az_E.br (c := (I 14 2) < 0) (tt := 30) (ff := 7) (L' := [.ref 14]) (S' := []) (σ' := (97, I, J, R)) rfl (fun hc_67 => ?_) (fun hc_67 => ?_)
                · rw [if_pos hc_67] at h
                  refine az_E.sn 1 (pc' := 31) (L' := [.ref 14]) (S' := [.int (-1 : Int32)]) (σ' := (97, I, J, R)) rfl ?_
                  refine az_E.ret (v := some (.int (-1 : Int32))) (σ' := (97, I, J, R)) rfl ?_
                  show az_E az_F ex (d + 2) 69 49 [.ref 14, .int v1, .int v2, .int v3, .retAddr 0] [.int (-1 : Int32)] (97, I, J, R) _
                  refine az_E.sn 12 (pc' := 66) (L' := [.ref 14, .int v1, .int v2, .int v3, .int (-1 : Int32)]) (S' := [.int v2, .int (v1 + (1 : Int32)), .ref 14]) (σ' := (97, (az_u I 14 2 ((I 14 2) + (1 : Int32))), J, R)) rfl ?_
                  cases hx_70 : rec 69 (v1 + (1 : Int32)) v2 0 0 (az_u I 14 2 ((I 14 2) + (1 : Int32))) with
                  | none => rw [hx_70] at h; cases h
                  | some o =>
                    rw [hx_70] at h
                    obtain ⟨x_68, I_69⟩ := o
                    dsimp only at h
                    refine az_E.call (d := (d + 1)) (k' := 69) (vs := [.ref 14, .int (v1 + (1 : Int32)), .int v2]) (pc' := 69) (S' := []) (Q1 := fun v s => v = none ∧ s = (97, I_69, J, R)) rfl (az_E.deep (by omega) (hg_69 _ _ _ _ _ _ hx_70 (J := J) (R := R) hR_14_4 ⟨rfl, rfl⟩)) (fun v s hq => ?_)
                    obtain ⟨rfl, rfl⟩ := hq
                    show az_E az_F ex (d + 2) 69 69 [.ref 14, .int v1, .int v2, .int v3, .int (-1 : Int32)] [] (97, I_69, J, R) _
                    refine az_E.sn 1 (pc' := 70) (L' := [.ref 14, .int v1, .int v2, .int v3, .int (-1 : Int32)]) (S' := [.ref 14]) (σ' := (97, I_69, J, R)) rfl ?_
                    refine az_E.ov (pc' := 73) (L' := [.ref 14, .int v1, .int v2, .int v3, .int (-1 : Int32)]) (S' := []) (σ' := (97, I_69, J, R)) (x := .ref 16) rfl (congrArg (fun z => some (va_rf z)) hR_14_4) ?_
                    refine az_E.sn 2 (pc' := 76) (L' := [.ref 14, .int v1, .int v2, .int v3, .int (-1 : Int32)]) (S' := [.int (0 : Int32), .int (-1 : Int32), .ref 16]) (σ' := (97, I_69, J, R)) rfl ?_
                    cases hx_73 : rs_La_add 16 I_69 (-1 : Int32) (0 : Int32) with
                    | none => rw [hx_73] at h; cases h
                    | some o =>
                      rw [hx_73] at h
                      obtain ⟨x_71, I_72⟩ := o
                      dsimp only at h
                      refine az_E.call (d := (d + 1)) (k' := 28) (vs := [.ref 16, .int (-1 : Int32), .int (0 : Int32)]) (pc' := 79) (S' := []) (Q1 := fun v s => v = some (.int x_71) ∧ s = (97, I_72, J, R)) rfl (az_E.deep (by omega) (re_La_add_16 (J := J) (R := R)  hx_73 ⟨rfl, rfl⟩)) (fun v s hq => ?_)
                      obtain ⟨rfl, rfl⟩ := hq
                      show az_E az_F ex (d + 2) 69 79 [.ref 14, .int v1, .int v2, .int v3, .int (-1 : Int32)] [.int x_71] (97, I_72, J, R) _
                      refine az_E.sn 3 (pc' := 82) (L' := [.ref 14, .int v1, .int v2, .int v3, .int (-1 : Int32)]) (S' := [.int (2 : Int32), .int v1]) (σ' := (97, I_72, J, R)) rfl ?_
                      refine az_E.br (c := v1 = (2 : Int32)) (tt := 85) (ff := 86) (L' := [.ref 14, .int v1, .int v2, .int v3, .int (-1 : Int32)]) (S' := []) (σ' := (97, I_72, J, R)) rfl (fun hc_74 => ?_) (fun hc_74 => ?_)
                      · rw [if_pos hc_74] at h
                        have h := Option.some.inj h
                        subst h
                        exact az_E.ret (v := none) (σ' := (97, I_72, J, R)) rfl hQ
                      · rw [if_neg hc_74] at h
                        refine az_E.sn 2 (pc' := 21) (L' := [.ref 14, .int v1, .int v2, .int (v3 + (1 : Int32)), .int (-1 : Int32)]) (S' := []) (σ' := (97, I_72, J, R)) rfl ?_
                        have h := Option.some.inj h
                        subst h
                        exact az_E.forget (L := [.ref 14, .int v1, .int v2, .int (v3 + (1 : Int32)), .retAddr 0]) ⟨rfl, rfl, rfl, rfl, trivial, trivial⟩ hQ
                · rw [if_neg hc_67] at h
                  refine az_E.sn 4 (pc' := 15) (L' := [.ref 14]) (S' := [.int (I 14 1), .int (I 14 2)]) (σ' := (97, I, J, R)) rfl ?_
                  refine az_E.br (c := (I 14 1) ≤ (I 14 2)) (tt := 30) (ff := 18) (L' := [.ref 14]) (S' := []) (σ' := (97, I, J, R)) rfl (fun hc_75 => ?_) (fun hc_75 => ?_)
                  · rw [if_pos hc_75] at h
                    refine az_E.sn 1 (pc' := 31) (L' := [.ref 14]) (S' := [.int (-1 : Int32)]) (σ' := (97, I, J, R)) rfl ?_
                    refine az_E.ret (v := some (.int (-1 : Int32))) (σ' := (97, I, J, R)) rfl ?_
                    show az_E az_F ex (d + 2) 69 49 [.ref 14, .int v1, .int v2, .int v3, .retAddr 0] [.int (-1 : Int32)] (97, I, J, R) _
                    refine az_E.sn 12 (pc' := 66) (L' := [.ref 14, .int v1, .int v2, .int v3, .int (-1 : Int32)]) (S' := [.int v2, .int (v1 + (1 : Int32)), .ref 14]) (σ' := (97, (az_u I 14 2 ((I 14 2) + (1 : Int32))), J, R)) rfl ?_
                    cases hx_78 : rec 69 (v1 + (1 : Int32)) v2 0 0 (az_u I 14 2 ((I 14 2) + (1 : Int32))) with
                    | none => rw [hx_78] at h; cases h
                    | some o =>
                      rw [hx_78] at h
                      obtain ⟨x_76, I_77⟩ := o
                      dsimp only at h
                      refine az_E.call (d := (d + 1)) (k' := 69) (vs := [.ref 14, .int (v1 + (1 : Int32)), .int v2]) (pc' := 69) (S' := []) (Q1 := fun v s => v = none ∧ s = (97, I_77, J, R)) rfl (az_E.deep (by omega) (hg_69 _ _ _ _ _ _ hx_78 (J := J) (R := R) hR_14_4 ⟨rfl, rfl⟩)) (fun v s hq => ?_)
                      obtain ⟨rfl, rfl⟩ := hq
                      show az_E az_F ex (d + 2) 69 69 [.ref 14, .int v1, .int v2, .int v3, .int (-1 : Int32)] [] (97, I_77, J, R) _
                      refine az_E.sn 1 (pc' := 70) (L' := [.ref 14, .int v1, .int v2, .int v3, .int (-1 : Int32)]) (S' := [.ref 14]) (σ' := (97, I_77, J, R)) rfl ?_
                      refine az_E.ov (pc' := 73) (L' := [.ref 14, .int v1, .int v2, .int v3, .int (-1 : Int32)]) (S' := []) (σ' := (97, I_77, J, R)) (x := .ref 16) rfl (congrArg (fun z => some (va_rf z)) hR_14_4) ?_
                      refine az_E.sn 2 (pc' := 76) (L' := [.ref 14, .int v1, .int v2, .int v3, .int (-1 : Int32)]) (S' := [.int (0 : Int32), .int (-1 : Int32), .ref 16]) (σ' := (97, I_77, J, R)) rfl ?_
                      cases hx_81 : rs_La_add 16 I_77 (-1 : Int32) (0 : Int32) with
                      | none => rw [hx_81] at h; cases h
                      | some o =>
                        rw [hx_81] at h
                        obtain ⟨x_79, I_80⟩ := o
                        dsimp only at h
                        refine az_E.call (d := (d + 1)) (k' := 28) (vs := [.ref 16, .int (-1 : Int32), .int (0 : Int32)]) (pc' := 79) (S' := []) (Q1 := fun v s => v = some (.int x_79) ∧ s = (97, I_80, J, R)) rfl (az_E.deep (by omega) (re_La_add_16 (J := J) (R := R)  hx_81 ⟨rfl, rfl⟩)) (fun v s hq => ?_)
                        obtain ⟨rfl, rfl⟩ := hq
                        show az_E az_F ex (d + 2) 69 79 [.ref 14, .int v1, .int v2, .int v3, .int (-1 : Int32)] [.int x_79] (97, I_80, J, R) _
                        refine az_E.sn 3 (pc' := 82) (L' := [.ref 14, .int v1, .int v2, .int v3, .int (-1 : Int32)]) (S' := [.int (2 : Int32), .int v1]) (σ' := (97, I_80, J, R)) rfl ?_
                        refine az_E.br (c := v1 = (2 : Int32)) (tt := 85) (ff := 86) (L' := [.ref 14, .int v1, .int v2, .int v3, .int (-1 : Int32)]) (S' := []) (σ' := (97, I_80, J, R)) rfl (fun hc_82 => ?_) (fun hc_82 => ?_)
                        · rw [if_pos hc_82] at h
                          have h := Option.some.inj h
                          subst h
                          exact az_E.ret (v := none) (σ' := (97, I_80, J, R)) rfl hQ
                        · rw [if_neg hc_82] at h
                          refine az_E.sn 2 (pc' := 21) (L' := [.ref 14, .int v1, .int v2, .int (v3 + (1 : Int32)), .int (-1 : Int32)]) (S' := []) (σ' := (97, I_80, J, R)) rfl ?_
                          have h := Option.some.inj h
                          subst h
                          exact az_E.forget (L := [.ref 14, .int v1, .int v2, .int (v3 + (1 : Int32)), .retAddr 0]) ⟨rfl, rfl, rfl, rfl, trivial, trivial⟩ hQ
                  · rw [if_neg hc_75] at h
                    refine az_E.sn 4 (pc' := 26) (L' := [.ref 14]) (S' := [.int (I 14 2), .ref 15]) (σ' := (97, I, J, R)) rfl ?_
                    by_cases hc_83 : (I 14 2) < 0 ∨ 120 ≤ (I 14 2).toNatClampNeg
                    · rw [if_pos hc_83] at h; cases h
                    · rw [if_neg hc_83] at h
                      refine az_E.oi (o := az_ai az_F ex (97, I, J, R) 15 (I 14 2)) (pc' := 27) (L' := [.ref 14]) (S' := []) (σ' := (97, I, J, R)) (x := (I 15 (I 14 2).toNatClampNeg)) rfl (if_neg hc_83) ?_
                      refine az_E.sn 1 (pc' := 31) (L' := [.ref 14]) (S' := [.int (I 15 (I 14 2).toNatClampNeg)]) (σ' := (97, I, J, R)) rfl ?_
                      refine az_E.ret (v := some (.int (I 15 (I 14 2).toNatClampNeg))) (σ' := (97, I, J, R)) rfl ?_
                      show az_E az_F ex (d + 2) 69 49 [.ref 14, .int v1, .int v2, .int v3, .retAddr 0] [.int (I 15 (I 14 2).toNatClampNeg)] (97, I, J, R) _
                      refine az_E.sn 12 (pc' := 66) (L' := [.ref 14, .int v1, .int v2, .int v3, .int (I 15 (I 14 2).toNatClampNeg)]) (S' := [.int v2, .int (v1 + (1 : Int32)), .ref 14]) (σ' := (97, (az_u I 14 2 ((I 14 2) + (1 : Int32))), J, R)) rfl ?_
                      cases hx_86 : rec 69 (v1 + (1 : Int32)) v2 0 0 (az_u I 14 2 ((I 14 2) + (1 : Int32))) with
                      | none => rw [hx_86] at h; cases h
                      | some o =>
                        rw [hx_86] at h
                        obtain ⟨x_84, I_85⟩ := o
                        dsimp only at h
                        refine az_E.call (d := (d + 1)) (k' := 69) (vs := [.ref 14, .int (v1 + (1 : Int32)), .int v2]) (pc' := 69) (S' := []) (Q1 := fun v s => v = none ∧ s = (97, I_85, J, R)) rfl (az_E.deep (by omega) (hg_69 _ _ _ _ _ _ hx_86 (J := J) (R := R) hR_14_4 ⟨rfl, rfl⟩)) (fun v s hq => ?_)
                        obtain ⟨rfl, rfl⟩ := hq
                        show az_E az_F ex (d + 2) 69 69 [.ref 14, .int v1, .int v2, .int v3, .int (I 15 (I 14 2).toNatClampNeg)] [] (97, I_85, J, R) _
                        refine az_E.sn 1 (pc' := 70) (L' := [.ref 14, .int v1, .int v2, .int v3, .int (I 15 (I 14 2).toNatClampNeg)]) (S' := [.ref 14]) (σ' := (97, I_85, J, R)) rfl ?_
                        refine az_E.ov (pc' := 73) (L' := [.ref 14, .int v1, .int v2, .int v3, .int (I 15 (I 14 2).toNatClampNeg)]) (S' := []) (σ' := (97, I_85, J, R)) (x := .ref 16) rfl (congrArg (fun z => some (va_rf z)) hR_14_4) ?_
                        refine az_E.sn 2 (pc' := 76) (L' := [.ref 14, .int v1, .int v2, .int v3, .int (I 15 (I 14 2).toNatClampNeg)]) (S' := [.int (0 : Int32), .int (I 15 (I 14 2).toNatClampNeg), .ref 16]) (σ' := (97, I_85, J, R)) rfl ?_
                        cases hx_89 : rs_La_add 16 I_85 (I 15 (I 14 2).toNatClampNeg) (0 : Int32) with
                        | none => rw [hx_89] at h; cases h
                        | some o =>
                          rw [hx_89] at h
                          obtain ⟨x_87, I_88⟩ := o
                          dsimp only at h
                          refine az_E.call (d := (d + 1)) (k' := 28) (vs := [.ref 16, .int (I 15 (I 14 2).toNatClampNeg), .int (0 : Int32)]) (pc' := 79) (S' := []) (Q1 := fun v s => v = some (.int x_87) ∧ s = (97, I_88, J, R)) rfl (az_E.deep (by omega) (re_La_add_16 (J := J) (R := R)  hx_89 ⟨rfl, rfl⟩)) (fun v s hq => ?_)
                          obtain ⟨rfl, rfl⟩ := hq
                          show az_E az_F ex (d + 2) 69 79 [.ref 14, .int v1, .int v2, .int v3, .int (I 15 (I 14 2).toNatClampNeg)] [.int x_87] (97, I_88, J, R) _
                          refine az_E.sn 3 (pc' := 82) (L' := [.ref 14, .int v1, .int v2, .int v3, .int (I 15 (I 14 2).toNatClampNeg)]) (S' := [.int (2 : Int32), .int v1]) (σ' := (97, I_88, J, R)) rfl ?_
                          refine az_E.br (c := v1 = (2 : Int32)) (tt := 85) (ff := 86) (L' := [.ref 14, .int v1, .int v2, .int v3, .int (I 15 (I 14 2).toNatClampNeg)]) (S' := []) (σ' := (97, I_88, J, R)) rfl (fun hc_90 => ?_) (fun hc_90 => ?_)
                          · rw [if_pos hc_90] at h
                            have h := Option.some.inj h
                            subst h
                            exact az_E.ret (v := none) (σ' := (97, I_88, J, R)) rfl hQ
                          · rw [if_neg hc_90] at h
                            refine az_E.sn 2 (pc' := 21) (L' := [.ref 14, .int v1, .int v2, .int (v3 + (1 : Int32)), .int (I 15 (I 14 2).toNatClampNeg)]) (S' := []) (σ' := (97, I_88, J, R)) rfl ?_
                            have h := Option.some.inj h
                            subst h
                            exact az_E.forget (L := [.ref 14, .int v1, .int v2, .int (v3 + (1 : Int32)), .retAddr 0]) ⟨rfl, rfl, rfl, rfl, trivial, trivial⟩ hQ
set_option maxRecDepth 100000 in
set_option maxHeartbeats 4000000 in
theorem re_Ta_readLevel_21_16 {rec : az_GT} {d : Nat} {ex : az_X} {I : Nat → Nat → Int32} {J : Nat → Nat → Int64} {R : Nat → Nat → Option Nat} {v1 : Int32} {v2 : Int32} {v3 : Int32} (hg_69 : ∀ (b1 b2 b3 b4 : Int32) (I : Nat → Nat → Int32) (o : Int32 × (Nat → Nat → Int32)), rec 69 b1 b2 b3 b4 I = some o → ∀ {J : Nat → Nat → Int64} {R : Nat → Nat → Option Nat} {Q : Option Value → az_S → Prop}, R 14 4 = some 16 → Q none (97, o.2, J, R) → az_E az_F ex d 69 0 [.ref 14, .int b1, .int b2, .retAddr 0, .retAddr 0] [] (97, I, J, R) Q) (hg_71 : ∀ (b1 b2 b3 b4 : Int32) (I : Nat → Nat → Int32) (o : Int32 × (Nat → Nat → Int32)), rec 71 b1 b2 b3 b4 I = some o → ∀ {J : Nat → Nat → Int64} {R : Nat → Nat → Option Nat} {Q : Option Value → az_S → Prop}, R 14 4 = some 16 → Q none (97, o.2, J, R) → az_E az_F ex d 71 0 [.ref 14, .int b1, .retAddr 0] [] (97, I, J, R) Q) (hR_14_4 : R 14 4 = some 16) {x : (Nat → Nat → Int32)} (h : rs_Ta_readLevel_21 rec 16 I v1 v2 v3 = some x) {Q : Option Value → az_S → Prop} (hQ : Q none (97, x, J, R)) : az_E az_F ex (d + 2) 69 21 [.ref 14, .int v1, .int v2, .int v3, .retAddr 0] [] (97, I, J, R) Q := by
  unfold rs_Ta_readLevel_21 at h
  refine az_lp_E (G := fun s => az_E az_F ex (d + 2) 69 21 [.ref 14, .int v1, .int v2, .int s.1, .retAddr 0] [] (97, s.2, J, R) Q) (H := fun x => Q none (97, x, J, R)) (fun s o hb ho => ?_) _ _ _ h hQ
  exact re_Ta_readLevel_21_b_16 hg_69 hg_71 hR_14_4 hb ho
set_option maxRecDepth 100000 in
set_option maxHeartbeats 4000000 in
theorem re_Ta_readLevel_16 {rec : az_GT} {d : Nat} {ex : az_X} {I : Nat → Nat → Int32} {J : Nat → Nat → Int64} {R : Nat → Nat → Option Nat} {a1 : Int32} {a2 : Int32} (hg_69 : ∀ (b1 b2 b3 b4 : Int32) (I : Nat → Nat → Int32) (o : Int32 × (Nat → Nat → Int32)), rec 69 b1 b2 b3 b4 I = some o → ∀ {J : Nat → Nat → Int64} {R : Nat → Nat → Option Nat} {Q : Option Value → az_S → Prop}, R 14 4 = some 16 → Q none (97, o.2, J, R) → az_E az_F ex d 69 0 [.ref 14, .int b1, .int b2, .retAddr 0, .retAddr 0] [] (97, I, J, R) Q) (hg_71 : ∀ (b1 b2 b3 b4 : Int32) (I : Nat → Nat → Int32) (o : Int32 × (Nat → Nat → Int32)), rec 71 b1 b2 b3 b4 I = some o → ∀ {J : Nat → Nat → Int64} {R : Nat → Nat → Option Nat} {Q : Option Value → az_S → Prop}, R 14 4 = some 16 → Q none (97, o.2, J, R) → az_E az_F ex d 71 0 [.ref 14, .int b1, .retAddr 0] [] (97, I, J, R) Q) (hR_14_4 : R 14 4 = some 16) {o : (Nat → Nat → Int32)} (h : rs_Ta_readLevel rec 16 I a1 a2 = some o) {Q : Option Value → az_S → Prop} (hQ : Q none (97, o, J, R)) : az_E az_F ex (d + 2) 69 0 [.ref 14, .int a1, .int a2, .retAddr 0, .retAddr 0] [] (97, I, J, R) Q := by
  unfold rs_Ta_readLevel at h
  refine az_E.sn 2 (pc' := 2) (L' := [.ref 14, .int a1, .int a2, .retAddr 0, .retAddr 0]) (S' := [.int (5 : Int32), .int a1]) (σ' := (97, I, J, R)) rfl ?_
  refine az_E.br (c := a1 < (5 : Int32)) (tt := 11) (ff := 5) (L' := [.ref 14, .int a1, .int a2, .retAddr 0, .retAddr 0]) (S' := []) (σ' := (97, I, J, R)) rfl (fun hc_1 => ?_) (fun hc_1 => ?_)
  · rw [if_pos hc_1] at h
    refine az_E.sn 5 (pc' := 16) (L' := [.ref 14, .int a1, .int a2, .retAddr 0, .retAddr 0]) (S' := [.int a2, .int (a1 + (1 : Int32)), .ref 14]) (σ' := (97, I, J, R)) rfl ?_
    cases hx_4 : rec 69 (a1 + (1 : Int32)) a2 0 0 I with
    | none => rw [hx_4] at h; cases h
    | some o =>
      rw [hx_4] at h
      obtain ⟨x_2, I_3⟩ := o
      dsimp only at h
      refine az_E.call (d := (d + 1)) (k' := 69) (vs := [.ref 14, .int (a1 + (1 : Int32)), .int a2]) (pc' := 19) (S' := []) (Q1 := fun v s => v = none ∧ s = (97, I_3, J, R)) rfl (az_E.deep (by omega) (hg_69 _ _ _ _ _ _ hx_4 (J := J) (R := R) hR_14_4 ⟨rfl, rfl⟩)) (fun v s hq => ?_)
      obtain ⟨rfl, rfl⟩ := hq
      show az_E az_F ex (d + 2) 69 19 [.ref 14, .int a1, .int a2, .retAddr 0, .retAddr 0] [] (97, I_3, J, R) _
      refine az_E.sn 2 (pc' := 21) (L' := [.ref 14, .int a1, .int a2, .int (0 : Int32), .retAddr 0]) (S' := []) (σ' := (97, I_3, J, R)) rfl ?_
      exact az_E.forget (L := [.ref 14, .int a1, .int a2, .int (0 : Int32), .retAddr 0]) ⟨rfl, rfl, rfl, rfl, trivial, trivial⟩ (re_Ta_readLevel_21_16 (I := I_3) (J := J) (R := R) hg_69 hg_71 hR_14_4 h hQ)
  · rw [if_neg hc_1] at h
    refine az_E.sn 2 (pc' := 7) (L' := [.ref 14, .int a1, .int a2, .retAddr 0, .retAddr 0]) (S' := [.int a2, .ref 14]) (σ' := (97, I, J, R)) rfl ?_
    cases hx_93 : rec 71 a2 0 0 0 I with
    | none => rw [hx_93] at h; cases h
    | some o =>
      rw [hx_93] at h
      obtain ⟨x_91, I_92⟩ := o
      dsimp only at h
      refine az_E.call (d := (d + 1)) (k' := 71) (vs := [.ref 14, .int a2]) (pc' := 10) (S' := []) (Q1 := fun v s => v = none ∧ s = (97, I_92, J, R)) rfl (az_E.deep (by omega) (hg_71 _ _ _ _ _ _ hx_93 (J := J) (R := R) hR_14_4 ⟨rfl, rfl⟩)) (fun v s hq => ?_)
      obtain ⟨rfl, rfl⟩ := hq
      show az_E az_F ex (d + 2) 69 10 [.ref 14, .int a1, .int a2, .retAddr 0, .retAddr 0] [] (97, I_92, J, R) _
      have h := Option.some.inj h
      subst h
      exact az_E.ret (v := none) (σ' := (97, I_92, J, R)) rfl hQ
set_option maxRecDepth 100000 in
set_option maxHeartbeats 4000000 in
theorem re_Ta_readNumber_48_16 {ex : az_X} {I : Nat → Nat → Int32} {J : Nat → Nat → Int64} {R : Nat → Nat → Option Nat} {v1 : Int32} (hR_14_4 : R 14 4 = some 16) {x : (Nat → Nat → Int32)} (h : rs_Ta_readNumber_48 16 I v1 = some x) {Q : Option Value → az_S → Prop} (hQ : Q none (97, x, J, R)) : az_E az_F ex 1 73 48 [.ref 14, .int v1, .retAddr 0] [] (97, I, J, R) Q := by
  unfold rs_Ta_readNumber_48 at h
  refine az_E.sn 1 (pc' := 49) (L' := [.ref 14, .int v1, .retAddr 0]) (S' := [.ref 14]) (σ' := (97, I, J, R)) rfl ?_
  refine az_E.ov (pc' := 52) (L' := [.ref 14, .int v1, .retAddr 0]) (S' := []) (σ' := (97, I, J, R)) (x := .ref 16) rfl (congrArg (fun z => some (va_rf z)) hR_14_4) ?_
  refine az_E.sn 2 (pc' := 55) (L' := [.ref 14, .int v1, .retAddr 0]) (S' := [.int v1, .int (35 : Int32), .ref 16]) (σ' := (97, I, J, R)) rfl ?_
  cases hx_4 : rs_La_add 16 I (35 : Int32) v1 with
  | none => rw [hx_4] at h; cases h
  | some o =>
    rw [hx_4] at h
    obtain ⟨x_2, I_3⟩ := o
    dsimp only at h
    refine az_E.call (d := 0) (k' := 28) (vs := [.ref 16, .int (35 : Int32), .int v1]) (pc' := 58) (S' := []) (Q1 := fun v s => v = some (.int x_2) ∧ s = (97, I_3, J, R)) rfl (az_E.deep (by omega) (re_La_add_16 (J := J) (R := R)  hx_4 ⟨rfl, rfl⟩)) (fun v s hq => ?_)
    obtain ⟨rfl, rfl⟩ := hq
    show az_E az_F ex 1 73 58 [.ref 14, .int v1, .retAddr 0] [.int x_2] (97, I_3, J, R) _
    refine az_E.sn 1 (pc' := 59) (L' := [.ref 14, .int v1, .retAddr 0]) (S' := []) (σ' := (97, I_3, J, R)) rfl ?_
    have h := Option.some.inj h
    subst h
    exact az_E.ret (v := none) (σ' := (97, I_3, J, R)) rfl hQ
set_option maxRecDepth 100000 in
set_option maxHeartbeats 4000000 in
theorem re_Ta_readNumber_4_b_16 {ex : az_X} {I : Nat → Nat → Int32} {J : Nat → Nat → Int64} {R : Nat → Nat → Option Nat} {v1 : Int32} {v2 : Int32} (hR_14_4 : R 14 4 = some 16) {x : ((Int32 × Int32 × (Nat → Nat → Int32)) ⊕ ((Nat → Nat → Int32)))} (h : rs_Ta_readNumber_4_b 16 v1 v2 I = some x) {Q : Option Value → az_S → Prop} (hQ : Sum.elim (fun s => az_E az_F ex 1 73 4 [.ref 14, .int s.1, .int s.2.1] [] (97, s.2.2, J, R) Q) (fun x => Q none (97, x, J, R)) x) : az_E az_F ex 1 73 4 [.ref 14, .int v1, .int v2] [] (97, I, J, R) Q := by
  unfold rs_Ta_readNumber_4_b at h
  refine az_E.sn 2 (pc' := 6) (L' := [.ref 14, .int v1, .int v2]) (S' := [.int (4 : Int32), .int v2]) (σ' := (97, I, J, R)) rfl ?_
  refine az_E.br (c := (4 : Int32) ≤ v2) (tt := 48) (ff := 9) (L' := [.ref 14, .int v1, .int v2]) (S' := []) (σ' := (97, I, J, R)) rfl (fun hc_1 => ?_) (fun hc_1 => ?_)
  · rw [if_pos hc_1] at h
    obtain ⟨x, hx, rfl⟩ := Option.map_eq_some_iff.mp h
    exact az_E.forget (L := [.ref 14, .int v1, .retAddr 0]) ⟨rfl, rfl, trivial, trivial⟩ (re_Ta_readNumber_48_16 (I := I) (J := J) (R := R) hR_14_4 hx hQ)
  · rw [if_neg hc_1] at h
    refine az_E.sn 1 (pc' := 10) (L' := [.ref 14, .int v1, .int v2]) (S' := [.ref 14]) (σ' := (97, I, J, R)) rfl ?_
    refine az_E.call (d := 0) (k' := 66) (vs := [.ref 14]) (pc' := 13) (S' := []) rfl ?_ (fun _ _ hq => hq)
    show az_E az_F ex 0 66 0 [.ref 14] [] (97, I, J, R) _
    refine az_E.sn 2 (pc' := 4) (L' := [.ref 14]) (S' := [.int (I 14 2)]) (σ' := (97, I, J, R)) rfl ?_
    refine az_E.br (c := (I 14 2) < 0) (tt := 30) (ff := 7) (L' := [.ref 14]) (S' := []) (σ' := (97, I, J, R)) rfl (fun hc_5 => ?_) (fun hc_5 => ?_)
    · rw [if_pos hc_5] at h
      refine az_E.sn 1 (pc' := 31) (L' := [.ref 14]) (S' := [.int (-1 : Int32)]) (σ' := (97, I, J, R)) rfl ?_
      refine az_E.ret (v := some (.int (-1 : Int32))) (σ' := (97, I, J, R)) rfl ?_
      show az_E az_F ex 1 73 13 [.ref 14, .int v1, .int v2] [.int (-1 : Int32)] (97, I, J, R) _
      refine az_E.call (d := 0) (k' := 74) (vs := [.int (-1 : Int32)]) (pc' := 16) (S' := []) rfl ?_ (fun _ _ hq => hq)
      show az_E az_F ex 0 74 0 [.int (-1 : Int32)] [] (97, I, J, R) _
      refine az_E.sn 2 (pc' := 3) (L' := [.int (-1 : Int32)]) (S' := [.int (48 : Int32), .int (-1 : Int32)]) (σ' := (97, I, J, R)) rfl ?_
      refine az_E.br (c := (-1 : Int32) < (48 : Int32)) (tt := 16) (ff := 6) (L' := [.int (-1 : Int32)]) (S' := []) (σ' := (97, I, J, R)) rfl (fun _ => ?_) (fun hn => absurd (by decide) hn)
      refine az_E.sn 1 (pc' := 17) (L' := [.int (-1 : Int32)]) (S' := [.int (0 : Int32)]) (σ' := (97, I, J, R)) rfl ?_
      refine az_E.ret (v := some (.int (0 : Int32))) (σ' := (97, I, J, R)) rfl ?_
      show az_E az_F ex 1 73 16 [.ref 14, .int v1, .int v2] [.int (0 : Int32)] (97, I, J, R) _
      refine az_E.br (c := (0 : Int32) = 0) (tt := 48) (ff := 19) (L' := [.ref 14, .int v1, .int v2]) (S' := []) (σ' := (97, I, J, R)) rfl (fun _ => ?_) (fun hn => absurd (by decide) hn)
      obtain ⟨x, hx, rfl⟩ := Option.map_eq_some_iff.mp h
      exact az_E.forget (L := [.ref 14, .int v1, .retAddr 0]) ⟨rfl, rfl, trivial, trivial⟩ (re_Ta_readNumber_48_16 (I := I) (J := J) (R := R) hR_14_4 hx hQ)
    · rw [if_neg hc_5] at h
      refine az_E.sn 4 (pc' := 15) (L' := [.ref 14]) (S' := [.int (I 14 1), .int (I 14 2)]) (σ' := (97, I, J, R)) rfl ?_
      refine az_E.br (c := (I 14 1) ≤ (I 14 2)) (tt := 30) (ff := 18) (L' := [.ref 14]) (S' := []) (σ' := (97, I, J, R)) rfl (fun hc_6 => ?_) (fun hc_6 => ?_)
      · rw [if_pos hc_6] at h
        refine az_E.sn 1 (pc' := 31) (L' := [.ref 14]) (S' := [.int (-1 : Int32)]) (σ' := (97, I, J, R)) rfl ?_
        refine az_E.ret (v := some (.int (-1 : Int32))) (σ' := (97, I, J, R)) rfl ?_
        show az_E az_F ex 1 73 13 [.ref 14, .int v1, .int v2] [.int (-1 : Int32)] (97, I, J, R) _
        refine az_E.call (d := 0) (k' := 74) (vs := [.int (-1 : Int32)]) (pc' := 16) (S' := []) rfl ?_ (fun _ _ hq => hq)
        show az_E az_F ex 0 74 0 [.int (-1 : Int32)] [] (97, I, J, R) _
        refine az_E.sn 2 (pc' := 3) (L' := [.int (-1 : Int32)]) (S' := [.int (48 : Int32), .int (-1 : Int32)]) (σ' := (97, I, J, R)) rfl ?_
        refine az_E.br (c := (-1 : Int32) < (48 : Int32)) (tt := 16) (ff := 6) (L' := [.int (-1 : Int32)]) (S' := []) (σ' := (97, I, J, R)) rfl (fun _ => ?_) (fun hn => absurd (by decide) hn)
        refine az_E.sn 1 (pc' := 17) (L' := [.int (-1 : Int32)]) (S' := [.int (0 : Int32)]) (σ' := (97, I, J, R)) rfl ?_
        refine az_E.ret (v := some (.int (0 : Int32))) (σ' := (97, I, J, R)) rfl ?_
        show az_E az_F ex 1 73 16 [.ref 14, .int v1, .int v2] [.int (0 : Int32)] (97, I, J, R) _
        refine az_E.br (c := (0 : Int32) = 0) (tt := 48) (ff := 19) (L' := [.ref 14, .int v1, .int v2]) (S' := []) (σ' := (97, I, J, R)) rfl (fun _ => ?_) (fun hn => absurd (by decide) hn)
        obtain ⟨x, hx, rfl⟩ := Option.map_eq_some_iff.mp h
        exact az_E.forget (L := [.ref 14, .int v1, .retAddr 0]) ⟨rfl, rfl, trivial, trivial⟩ (re_Ta_readNumber_48_16 (I := I) (J := J) (R := R) hR_14_4 hx hQ)
      · rw [if_neg hc_6] at h
        refine az_E.sn 4 (pc' := 26) (L' := [.ref 14]) (S' := [.int (I 14 2), .ref 15]) (σ' := (97, I, J, R)) rfl ?_
        by_cases hc_7 : (I 14 2) < 0 ∨ 120 ≤ (I 14 2).toNatClampNeg
        · rw [if_pos hc_7] at h; cases h
        · rw [if_neg hc_7] at h
          refine az_E.oi (o := az_ai az_F ex (97, I, J, R) 15 (I 14 2)) (pc' := 27) (L' := [.ref 14]) (S' := []) (σ' := (97, I, J, R)) (x := (I 15 (I 14 2).toNatClampNeg)) rfl (if_neg hc_7) ?_
          refine az_E.sn 1 (pc' := 31) (L' := [.ref 14]) (S' := [.int (I 15 (I 14 2).toNatClampNeg)]) (σ' := (97, I, J, R)) rfl ?_
          refine az_E.ret (v := some (.int (I 15 (I 14 2).toNatClampNeg))) (σ' := (97, I, J, R)) rfl ?_
          show az_E az_F ex 1 73 13 [.ref 14, .int v1, .int v2] [.int (I 15 (I 14 2).toNatClampNeg)] (97, I, J, R) _
          refine az_E.call (d := 0) (k' := 74) (vs := [.int (I 15 (I 14 2).toNatClampNeg)]) (pc' := 16) (S' := []) rfl ?_ (fun _ _ hq => hq)
          show az_E az_F ex 0 74 0 [.int (I 15 (I 14 2).toNatClampNeg)] [] (97, I, J, R) _
          refine az_E.sn 2 (pc' := 3) (L' := [.int (I 15 (I 14 2).toNatClampNeg)]) (S' := [.int (48 : Int32), .int (I 15 (I 14 2).toNatClampNeg)]) (σ' := (97, I, J, R)) rfl ?_
          refine az_E.br (c := (I 15 (I 14 2).toNatClampNeg) < (48 : Int32)) (tt := 16) (ff := 6) (L' := [.int (I 15 (I 14 2).toNatClampNeg)]) (S' := []) (σ' := (97, I, J, R)) rfl (fun hc_8 => ?_) (fun hc_8 => ?_)
          · rw [if_pos hc_8] at h
            refine az_E.sn 1 (pc' := 17) (L' := [.int (I 15 (I 14 2).toNatClampNeg)]) (S' := [.int (0 : Int32)]) (σ' := (97, I, J, R)) rfl ?_
            refine az_E.ret (v := some (.int (0 : Int32))) (σ' := (97, I, J, R)) rfl ?_
            show az_E az_F ex 1 73 16 [.ref 14, .int v1, .int v2] [.int (0 : Int32)] (97, I, J, R) _
            refine az_E.br (c := (0 : Int32) = 0) (tt := 48) (ff := 19) (L' := [.ref 14, .int v1, .int v2]) (S' := []) (σ' := (97, I, J, R)) rfl (fun _ => ?_) (fun hn => absurd (by decide) hn)
            obtain ⟨x, hx, rfl⟩ := Option.map_eq_some_iff.mp h
            exact az_E.forget (L := [.ref 14, .int v1, .retAddr 0]) ⟨rfl, rfl, trivial, trivial⟩ (re_Ta_readNumber_48_16 (I := I) (J := J) (R := R) hR_14_4 hx hQ)
          · rw [if_neg hc_8] at h
            refine az_E.sn 2 (pc' := 9) (L' := [.int (I 15 (I 14 2).toNatClampNeg)]) (S' := [.int (57 : Int32), .int (I 15 (I 14 2).toNatClampNeg)]) (σ' := (97, I, J, R)) rfl ?_
            refine az_E.br (c := (57 : Int32) < (I 15 (I 14 2).toNatClampNeg)) (tt := 16) (ff := 12) (L' := [.int (I 15 (I 14 2).toNatClampNeg)]) (S' := []) (σ' := (97, I, J, R)) rfl (fun hc_9 => ?_) (fun hc_9 => ?_)
            · rw [if_pos hc_9] at h
              refine az_E.sn 1 (pc' := 17) (L' := [.int (I 15 (I 14 2).toNatClampNeg)]) (S' := [.int (0 : Int32)]) (σ' := (97, I, J, R)) rfl ?_
              refine az_E.ret (v := some (.int (0 : Int32))) (σ' := (97, I, J, R)) rfl ?_
              show az_E az_F ex 1 73 16 [.ref 14, .int v1, .int v2] [.int (0 : Int32)] (97, I, J, R) _
              refine az_E.br (c := (0 : Int32) = 0) (tt := 48) (ff := 19) (L' := [.ref 14, .int v1, .int v2]) (S' := []) (σ' := (97, I, J, R)) rfl (fun _ => ?_) (fun hn => absurd (by decide) hn)
              obtain ⟨x, hx, rfl⟩ := Option.map_eq_some_iff.mp h
              exact az_E.forget (L := [.ref 14, .int v1, .retAddr 0]) ⟨rfl, rfl, trivial, trivial⟩ (re_Ta_readNumber_48_16 (I := I) (J := J) (R := R) hR_14_4 hx hQ)
            · rw [if_neg hc_9] at h
              refine az_E.sn 2 (pc' := 17) (L' := [.int (I 15 (I 14 2).toNatClampNeg)]) (S' := [.int (1 : Int32)]) (σ' := (97, I, J, R)) rfl ?_
              refine az_E.ret (v := some (.int (1 : Int32))) (σ' := (97, I, J, R)) rfl ?_
              show az_E az_F ex 1 73 16 [.ref 14, .int v1, .int v2] [.int (1 : Int32)] (97, I, J, R) _
              refine az_E.br (c := (1 : Int32) = 0) (tt := 48) (ff := 19) (L' := [.ref 14, .int v1, .int v2]) (S' := []) (σ' := (97, I, J, R)) rfl (fun hn => absurd hn (by decide)) (fun _ => ?_)
              refine az_E.sn 4 (pc' := 24) (L' := [.ref 14, .int v1, .int v2]) (S' := [.ref 14, .int (v1 * (10 : Int32))]) (σ' := (97, I, J, R)) rfl ?_
              refine az_E.call (d := 0) (k' := 66) (vs := [.ref 14]) (pc' := 27) (S' := [.int (v1 * (10 : Int32))]) rfl ?_ (fun _ _ hq => hq)
              show az_E az_F ex 0 66 0 [.ref 14] [] (97, I, J, R) _
              refine az_E.sn 2 (pc' := 4) (L' := [.ref 14]) (S' := [.int (I 14 2)]) (σ' := (97, I, J, R)) rfl ?_
              refine az_E.br (c := (I 14 2) < 0) (tt := 30) (ff := 7) (L' := [.ref 14]) (S' := []) (σ' := (97, I, J, R)) rfl (fun hc_10 => ?_) (fun hc_10 => ?_)
              · rw [if_pos hc_10] at h
                refine az_E.sn 1 (pc' := 31) (L' := [.ref 14]) (S' := [.int (-1 : Int32)]) (σ' := (97, I, J, R)) rfl ?_
                refine az_E.ret (v := some (.int (-1 : Int32))) (σ' := (97, I, J, R)) rfl ?_
                show az_E az_F ex 1 73 27 [.ref 14, .int v1, .int v2] [.int (-1 : Int32), .int (v1 * (10 : Int32))] (97, I, J, R) _
                refine az_E.sn 12 (pc' := 4) (L' := [.ref 14, .int (((v1 * (10 : Int32)) + (-1 : Int32)) - (48 : Int32)), .int (v2 + (1 : Int32))]) (S' := []) (σ' := (97, (az_u I 14 2 ((I 14 2) + (1 : Int32))), J, R)) rfl ?_
                have h := Option.some.inj h
                subst h
                exact az_E.forget (L := [.ref 14, .int (((v1 * (10 : Int32)) + (-1 : Int32)) - (48 : Int32)), .int (v2 + (1 : Int32))]) ⟨rfl, rfl, rfl, trivial⟩ hQ
              · rw [if_neg hc_10] at h
                refine az_E.sn 4 (pc' := 15) (L' := [.ref 14]) (S' := [.int (I 14 1), .int (I 14 2)]) (σ' := (97, I, J, R)) rfl ?_
                refine az_E.br (c := (I 14 1) ≤ (I 14 2)) (tt := 30) (ff := 18) (L' := [.ref 14]) (S' := []) (σ' := (97, I, J, R)) rfl (fun hc_11 => ?_) (fun hc_11 => ?_)
                · rw [if_pos hc_11] at h
                  refine az_E.sn 1 (pc' := 31) (L' := [.ref 14]) (S' := [.int (-1 : Int32)]) (σ' := (97, I, J, R)) rfl ?_
                  refine az_E.ret (v := some (.int (-1 : Int32))) (σ' := (97, I, J, R)) rfl ?_
                  show az_E az_F ex 1 73 27 [.ref 14, .int v1, .int v2] [.int (-1 : Int32), .int (v1 * (10 : Int32))] (97, I, J, R) _
                  refine az_E.sn 12 (pc' := 4) (L' := [.ref 14, .int (((v1 * (10 : Int32)) + (-1 : Int32)) - (48 : Int32)), .int (v2 + (1 : Int32))]) (S' := []) (σ' := (97, (az_u I 14 2 ((I 14 2) + (1 : Int32))), J, R)) rfl ?_
                  have h := Option.some.inj h
                  subst h
                  exact az_E.forget (L := [.ref 14, .int (((v1 * (10 : Int32)) + (-1 : Int32)) - (48 : Int32)), .int (v2 + (1 : Int32))]) ⟨rfl, rfl, rfl, trivial⟩ hQ
                · rw [if_neg hc_11] at h
                  refine az_E.sn 4 (pc' := 26) (L' := [.ref 14]) (S' := [.int (I 14 2), .ref 15]) (σ' := (97, I, J, R)) rfl ?_
                  by_cases hc_12 : (I 14 2) < 0 ∨ 120 ≤ (I 14 2).toNatClampNeg
                  · rw [if_pos hc_12] at h; cases h
                  · rw [if_neg hc_12] at h
                    refine az_E.oi (o := az_ai az_F ex (97, I, J, R) 15 (I 14 2)) (pc' := 27) (L' := [.ref 14]) (S' := []) (σ' := (97, I, J, R)) (x := (I 15 (I 14 2).toNatClampNeg)) rfl (if_neg hc_12) ?_
                    refine az_E.sn 1 (pc' := 31) (L' := [.ref 14]) (S' := [.int (I 15 (I 14 2).toNatClampNeg)]) (σ' := (97, I, J, R)) rfl ?_
                    refine az_E.ret (v := some (.int (I 15 (I 14 2).toNatClampNeg))) (σ' := (97, I, J, R)) rfl ?_
                    show az_E az_F ex 1 73 27 [.ref 14, .int v1, .int v2] [.int (I 15 (I 14 2).toNatClampNeg), .int (v1 * (10 : Int32))] (97, I, J, R) _
                    refine az_E.sn 12 (pc' := 4) (L' := [.ref 14, .int (((v1 * (10 : Int32)) + (I 15 (I 14 2).toNatClampNeg)) - (48 : Int32)), .int (v2 + (1 : Int32))]) (S' := []) (σ' := (97, (az_u I 14 2 ((I 14 2) + (1 : Int32))), J, R)) rfl ?_
                    have h := Option.some.inj h
                    subst h
                    exact az_E.forget (L := [.ref 14, .int (((v1 * (10 : Int32)) + (I 15 (I 14 2).toNatClampNeg)) - (48 : Int32)), .int (v2 + (1 : Int32))]) ⟨rfl, rfl, rfl, trivial⟩ hQ
set_option maxRecDepth 100000 in
set_option maxHeartbeats 4000000 in
theorem re_Ta_readNumber_4_16 {ex : az_X} {I : Nat → Nat → Int32} {J : Nat → Nat → Int64} {R : Nat → Nat → Option Nat} {v1 : Int32} {v2 : Int32} (hR_14_4 : R 14 4 = some 16) {x : (Nat → Nat → Int32)} (h : rs_Ta_readNumber_4 16 I v1 v2 = some x) {Q : Option Value → az_S → Prop} (hQ : Q none (97, x, J, R)) : az_E az_F ex 1 73 4 [.ref 14, .int v1, .int v2] [] (97, I, J, R) Q := by
  unfold rs_Ta_readNumber_4 at h
  refine az_lp_E (G := fun s => az_E az_F ex 1 73 4 [.ref 14, .int s.1, .int s.2.1] [] (97, s.2.2, J, R) Q) (H := fun x => Q none (97, x, J, R)) (fun s o hb ho => ?_) _ _ _ h hQ
  exact re_Ta_readNumber_4_b_16 hR_14_4 hb ho
set_option maxRecDepth 100000 in
set_option maxHeartbeats 4000000 in
theorem re_Ta_readNumber_16 {ex : az_X} {I : Nat → Nat → Int32} {J : Nat → Nat → Int64} {R : Nat → Nat → Option Nat} (hR_14_4 : R 14 4 = some 16) {o : (Nat → Nat → Int32)} (h : rs_Ta_readNumber 16 I = some o) {Q : Option Value → az_S → Prop} (hQ : Q none (97, o, J, R)) : az_E az_F ex 1 73 0 [.ref 14, .retAddr 0, .retAddr 0] [] (97, I, J, R) Q := by
  unfold rs_Ta_readNumber at h
  refine az_E.sn 4 (pc' := 4) (L' := [.ref 14, .int (0 : Int32), .int (0 : Int32)]) (S' := []) (σ' := (97, I, J, R)) rfl ?_
  exact az_E.forget (L := [.ref 14, .int (0 : Int32), .int (0 : Int32)]) ⟨rfl, rfl, rfl, trivial⟩ (re_Ta_readNumber_4_16 (I := I) (J := J) (R := R) hR_14_4 h hQ)
set_option maxRecDepth 100000 in
set_option maxHeartbeats 4000000 in
theorem re_Ta_readOperand_112_16 {rec : az_GT} {d : Nat} {ex : az_X} {I : Nat → Nat → Int32} {J : Nat → Nat → Int64} {R : Nat → Nat → Option Nat} {s0 : Int32} (hg_69 : ∀ (b1 b2 b3 b4 : Int32) (I : Nat → Nat → Int32) (o : Int32 × (Nat → Nat → Int32)), rec 69 b1 b2 b3 b4 I = some o → ∀ {J : Nat → Nat → Int64} {R : Nat → Nat → Option Nat} {Q : Option Value → az_S → Prop}, R 14 4 = some 16 → Q none (97, o.2, J, R) → az_E az_F ex d 69 0 [.ref 14, .int b1, .int b2, .retAddr 0, .retAddr 0] [] (97, I, J, R) Q) (hg_71 : ∀ (b1 b2 b3 b4 : Int32) (I : Nat → Nat → Int32) (o : Int32 × (Nat → Nat → Int32)), rec 71 b1 b2 b3 b4 I = some o → ∀ {J : Nat → Nat → Int64} {R : Nat → Nat → Option Nat} {Q : Option Value → az_S → Prop}, R 14 4 = some 16 → Q none (97, o.2, J, R) → az_E az_F ex d 71 0 [.ref 14, .int b1, .retAddr 0] [] (97, I, J, R) Q) (hR_14_4 : R 14 4 = some 16) {x : (Nat → Nat → Int32)} (h : rs_Ta_readOperand_112 rec 16 I s0 = some x) {Q : Option Value → az_S → Prop} (hQ : Q none (97, x, J, R)) : az_E az_F ex (d + 2) 71 112 [.retAddr 0, .retAddr 0, .retAddr 0] [.int s0, .ref 16] (97, I, J, R) Q := by
  unfold rs_Ta_readOperand_112 at h
  refine az_E.sn 1 (pc' := 113) (L' := [.retAddr 0, .retAddr 0, .retAddr 0]) (S' := [.int (0 : Int32), .int s0, .ref 16]) (σ' := (97, I, J, R)) rfl ?_
  cases hx_38 : rs_La_add 16 I s0 (0 : Int32) with
  | none => rw [hx_38] at h; cases h
  | some o =>
    rw [hx_38] at h
    obtain ⟨x_36, I_37⟩ := o
    dsimp only at h
    refine az_E.call (d := (d + 1)) (k' := 28) (vs := [.ref 16, .int s0, .int (0 : Int32)]) (pc' := 116) (S' := []) (Q1 := fun v s => v = some (.int x_36) ∧ s = (97, I_37, J, R)) rfl (az_E.deep (by omega) (re_La_add_16 (J := J) (R := R)  hx_38 ⟨rfl, rfl⟩)) (fun v s hq => ?_)
    obtain ⟨rfl, rfl⟩ := hq
    show az_E az_F ex (d + 2) 71 116 [.retAddr 0, .retAddr 0, .retAddr 0] [.int x_36] (97, I_37, J, R) _
    refine az_E.sn 2 (pc' := 155) (L' := [.retAddr 0, .retAddr 0, .retAddr 0]) (S' := []) (σ' := (97, I_37, J, R)) rfl ?_
    have h := Option.some.inj h
    subst h
    exact az_E.ret (v := none) (σ' := (97, I_37, J, R)) rfl hQ
set_option maxRecDepth 100000 in
set_option maxHeartbeats 4000000 in
theorem re_Ta_readOperand_78_16 {rec : az_GT} {d : Nat} {ex : az_X} {I : Nat → Nat → Int32} {J : Nat → Nat → Int64} {R : Nat → Nat → Option Nat} {v1 : Int32} {v2 : Int32} (hg_69 : ∀ (b1 b2 b3 b4 : Int32) (I : Nat → Nat → Int32) (o : Int32 × (Nat → Nat → Int32)), rec 69 b1 b2 b3 b4 I = some o → ∀ {J : Nat → Nat → Int64} {R : Nat → Nat → Option Nat} {Q : Option Value → az_S → Prop}, R 14 4 = some 16 → Q none (97, o.2, J, R) → az_E az_F ex d 69 0 [.ref 14, .int b1, .int b2, .retAddr 0, .retAddr 0] [] (97, I, J, R) Q) (hg_71 : ∀ (b1 b2 b3 b4 : Int32) (I : Nat → Nat → Int32) (o : Int32 × (Nat → Nat → Int32)), rec 71 b1 b2 b3 b4 I = some o → ∀ {J : Nat → Nat → Int64} {R : Nat → Nat → Option Nat} {Q : Option Value → az_S → Prop}, R 14 4 = some 16 → Q none (97, o.2, J, R) → az_E az_F ex d 71 0 [.ref 14, .int b1, .retAddr 0] [] (97, I, J, R) Q) (hR_14_4 : R 14 4 = some 16) {x : (Nat → Nat → Int32)} (h : rs_Ta_readOperand_78 rec 16 I v1 v2 = some x) {Q : Option Value → az_S → Prop} (hQ : Q none (97, x, J, R)) : az_E az_F ex (d + 2) 71 78 [.ref 14, .int v1, .int v2] [] (97, I, J, R) Q := by
  unfold rs_Ta_readOperand_78 at h
  refine az_E.sn 10 (pc' := 92) (L' := [.ref 14, .int v1, .int v2]) (S' := [.int (v1 + (1 : Int32)), .ref 14]) (σ' := (97, (az_u I 14 2 ((I 14 2) + (1 : Int32))), J, R)) rfl ?_
  cases hx_34 : rec 71 (v1 + (1 : Int32)) 0 0 0 (az_u I 14 2 ((I 14 2) + (1 : Int32))) with
  | none => rw [hx_34] at h; cases h
  | some o =>
    rw [hx_34] at h
    obtain ⟨x_32, I_33⟩ := o
    dsimp only at h
    refine az_E.call (d := (d + 1)) (k' := 71) (vs := [.ref 14, .int (v1 + (1 : Int32))]) (pc' := 95) (S' := []) (Q1 := fun v s => v = none ∧ s = (97, I_33, J, R)) rfl (az_E.deep (by omega) (hg_71 _ _ _ _ _ _ hx_34 (J := J) (R := R) hR_14_4 ⟨rfl, rfl⟩)) (fun v s hq => ?_)
    obtain ⟨rfl, rfl⟩ := hq
    show az_E az_F ex (d + 2) 71 95 [.ref 14, .int v1, .int v2] [] (97, I_33, J, R) _
    refine az_E.sn 1 (pc' := 96) (L' := [.ref 14, .int v1, .int v2]) (S' := [.ref 14]) (σ' := (97, I_33, J, R)) rfl ?_
    refine az_E.ov (pc' := 99) (L' := [.ref 14, .int v1, .int v2]) (S' := []) (σ' := (97, I_33, J, R)) (x := .ref 16) rfl (congrArg (fun z => some (va_rf z)) hR_14_4) ?_
    refine az_E.sn 2 (pc' := 102) (L' := [.ref 14, .int v1, .int v2]) (S' := [.int (33 : Int32), .int v2, .ref 16]) (σ' := (97, I_33, J, R)) rfl ?_
    refine az_E.br (c := v2 = (33 : Int32)) (tt := 105) (ff := 110) (L' := [.ref 14, .int v1, .int v2]) (S' := [.ref 16]) (σ' := (97, I_33, J, R)) rfl (fun hc_35 => ?_) (fun hc_35 => ?_)
    · rw [if_pos hc_35] at h
      refine az_E.sn 2 (pc' := 112) (L' := [.ref 14, .int v1, .int v2]) (S' := [.int (33 : Int32), .ref 16]) (σ' := (97, I_33, J, R)) rfl ?_
      exact az_E.forget (L := [.retAddr 0, .retAddr 0, .retAddr 0]) ⟨trivial, trivial, trivial, trivial⟩ (re_Ta_readOperand_112_16 (I := I_33) (J := J) (R := R) hg_69 hg_71 hR_14_4 h hQ)
    · rw [if_neg hc_35] at h
      refine az_E.sn 1 (pc' := 112) (L' := [.ref 14, .int v1, .int v2]) (S' := [.int (126 : Int32), .ref 16]) (σ' := (97, I_33, J, R)) rfl ?_
      exact az_E.forget (L := [.retAddr 0, .retAddr 0, .retAddr 0]) ⟨trivial, trivial, trivial, trivial⟩ (re_Ta_readOperand_112_16 (I := I_33) (J := J) (R := R) hg_69 hg_71 hR_14_4 h hQ)
set_option maxRecDepth 100000 in
set_option maxHeartbeats 4000000 in
theorem re_Ta_readOperand_16 {rec : az_GT} {d : Nat} {ex : az_X} {I : Nat → Nat → Int32} {J : Nat → Nat → Int64} {R : Nat → Nat → Option Nat} {a1 : Int32} (hg_69 : ∀ (b1 b2 b3 b4 : Int32) (I : Nat → Nat → Int32) (o : Int32 × (Nat → Nat → Int32)), rec 69 b1 b2 b3 b4 I = some o → ∀ {J : Nat → Nat → Int64} {R : Nat → Nat → Option Nat} {Q : Option Value → az_S → Prop}, R 14 4 = some 16 → Q none (97, o.2, J, R) → az_E az_F ex d 69 0 [.ref 14, .int b1, .int b2, .retAddr 0, .retAddr 0] [] (97, I, J, R) Q) (hg_71 : ∀ (b1 b2 b3 b4 : Int32) (I : Nat → Nat → Int32) (o : Int32 × (Nat → Nat → Int32)), rec 71 b1 b2 b3 b4 I = some o → ∀ {J : Nat → Nat → Int64} {R : Nat → Nat → Option Nat} {Q : Option Value → az_S → Prop}, R 14 4 = some 16 → Q none (97, o.2, J, R) → az_E az_F ex d 71 0 [.ref 14, .int b1, .retAddr 0] [] (97, I, J, R) Q) (hR_14_4 : R 14 4 = some 16) {o : (Nat → Nat → Int32)} (h : rs_Ta_readOperand rec 16 I a1 = some o) {Q : Option Value → az_S → Prop} (hQ : Q none (97, o, J, R)) : az_E az_F ex (d + 2) 71 0 [.ref 14, .int a1, .retAddr 0] [] (97, I, J, R) Q := by
  unfold rs_Ta_readOperand at h
  refine az_E.sn 1 (pc' := 1) (L' := [.ref 14, .int a1, .retAddr 0]) (S' := [.ref 14]) (σ' := (97, I, J, R)) rfl ?_
  refine az_E.call (d := (d + 1)) (k' := 66) (vs := [.ref 14]) (pc' := 4) (S' := []) rfl ?_ (fun _ _ hq => hq)
  show az_E az_F ex (d + 1) 66 0 [.ref 14] [] (97, I, J, R) _
  refine az_E.sn 2 (pc' := 4) (L' := [.ref 14]) (S' := [.int (I 14 2)]) (σ' := (97, I, J, R)) rfl ?_
  refine az_E.br (c := (I 14 2) < 0) (tt := 30) (ff := 7) (L' := [.ref 14]) (S' := []) (σ' := (97, I, J, R)) rfl (fun hc_1 => ?_) (fun hc_1 => ?_)
  · rw [if_pos hc_1] at h
    refine az_E.sn 1 (pc' := 31) (L' := [.ref 14]) (S' := [.int (-1 : Int32)]) (σ' := (97, I, J, R)) rfl ?_
    refine az_E.ret (v := some (.int (-1 : Int32))) (σ' := (97, I, J, R)) rfl ?_
    show az_E az_F ex (d + 2) 71 4 [.ref 14, .int a1, .retAddr 0] [.int (-1 : Int32)] (97, I, J, R) _
    refine az_E.sn 2 (pc' := 6) (L' := [.ref 14, .int a1, .int (-1 : Int32)]) (S' := [.int (-1 : Int32)]) (σ' := (97, I, J, R)) rfl ?_
    refine az_E.call (d := (d + 1)) (k' := 74) (vs := [.int (-1 : Int32)]) (pc' := 9) (S' := []) rfl ?_ (fun _ _ hq => hq)
    show az_E az_F ex (d + 1) 74 0 [.int (-1 : Int32)] [] (97, I, J, R) _
    refine az_E.sn 2 (pc' := 3) (L' := [.int (-1 : Int32)]) (S' := [.int (48 : Int32), .int (-1 : Int32)]) (σ' := (97, I, J, R)) rfl ?_
    refine az_E.br (c := (-1 : Int32) < (48 : Int32)) (tt := 16) (ff := 6) (L' := [.int (-1 : Int32)]) (S' := []) (σ' := (97, I, J, R)) rfl (fun _ => ?_) (fun hn => absurd (by decide) hn)
    refine az_E.sn 1 (pc' := 17) (L' := [.int (-1 : Int32)]) (S' := [.int (0 : Int32)]) (σ' := (97, I, J, R)) rfl ?_
    refine az_E.ret (v := some (.int (0 : Int32))) (σ' := (97, I, J, R)) rfl ?_
    show az_E az_F ex (d + 2) 71 9 [.ref 14, .int a1, .int (-1 : Int32)] [.int (0 : Int32)] (97, I, J, R) _
    refine az_E.br (c := (0 : Int32) = 0) (tt := 19) (ff := 12) (L' := [.ref 14, .int a1, .int (-1 : Int32)]) (S' := []) (σ' := (97, I, J, R)) rfl (fun _ => ?_) (fun hn => absurd (by decide) hn)
    refine az_E.sn 1 (pc' := 20) (L' := [.ref 14, .int a1, .int (-1 : Int32)]) (S' := [.int (-1 : Int32)]) (σ' := (97, I, J, R)) rfl ?_
    cases hx_3 : rs_Ta_nameOf (-1 : Int32) with
    | none => rw [hx_3] at h; cases h
    | some x_2 =>
      rw [hx_3] at h
      dsimp only at h
      refine az_E.call (d := (d + 1)) (k' := 75) (vs := [.int (-1 : Int32)]) (pc' := 23) (S' := []) (Q1 := fun v s => v = some (.int x_2) ∧ s = (97, I, J, R)) rfl (az_E.deep (by omega) (re_Ta_nameOf (J := J) (R := R)  hx_3 ⟨rfl, rfl⟩)) (fun v s hq => ?_)
      obtain ⟨rfl, rfl⟩ := hq
      show az_E az_F ex (d + 2) 71 23 [.ref 14, .int a1, .int (-1 : Int32)] [.int x_2] (97, I, J, R) _
      refine az_E.br (c := x_2 < 0) (tt := 53) (ff := 26) (L' := [.ref 14, .int a1, .int (-1 : Int32)]) (S' := []) (σ' := (97, I, J, R)) rfl (fun hc_4 => ?_) (fun hc_4 => ?_)
      · rw [if_pos hc_4] at h
        refine az_E.sn 2 (pc' := 56) (L' := [.ref 14, .int a1, .int (-1 : Int32)]) (S' := [.int (6 : Int32), .int a1]) (σ' := (97, I, J, R)) rfl ?_
        refine az_E.br (c := a1 < (6 : Int32)) (tt := 66) (ff := 59) (L' := [.ref 14, .int a1, .int (-1 : Int32)]) (S' := []) (σ' := (97, I, J, R)) rfl (fun hc_5 => ?_) (fun hc_5 => ?_)
        · rw [if_pos hc_5] at h
          refine az_E.sn 2 (pc' := 69) (L' := [.ref 14, .int a1, .int (-1 : Int32)]) (S' := [.int (33 : Int32), .int (-1 : Int32)]) (σ' := (97, I, J, R)) rfl ?_
          refine az_E.br (c := (-1 : Int32) = (33 : Int32)) (tt := 78) (ff := 72) (L' := [.ref 14, .int a1, .int (-1 : Int32)]) (S' := []) (σ' := (97, I, J, R)) rfl (fun hn => absurd hn (by decide)) (fun _ => ?_)
          refine az_E.sn 2 (pc' := 75) (L' := [.ref 14, .int a1, .int (-1 : Int32)]) (S' := [.int (45 : Int32), .int (-1 : Int32)]) (σ' := (97, I, J, R)) rfl ?_
          refine az_E.br (c := (-1 : Int32) = (45 : Int32)) (tt := 78) (ff := 120) (L' := [.ref 14, .int a1, .int (-1 : Int32)]) (S' := []) (σ' := (97, I, J, R)) rfl (fun hn => absurd hn (by decide)) (fun _ => ?_)
          refine az_E.sn 2 (pc' := 123) (L' := [.ref 14, .int a1, .int (-1 : Int32)]) (S' := [.int (40 : Int32), .int (-1 : Int32)]) (σ' := (97, I, J, R)) rfl ?_
          refine az_E.br (c := (-1 : Int32) = (40 : Int32)) (tt := 126) (ff := 151) (L' := [.ref 14, .int a1, .int (-1 : Int32)]) (S' := []) (σ' := (97, I, J, R)) rfl (fun hn => absurd hn (by decide)) (fun _ => ?_)
          refine az_E.sn 1 (pc' := 152) (L' := [.ref 14, .int a1, .int (-1 : Int32)]) (S' := [.ref 14]) (σ' := (97, I, J, R)) rfl ?_
          cases hx_7 : rs_Ta_fail I with
          | none => rw [hx_7] at h; cases h
          | some I_6 =>
            rw [hx_7] at h
            dsimp only at h
            refine az_E.call (d := (d + 1)) (k' := 67) (vs := [.ref 14]) (pc' := 155) (S' := []) (Q1 := fun v s => v = none ∧ s = (97, I_6, J, R)) rfl (az_E.deep (by omega) (re_Ta_fail (J := J) (R := R)  hx_7 ⟨rfl, rfl⟩)) (fun v s hq => ?_)
            obtain ⟨rfl, rfl⟩ := hq
            show az_E az_F ex (d + 2) 71 155 [.ref 14, .int a1, .int (-1 : Int32)] [] (97, I_6, J, R) _
            have h := Option.some.inj h
            subst h
            exact az_E.ret (v := none) (σ' := (97, I_6, J, R)) rfl hQ
        · rw [if_neg hc_5] at h
          refine az_E.sn 1 (pc' := 60) (L' := [.ref 14, .int a1, .int (-1 : Int32)]) (S' := [.ref 14]) (σ' := (97, I, J, R)) rfl ?_
          cases hx_9 : rs_Ta_fail I with
          | none => rw [hx_9] at h; cases h
          | some I_8 =>
            rw [hx_9] at h
            dsimp only at h
            refine az_E.call (d := (d + 1)) (k' := 67) (vs := [.ref 14]) (pc' := 63) (S' := []) (Q1 := fun v s => v = none ∧ s = (97, I_8, J, R)) rfl (az_E.deep (by omega) (re_Ta_fail (J := J) (R := R)  hx_9 ⟨rfl, rfl⟩)) (fun v s hq => ?_)
            obtain ⟨rfl, rfl⟩ := hq
            show az_E az_F ex (d + 2) 71 63 [.ref 14, .int a1, .int (-1 : Int32)] [] (97, I_8, J, R) _
            refine az_E.sn 1 (pc' := 155) (L' := [.ref 14, .int a1, .int (-1 : Int32)]) (S' := []) (σ' := (97, I_8, J, R)) rfl ?_
            have h := Option.some.inj h
            subst h
            exact az_E.ret (v := none) (σ' := (97, I_8, J, R)) rfl hQ
      · rw [if_neg hc_4] at h
        refine az_E.sn 7 (pc' := 37) (L' := [.ref 14, .int a1, .int (-1 : Int32)]) (S' := [.ref 14]) (σ' := (97, (az_u I 14 2 ((I 14 2) + (1 : Int32))), J, R)) rfl ?_
        refine az_E.ov (pc' := 40) (L' := [.ref 14, .int a1, .int (-1 : Int32)]) (S' := []) (σ' := (97, (az_u I 14 2 ((I 14 2) + (1 : Int32))), J, R)) (x := .ref 16) rfl (congrArg (fun z => some (va_rf z)) hR_14_4) ?_
        refine az_E.sn 2 (pc' := 43) (L' := [.ref 14, .int a1, .int (-1 : Int32)]) (S' := [.int (-1 : Int32), .int (110 : Int32), .ref 16]) (σ' := (97, (az_u I 14 2 ((I 14 2) + (1 : Int32))), J, R)) rfl ?_
        refine az_E.call (d := (d + 1)) (k' := 75) (vs := [.int (-1 : Int32)]) (pc' := 46) (S' := [.int (110 : Int32), .ref 16]) (Q1 := fun v s => v = some (.int x_2) ∧ s = (97, (az_u I 14 2 ((I 14 2) + (1 : Int32))), J, R)) rfl (az_E.deep (by omega) (re_Ta_nameOf (J := J) (R := R)  hx_3 ⟨rfl, rfl⟩)) (fun v s hq => ?_)
        obtain ⟨rfl, rfl⟩ := hq
        show az_E az_F ex (d + 2) 71 46 [.ref 14, .int a1, .int (-1 : Int32)] [.int x_2, .int (110 : Int32), .ref 16] (97, (az_u I 14 2 ((I 14 2) + (1 : Int32))), J, R) _
        cases hx_12 : rs_La_add 16 (az_u I 14 2 ((I 14 2) + (1 : Int32))) (110 : Int32) x_2 with
        | none => rw [hx_12] at h; cases h
        | some o =>
          rw [hx_12] at h
          obtain ⟨x_10, I_11⟩ := o
          dsimp only at h
          refine az_E.call (d := (d + 1)) (k' := 28) (vs := [.ref 16, .int (110 : Int32), .int x_2]) (pc' := 49) (S' := []) (Q1 := fun v s => v = some (.int x_10) ∧ s = (97, I_11, J, R)) rfl (az_E.deep (by omega) (re_La_add_16 (J := J) (R := R)  hx_12 ⟨rfl, rfl⟩)) (fun v s hq => ?_)
          obtain ⟨rfl, rfl⟩ := hq
          show az_E az_F ex (d + 2) 71 49 [.ref 14, .int a1, .int (-1 : Int32)] [.int x_10] (97, I_11, J, R) _
          refine az_E.sn 2 (pc' := 155) (L' := [.ref 14, .int a1, .int (-1 : Int32)]) (S' := []) (σ' := (97, I_11, J, R)) rfl ?_
          have h := Option.some.inj h
          subst h
          exact az_E.ret (v := none) (σ' := (97, I_11, J, R)) rfl hQ
  · rw [if_neg hc_1] at h
    refine az_E.sn 4 (pc' := 15) (L' := [.ref 14]) (S' := [.int (I 14 1), .int (I 14 2)]) (σ' := (97, I, J, R)) rfl ?_
    refine az_E.br (c := (I 14 1) ≤ (I 14 2)) (tt := 30) (ff := 18) (L' := [.ref 14]) (S' := []) (σ' := (97, I, J, R)) rfl (fun hc_13 => ?_) (fun hc_13 => ?_)
    · rw [if_pos hc_13] at h
      refine az_E.sn 1 (pc' := 31) (L' := [.ref 14]) (S' := [.int (-1 : Int32)]) (σ' := (97, I, J, R)) rfl ?_
      refine az_E.ret (v := some (.int (-1 : Int32))) (σ' := (97, I, J, R)) rfl ?_
      show az_E az_F ex (d + 2) 71 4 [.ref 14, .int a1, .retAddr 0] [.int (-1 : Int32)] (97, I, J, R) _
      refine az_E.sn 2 (pc' := 6) (L' := [.ref 14, .int a1, .int (-1 : Int32)]) (S' := [.int (-1 : Int32)]) (σ' := (97, I, J, R)) rfl ?_
      refine az_E.call (d := (d + 1)) (k' := 74) (vs := [.int (-1 : Int32)]) (pc' := 9) (S' := []) rfl ?_ (fun _ _ hq => hq)
      show az_E az_F ex (d + 1) 74 0 [.int (-1 : Int32)] [] (97, I, J, R) _
      refine az_E.sn 2 (pc' := 3) (L' := [.int (-1 : Int32)]) (S' := [.int (48 : Int32), .int (-1 : Int32)]) (σ' := (97, I, J, R)) rfl ?_
      refine az_E.br (c := (-1 : Int32) < (48 : Int32)) (tt := 16) (ff := 6) (L' := [.int (-1 : Int32)]) (S' := []) (σ' := (97, I, J, R)) rfl (fun _ => ?_) (fun hn => absurd (by decide) hn)
      refine az_E.sn 1 (pc' := 17) (L' := [.int (-1 : Int32)]) (S' := [.int (0 : Int32)]) (σ' := (97, I, J, R)) rfl ?_
      refine az_E.ret (v := some (.int (0 : Int32))) (σ' := (97, I, J, R)) rfl ?_
      show az_E az_F ex (d + 2) 71 9 [.ref 14, .int a1, .int (-1 : Int32)] [.int (0 : Int32)] (97, I, J, R) _
      refine az_E.br (c := (0 : Int32) = 0) (tt := 19) (ff := 12) (L' := [.ref 14, .int a1, .int (-1 : Int32)]) (S' := []) (σ' := (97, I, J, R)) rfl (fun _ => ?_) (fun hn => absurd (by decide) hn)
      refine az_E.sn 1 (pc' := 20) (L' := [.ref 14, .int a1, .int (-1 : Int32)]) (S' := [.int (-1 : Int32)]) (σ' := (97, I, J, R)) rfl ?_
      cases hx_15 : rs_Ta_nameOf (-1 : Int32) with
      | none => rw [hx_15] at h; cases h
      | some x_14 =>
        rw [hx_15] at h
        dsimp only at h
        refine az_E.call (d := (d + 1)) (k' := 75) (vs := [.int (-1 : Int32)]) (pc' := 23) (S' := []) (Q1 := fun v s => v = some (.int x_14) ∧ s = (97, I, J, R)) rfl (az_E.deep (by omega) (re_Ta_nameOf (J := J) (R := R)  hx_15 ⟨rfl, rfl⟩)) (fun v s hq => ?_)
        obtain ⟨rfl, rfl⟩ := hq
        show az_E az_F ex (d + 2) 71 23 [.ref 14, .int a1, .int (-1 : Int32)] [.int x_14] (97, I, J, R) _
        refine az_E.br (c := x_14 < 0) (tt := 53) (ff := 26) (L' := [.ref 14, .int a1, .int (-1 : Int32)]) (S' := []) (σ' := (97, I, J, R)) rfl (fun hc_16 => ?_) (fun hc_16 => ?_)
        · rw [if_pos hc_16] at h
          refine az_E.sn 2 (pc' := 56) (L' := [.ref 14, .int a1, .int (-1 : Int32)]) (S' := [.int (6 : Int32), .int a1]) (σ' := (97, I, J, R)) rfl ?_
          refine az_E.br (c := a1 < (6 : Int32)) (tt := 66) (ff := 59) (L' := [.ref 14, .int a1, .int (-1 : Int32)]) (S' := []) (σ' := (97, I, J, R)) rfl (fun hc_17 => ?_) (fun hc_17 => ?_)
          · rw [if_pos hc_17] at h
            refine az_E.sn 2 (pc' := 69) (L' := [.ref 14, .int a1, .int (-1 : Int32)]) (S' := [.int (33 : Int32), .int (-1 : Int32)]) (σ' := (97, I, J, R)) rfl ?_
            refine az_E.br (c := (-1 : Int32) = (33 : Int32)) (tt := 78) (ff := 72) (L' := [.ref 14, .int a1, .int (-1 : Int32)]) (S' := []) (σ' := (97, I, J, R)) rfl (fun hn => absurd hn (by decide)) (fun _ => ?_)
            refine az_E.sn 2 (pc' := 75) (L' := [.ref 14, .int a1, .int (-1 : Int32)]) (S' := [.int (45 : Int32), .int (-1 : Int32)]) (σ' := (97, I, J, R)) rfl ?_
            refine az_E.br (c := (-1 : Int32) = (45 : Int32)) (tt := 78) (ff := 120) (L' := [.ref 14, .int a1, .int (-1 : Int32)]) (S' := []) (σ' := (97, I, J, R)) rfl (fun hn => absurd hn (by decide)) (fun _ => ?_)
            refine az_E.sn 2 (pc' := 123) (L' := [.ref 14, .int a1, .int (-1 : Int32)]) (S' := [.int (40 : Int32), .int (-1 : Int32)]) (σ' := (97, I, J, R)) rfl ?_
            refine az_E.br (c := (-1 : Int32) = (40 : Int32)) (tt := 126) (ff := 151) (L' := [.ref 14, .int a1, .int (-1 : Int32)]) (S' := []) (σ' := (97, I, J, R)) rfl (fun hn => absurd hn (by decide)) (fun _ => ?_)
            refine az_E.sn 1 (pc' := 152) (L' := [.ref 14, .int a1, .int (-1 : Int32)]) (S' := [.ref 14]) (σ' := (97, I, J, R)) rfl ?_
            cases hx_19 : rs_Ta_fail I with
            | none => rw [hx_19] at h; cases h
            | some I_18 =>
              rw [hx_19] at h
              dsimp only at h
              refine az_E.call (d := (d + 1)) (k' := 67) (vs := [.ref 14]) (pc' := 155) (S' := []) (Q1 := fun v s => v = none ∧ s = (97, I_18, J, R)) rfl (az_E.deep (by omega) (re_Ta_fail (J := J) (R := R)  hx_19 ⟨rfl, rfl⟩)) (fun v s hq => ?_)
              obtain ⟨rfl, rfl⟩ := hq
              show az_E az_F ex (d + 2) 71 155 [.ref 14, .int a1, .int (-1 : Int32)] [] (97, I_18, J, R) _
              have h := Option.some.inj h
              subst h
              exact az_E.ret (v := none) (σ' := (97, I_18, J, R)) rfl hQ
          · rw [if_neg hc_17] at h
            refine az_E.sn 1 (pc' := 60) (L' := [.ref 14, .int a1, .int (-1 : Int32)]) (S' := [.ref 14]) (σ' := (97, I, J, R)) rfl ?_
            cases hx_21 : rs_Ta_fail I with
            | none => rw [hx_21] at h; cases h
            | some I_20 =>
              rw [hx_21] at h
              dsimp only at h
              refine az_E.call (d := (d + 1)) (k' := 67) (vs := [.ref 14]) (pc' := 63) (S' := []) (Q1 := fun v s => v = none ∧ s = (97, I_20, J, R)) rfl (az_E.deep (by omega) (re_Ta_fail (J := J) (R := R)  hx_21 ⟨rfl, rfl⟩)) (fun v s hq => ?_)
              obtain ⟨rfl, rfl⟩ := hq
              show az_E az_F ex (d + 2) 71 63 [.ref 14, .int a1, .int (-1 : Int32)] [] (97, I_20, J, R) _
              refine az_E.sn 1 (pc' := 155) (L' := [.ref 14, .int a1, .int (-1 : Int32)]) (S' := []) (σ' := (97, I_20, J, R)) rfl ?_
              have h := Option.some.inj h
              subst h
              exact az_E.ret (v := none) (σ' := (97, I_20, J, R)) rfl hQ
        · rw [if_neg hc_16] at h
          refine az_E.sn 7 (pc' := 37) (L' := [.ref 14, .int a1, .int (-1 : Int32)]) (S' := [.ref 14]) (σ' := (97, (az_u I 14 2 ((I 14 2) + (1 : Int32))), J, R)) rfl ?_
          refine az_E.ov (pc' := 40) (L' := [.ref 14, .int a1, .int (-1 : Int32)]) (S' := []) (σ' := (97, (az_u I 14 2 ((I 14 2) + (1 : Int32))), J, R)) (x := .ref 16) rfl (congrArg (fun z => some (va_rf z)) hR_14_4) ?_
          refine az_E.sn 2 (pc' := 43) (L' := [.ref 14, .int a1, .int (-1 : Int32)]) (S' := [.int (-1 : Int32), .int (110 : Int32), .ref 16]) (σ' := (97, (az_u I 14 2 ((I 14 2) + (1 : Int32))), J, R)) rfl ?_
          refine az_E.call (d := (d + 1)) (k' := 75) (vs := [.int (-1 : Int32)]) (pc' := 46) (S' := [.int (110 : Int32), .ref 16]) (Q1 := fun v s => v = some (.int x_14) ∧ s = (97, (az_u I 14 2 ((I 14 2) + (1 : Int32))), J, R)) rfl (az_E.deep (by omega) (re_Ta_nameOf (J := J) (R := R)  hx_15 ⟨rfl, rfl⟩)) (fun v s hq => ?_)
          obtain ⟨rfl, rfl⟩ := hq
          show az_E az_F ex (d + 2) 71 46 [.ref 14, .int a1, .int (-1 : Int32)] [.int x_14, .int (110 : Int32), .ref 16] (97, (az_u I 14 2 ((I 14 2) + (1 : Int32))), J, R) _
          cases hx_24 : rs_La_add 16 (az_u I 14 2 ((I 14 2) + (1 : Int32))) (110 : Int32) x_14 with
          | none => rw [hx_24] at h; cases h
          | some o =>
            rw [hx_24] at h
            obtain ⟨x_22, I_23⟩ := o
            dsimp only at h
            refine az_E.call (d := (d + 1)) (k' := 28) (vs := [.ref 16, .int (110 : Int32), .int x_14]) (pc' := 49) (S' := []) (Q1 := fun v s => v = some (.int x_22) ∧ s = (97, I_23, J, R)) rfl (az_E.deep (by omega) (re_La_add_16 (J := J) (R := R)  hx_24 ⟨rfl, rfl⟩)) (fun v s hq => ?_)
            obtain ⟨rfl, rfl⟩ := hq
            show az_E az_F ex (d + 2) 71 49 [.ref 14, .int a1, .int (-1 : Int32)] [.int x_22] (97, I_23, J, R) _
            refine az_E.sn 2 (pc' := 155) (L' := [.ref 14, .int a1, .int (-1 : Int32)]) (S' := []) (σ' := (97, I_23, J, R)) rfl ?_
            have h := Option.some.inj h
            subst h
            exact az_E.ret (v := none) (σ' := (97, I_23, J, R)) rfl hQ
    · rw [if_neg hc_13] at h
      refine az_E.sn 4 (pc' := 26) (L' := [.ref 14]) (S' := [.int (I 14 2), .ref 15]) (σ' := (97, I, J, R)) rfl ?_
      by_cases hc_25 : (I 14 2) < 0 ∨ 120 ≤ (I 14 2).toNatClampNeg
      · rw [if_pos hc_25] at h; cases h
      · rw [if_neg hc_25] at h
        refine az_E.oi (o := az_ai az_F ex (97, I, J, R) 15 (I 14 2)) (pc' := 27) (L' := [.ref 14]) (S' := []) (σ' := (97, I, J, R)) (x := (I 15 (I 14 2).toNatClampNeg)) rfl (if_neg hc_25) ?_
        refine az_E.sn 1 (pc' := 31) (L' := [.ref 14]) (S' := [.int (I 15 (I 14 2).toNatClampNeg)]) (σ' := (97, I, J, R)) rfl ?_
        refine az_E.ret (v := some (.int (I 15 (I 14 2).toNatClampNeg))) (σ' := (97, I, J, R)) rfl ?_
        show az_E az_F ex (d + 2) 71 4 [.ref 14, .int a1, .retAddr 0] [.int (I 15 (I 14 2).toNatClampNeg)] (97, I, J, R) _
        refine az_E.sn 2 (pc' := 6) (L' := [.ref 14, .int a1, .int (I 15 (I 14 2).toNatClampNeg)]) (S' := [.int (I 15 (I 14 2).toNatClampNeg)]) (σ' := (97, I, J, R)) rfl ?_
        refine az_E.call (d := (d + 1)) (k' := 74) (vs := [.int (I 15 (I 14 2).toNatClampNeg)]) (pc' := 9) (S' := []) rfl ?_ (fun _ _ hq => hq)
        show az_E az_F ex (d + 1) 74 0 [.int (I 15 (I 14 2).toNatClampNeg)] [] (97, I, J, R) _
        refine az_E.sn 2 (pc' := 3) (L' := [.int (I 15 (I 14 2).toNatClampNeg)]) (S' := [.int (48 : Int32), .int (I 15 (I 14 2).toNatClampNeg)]) (σ' := (97, I, J, R)) rfl ?_
        refine az_E.br (c := (I 15 (I 14 2).toNatClampNeg) < (48 : Int32)) (tt := 16) (ff := 6) (L' := [.int (I 15 (I 14 2).toNatClampNeg)]) (S' := []) (σ' := (97, I, J, R)) rfl (fun hc_26 => ?_) (fun hc_26 => ?_)
        · rw [if_pos hc_26] at h
          refine az_E.sn 1 (pc' := 17) (L' := [.int (I 15 (I 14 2).toNatClampNeg)]) (S' := [.int (0 : Int32)]) (σ' := (97, I, J, R)) rfl ?_
          refine az_E.ret (v := some (.int (0 : Int32))) (σ' := (97, I, J, R)) rfl ?_
          show az_E az_F ex (d + 2) 71 9 [.ref 14, .int a1, .int (I 15 (I 14 2).toNatClampNeg)] [.int (0 : Int32)] (97, I, J, R) _
          refine az_E.br (c := (0 : Int32) = 0) (tt := 19) (ff := 12) (L' := [.ref 14, .int a1, .int (I 15 (I 14 2).toNatClampNeg)]) (S' := []) (σ' := (97, I, J, R)) rfl (fun _ => ?_) (fun hn => absurd (by decide) hn)
          refine az_E.sn 1 (pc' := 20) (L' := [.ref 14, .int a1, .int (I 15 (I 14 2).toNatClampNeg)]) (S' := [.int (I 15 (I 14 2).toNatClampNeg)]) (σ' := (97, I, J, R)) rfl ?_
          cases hx_28 : rs_Ta_nameOf (I 15 (I 14 2).toNatClampNeg) with
          | none => rw [hx_28] at h; cases h
          | some x_27 =>
            rw [hx_28] at h
            dsimp only at h
            refine az_E.call (d := (d + 1)) (k' := 75) (vs := [.int (I 15 (I 14 2).toNatClampNeg)]) (pc' := 23) (S' := []) (Q1 := fun v s => v = some (.int x_27) ∧ s = (97, I, J, R)) rfl (az_E.deep (by omega) (re_Ta_nameOf (J := J) (R := R)  hx_28 ⟨rfl, rfl⟩)) (fun v s hq => ?_)
            obtain ⟨rfl, rfl⟩ := hq
            show az_E az_F ex (d + 2) 71 23 [.ref 14, .int a1, .int (I 15 (I 14 2).toNatClampNeg)] [.int x_27] (97, I, J, R) _
            refine az_E.br (c := x_27 < 0) (tt := 53) (ff := 26) (L' := [.ref 14, .int a1, .int (I 15 (I 14 2).toNatClampNeg)]) (S' := []) (σ' := (97, I, J, R)) rfl (fun hc_29 => ?_) (fun hc_29 => ?_)
            · rw [if_pos hc_29] at h
              refine az_E.sn 2 (pc' := 56) (L' := [.ref 14, .int a1, .int (I 15 (I 14 2).toNatClampNeg)]) (S' := [.int (6 : Int32), .int a1]) (σ' := (97, I, J, R)) rfl ?_
              refine az_E.br (c := a1 < (6 : Int32)) (tt := 66) (ff := 59) (L' := [.ref 14, .int a1, .int (I 15 (I 14 2).toNatClampNeg)]) (S' := []) (σ' := (97, I, J, R)) rfl (fun hc_30 => ?_) (fun hc_30 => ?_)
              · rw [if_pos hc_30] at h
                refine az_E.sn 2 (pc' := 69) (L' := [.ref 14, .int a1, .int (I 15 (I 14 2).toNatClampNeg)]) (S' := [.int (33 : Int32), .int (I 15 (I 14 2).toNatClampNeg)]) (σ' := (97, I, J, R)) rfl ?_
                refine az_E.br (c := (I 15 (I 14 2).toNatClampNeg) = (33 : Int32)) (tt := 78) (ff := 72) (L' := [.ref 14, .int a1, .int (I 15 (I 14 2).toNatClampNeg)]) (S' := []) (σ' := (97, I, J, R)) rfl (fun hc_31 => ?_) (fun hc_31 => ?_)
                · rw [if_pos hc_31] at h
                  exact az_E.forget (L := [.ref 14, .int a1, .int (I 15 (I 14 2).toNatClampNeg)]) ⟨rfl, rfl, rfl, trivial⟩ (re_Ta_readOperand_78_16 (I := I) (J := J) (R := R) hg_69 hg_71 hR_14_4 h hQ)
                · rw [if_neg hc_31] at h
                  refine az_E.sn 2 (pc' := 75) (L' := [.ref 14, .int a1, .int (I 15 (I 14 2).toNatClampNeg)]) (S' := [.int (45 : Int32), .int (I 15 (I 14 2).toNatClampNeg)]) (σ' := (97, I, J, R)) rfl ?_
                  refine az_E.br (c := (I 15 (I 14 2).toNatClampNeg) = (45 : Int32)) (tt := 78) (ff := 120) (L' := [.ref 14, .int a1, .int (I 15 (I 14 2).toNatClampNeg)]) (S' := []) (σ' := (97, I, J, R)) rfl (fun hc_39 => ?_) (fun hc_39 => ?_)
                  · rw [if_pos hc_39] at h
                    exact az_E.forget (L := [.ref 14, .int a1, .int (I 15 (I 14 2).toNatClampNeg)]) ⟨rfl, rfl, rfl, trivial⟩ (re_Ta_readOperand_78_16 (I := I) (J := J) (R := R) hg_69 hg_71 hR_14_4 h hQ)
                  · rw [if_neg hc_39] at h
                    refine az_E.sn 2 (pc' := 123) (L' := [.ref 14, .int a1, .int (I 15 (I 14 2).toNatClampNeg)]) (S' := [.int (40 : Int32), .int (I 15 (I 14 2).toNatClampNeg)]) (σ' := (97, I, J, R)) rfl ?_
                    refine az_E.br (c := (I 15 (I 14 2).toNatClampNeg) = (40 : Int32)) (tt := 126) (ff := 151) (L' := [.ref 14, .int a1, .int (I 15 (I 14 2).toNatClampNeg)]) (S' := []) (σ' := (97, I, J, R)) rfl (fun hc_40 => ?_) (fun hc_40 => ?_)
                    · rw [if_pos hc_40] at h
                      refine az_E.sn 11 (pc' := 141) (L' := [.ref 14, .int a1, .int (I 15 (I 14 2).toNatClampNeg)]) (S' := [.int (a1 + (1 : Int32)), .int (0 : Int32), .ref 14]) (σ' := (97, (az_u I 14 2 ((I 14 2) + (1 : Int32))), J, R)) rfl ?_
                      cases hx_43 : rec 69 (0 : Int32) (a1 + (1 : Int32)) 0 0 (az_u I 14 2 ((I 14 2) + (1 : Int32))) with
                      | none => rw [hx_43] at h; cases h
                      | some o =>
                        rw [hx_43] at h
                        obtain ⟨x_41, I_42⟩ := o
                        dsimp only at h
                        refine az_E.call (d := (d + 1)) (k' := 69) (vs := [.ref 14, .int (0 : Int32), .int (a1 + (1 : Int32))]) (pc' := 144) (S' := []) (Q1 := fun v s => v = none ∧ s = (97, I_42, J, R)) rfl (az_E.deep (by omega) (hg_69 _ _ _ _ _ _ hx_43 (J := J) (R := R) hR_14_4 ⟨rfl, rfl⟩)) (fun v s hq => ?_)
                        obtain ⟨rfl, rfl⟩ := hq
                        show az_E az_F ex (d + 2) 71 144 [.ref 14, .int a1, .int (I 15 (I 14 2).toNatClampNeg)] [] (97, I_42, J, R) _
                        refine az_E.sn 1 (pc' := 145) (L' := [.ref 14, .int a1, .int (I 15 (I 14 2).toNatClampNeg)]) (S' := [.ref 14]) (σ' := (97, I_42, J, R)) rfl ?_
                        cases hx_45 : rs_Ta_closeBracket I_42 with
                        | none => rw [hx_45] at h; cases h
                        | some I_44 =>
                          rw [hx_45] at h
                          dsimp only at h
                          refine az_E.call (d := (d + 1)) (k' := 72) (vs := [.ref 14]) (pc' := 148) (S' := []) (Q1 := fun v s => v = none ∧ s = (97, I_44, J, R)) rfl (az_E.deep (by omega) (re_Ta_closeBracket (J := J) (R := R)  hx_45 ⟨rfl, rfl⟩)) (fun v s hq => ?_)
                          obtain ⟨rfl, rfl⟩ := hq
                          show az_E az_F ex (d + 2) 71 148 [.ref 14, .int a1, .int (I 15 (I 14 2).toNatClampNeg)] [] (97, I_44, J, R) _
                          refine az_E.sn 1 (pc' := 155) (L' := [.ref 14, .int a1, .int (I 15 (I 14 2).toNatClampNeg)]) (S' := []) (σ' := (97, I_44, J, R)) rfl ?_
                          have h := Option.some.inj h
                          subst h
                          exact az_E.ret (v := none) (σ' := (97, I_44, J, R)) rfl hQ
                    · rw [if_neg hc_40] at h
                      refine az_E.sn 1 (pc' := 152) (L' := [.ref 14, .int a1, .int (I 15 (I 14 2).toNatClampNeg)]) (S' := [.ref 14]) (σ' := (97, I, J, R)) rfl ?_
                      cases hx_47 : rs_Ta_fail I with
                      | none => rw [hx_47] at h; cases h
                      | some I_46 =>
                        rw [hx_47] at h
                        dsimp only at h
                        refine az_E.call (d := (d + 1)) (k' := 67) (vs := [.ref 14]) (pc' := 155) (S' := []) (Q1 := fun v s => v = none ∧ s = (97, I_46, J, R)) rfl (az_E.deep (by omega) (re_Ta_fail (J := J) (R := R)  hx_47 ⟨rfl, rfl⟩)) (fun v s hq => ?_)
                        obtain ⟨rfl, rfl⟩ := hq
                        show az_E az_F ex (d + 2) 71 155 [.ref 14, .int a1, .int (I 15 (I 14 2).toNatClampNeg)] [] (97, I_46, J, R) _
                        have h := Option.some.inj h
                        subst h
                        exact az_E.ret (v := none) (σ' := (97, I_46, J, R)) rfl hQ
              · rw [if_neg hc_30] at h
                refine az_E.sn 1 (pc' := 60) (L' := [.ref 14, .int a1, .int (I 15 (I 14 2).toNatClampNeg)]) (S' := [.ref 14]) (σ' := (97, I, J, R)) rfl ?_
                cases hx_49 : rs_Ta_fail I with
                | none => rw [hx_49] at h; cases h
                | some I_48 =>
                  rw [hx_49] at h
                  dsimp only at h
                  refine az_E.call (d := (d + 1)) (k' := 67) (vs := [.ref 14]) (pc' := 63) (S' := []) (Q1 := fun v s => v = none ∧ s = (97, I_48, J, R)) rfl (az_E.deep (by omega) (re_Ta_fail (J := J) (R := R)  hx_49 ⟨rfl, rfl⟩)) (fun v s hq => ?_)
                  obtain ⟨rfl, rfl⟩ := hq
                  show az_E az_F ex (d + 2) 71 63 [.ref 14, .int a1, .int (I 15 (I 14 2).toNatClampNeg)] [] (97, I_48, J, R) _
                  refine az_E.sn 1 (pc' := 155) (L' := [.ref 14, .int a1, .int (I 15 (I 14 2).toNatClampNeg)]) (S' := []) (σ' := (97, I_48, J, R)) rfl ?_
                  have h := Option.some.inj h
                  subst h
                  exact az_E.ret (v := none) (σ' := (97, I_48, J, R)) rfl hQ
            · rw [if_neg hc_29] at h
              refine az_E.sn 7 (pc' := 37) (L' := [.ref 14, .int a1, .int (I 15 (I 14 2).toNatClampNeg)]) (S' := [.ref 14]) (σ' := (97, (az_u I 14 2 ((I 14 2) + (1 : Int32))), J, R)) rfl ?_
              refine az_E.ov (pc' := 40) (L' := [.ref 14, .int a1, .int (I 15 (I 14 2).toNatClampNeg)]) (S' := []) (σ' := (97, (az_u I 14 2 ((I 14 2) + (1 : Int32))), J, R)) (x := .ref 16) rfl (congrArg (fun z => some (va_rf z)) hR_14_4) ?_
              refine az_E.sn 2 (pc' := 43) (L' := [.ref 14, .int a1, .int (I 15 (I 14 2).toNatClampNeg)]) (S' := [.int (I 15 (I 14 2).toNatClampNeg), .int (110 : Int32), .ref 16]) (σ' := (97, (az_u I 14 2 ((I 14 2) + (1 : Int32))), J, R)) rfl ?_
              refine az_E.call (d := (d + 1)) (k' := 75) (vs := [.int (I 15 (I 14 2).toNatClampNeg)]) (pc' := 46) (S' := [.int (110 : Int32), .ref 16]) (Q1 := fun v s => v = some (.int x_27) ∧ s = (97, (az_u I 14 2 ((I 14 2) + (1 : Int32))), J, R)) rfl (az_E.deep (by omega) (re_Ta_nameOf (J := J) (R := R)  hx_28 ⟨rfl, rfl⟩)) (fun v s hq => ?_)
              obtain ⟨rfl, rfl⟩ := hq
              show az_E az_F ex (d + 2) 71 46 [.ref 14, .int a1, .int (I 15 (I 14 2).toNatClampNeg)] [.int x_27, .int (110 : Int32), .ref 16] (97, (az_u I 14 2 ((I 14 2) + (1 : Int32))), J, R) _
              cases hx_52 : rs_La_add 16 (az_u I 14 2 ((I 14 2) + (1 : Int32))) (110 : Int32) x_27 with
              | none => rw [hx_52] at h; cases h
              | some o =>
                rw [hx_52] at h
                obtain ⟨x_50, I_51⟩ := o
                dsimp only at h
                refine az_E.call (d := (d + 1)) (k' := 28) (vs := [.ref 16, .int (110 : Int32), .int x_27]) (pc' := 49) (S' := []) (Q1 := fun v s => v = some (.int x_50) ∧ s = (97, I_51, J, R)) rfl (az_E.deep (by omega) (re_La_add_16 (J := J) (R := R)  hx_52 ⟨rfl, rfl⟩)) (fun v s hq => ?_)
                obtain ⟨rfl, rfl⟩ := hq
                show az_E az_F ex (d + 2) 71 49 [.ref 14, .int a1, .int (I 15 (I 14 2).toNatClampNeg)] [.int x_50] (97, I_51, J, R) _
                refine az_E.sn 2 (pc' := 155) (L' := [.ref 14, .int a1, .int (I 15 (I 14 2).toNatClampNeg)]) (S' := []) (σ' := (97, I_51, J, R)) rfl ?_
                have h := Option.some.inj h
                subst h
                exact az_E.ret (v := none) (σ' := (97, I_51, J, R)) rfl hQ
        · rw [if_neg hc_26] at h
          refine az_E.sn 2 (pc' := 9) (L' := [.int (I 15 (I 14 2).toNatClampNeg)]) (S' := [.int (57 : Int32), .int (I 15 (I 14 2).toNatClampNeg)]) (σ' := (97, I, J, R)) rfl ?_
          refine az_E.br (c := (57 : Int32) < (I 15 (I 14 2).toNatClampNeg)) (tt := 16) (ff := 12) (L' := [.int (I 15 (I 14 2).toNatClampNeg)]) (S' := []) (σ' := (97, I, J, R)) rfl (fun hc_53 => ?_) (fun hc_53 => ?_)
          · rw [if_pos hc_53] at h
            refine az_E.sn 1 (pc' := 17) (L' := [.int (I 15 (I 14 2).toNatClampNeg)]) (S' := [.int (0 : Int32)]) (σ' := (97, I, J, R)) rfl ?_
            refine az_E.ret (v := some (.int (0 : Int32))) (σ' := (97, I, J, R)) rfl ?_
            show az_E az_F ex (d + 2) 71 9 [.ref 14, .int a1, .int (I 15 (I 14 2).toNatClampNeg)] [.int (0 : Int32)] (97, I, J, R) _
            refine az_E.br (c := (0 : Int32) = 0) (tt := 19) (ff := 12) (L' := [.ref 14, .int a1, .int (I 15 (I 14 2).toNatClampNeg)]) (S' := []) (σ' := (97, I, J, R)) rfl (fun _ => ?_) (fun hn => absurd (by decide) hn)
            refine az_E.sn 1 (pc' := 20) (L' := [.ref 14, .int a1, .int (I 15 (I 14 2).toNatClampNeg)]) (S' := [.int (I 15 (I 14 2).toNatClampNeg)]) (σ' := (97, I, J, R)) rfl ?_
            cases hx_55 : rs_Ta_nameOf (I 15 (I 14 2).toNatClampNeg) with
            | none => rw [hx_55] at h; cases h
            | some x_54 =>
              rw [hx_55] at h
              dsimp only at h
              refine az_E.call (d := (d + 1)) (k' := 75) (vs := [.int (I 15 (I 14 2).toNatClampNeg)]) (pc' := 23) (S' := []) (Q1 := fun v s => v = some (.int x_54) ∧ s = (97, I, J, R)) rfl (az_E.deep (by omega) (re_Ta_nameOf (J := J) (R := R)  hx_55 ⟨rfl, rfl⟩)) (fun v s hq => ?_)
              obtain ⟨rfl, rfl⟩ := hq
              show az_E az_F ex (d + 2) 71 23 [.ref 14, .int a1, .int (I 15 (I 14 2).toNatClampNeg)] [.int x_54] (97, I, J, R) _
              refine az_E.br (c := x_54 < 0) (tt := 53) (ff := 26) (L' := [.ref 14, .int a1, .int (I 15 (I 14 2).toNatClampNeg)]) (S' := []) (σ' := (97, I, J, R)) rfl (fun hc_56 => ?_) (fun hc_56 => ?_)
              · rw [if_pos hc_56] at h
                refine az_E.sn 2 (pc' := 56) (L' := [.ref 14, .int a1, .int (I 15 (I 14 2).toNatClampNeg)]) (S' := [.int (6 : Int32), .int a1]) (σ' := (97, I, J, R)) rfl ?_
                refine az_E.br (c := a1 < (6 : Int32)) (tt := 66) (ff := 59) (L' := [.ref 14, .int a1, .int (I 15 (I 14 2).toNatClampNeg)]) (S' := []) (σ' := (97, I, J, R)) rfl (fun hc_57 => ?_) (fun hc_57 => ?_)
                · rw [if_pos hc_57] at h
                  refine az_E.sn 2 (pc' := 69) (L' := [.ref 14, .int a1, .int (I 15 (I 14 2).toNatClampNeg)]) (S' := [.int (33 : Int32), .int (I 15 (I 14 2).toNatClampNeg)]) (σ' := (97, I, J, R)) rfl ?_
                  refine az_E.br (c := (I 15 (I 14 2).toNatClampNeg) = (33 : Int32)) (tt := 78) (ff := 72) (L' := [.ref 14, .int a1, .int (I 15 (I 14 2).toNatClampNeg)]) (S' := []) (σ' := (97, I, J, R)) rfl (fun hc_58 => ?_) (fun hc_58 => ?_)
                  · rw [if_pos hc_58] at h
                    exact az_E.forget (L := [.ref 14, .int a1, .int (I 15 (I 14 2).toNatClampNeg)]) ⟨rfl, rfl, rfl, trivial⟩ (re_Ta_readOperand_78_16 (I := I) (J := J) (R := R) hg_69 hg_71 hR_14_4 h hQ)
                  · rw [if_neg hc_58] at h
                    refine az_E.sn 2 (pc' := 75) (L' := [.ref 14, .int a1, .int (I 15 (I 14 2).toNatClampNeg)]) (S' := [.int (45 : Int32), .int (I 15 (I 14 2).toNatClampNeg)]) (σ' := (97, I, J, R)) rfl ?_
                    refine az_E.br (c := (I 15 (I 14 2).toNatClampNeg) = (45 : Int32)) (tt := 78) (ff := 120) (L' := [.ref 14, .int a1, .int (I 15 (I 14 2).toNatClampNeg)]) (S' := []) (σ' := (97, I, J, R)) rfl (fun hc_59 => ?_) (fun hc_59 => ?_)
                    · rw [if_pos hc_59] at h
                      exact az_E.forget (L := [.ref 14, .int a1, .int (I 15 (I 14 2).toNatClampNeg)]) ⟨rfl, rfl, rfl, trivial⟩ (re_Ta_readOperand_78_16 (I := I) (J := J) (R := R) hg_69 hg_71 hR_14_4 h hQ)
                    · rw [if_neg hc_59] at h
                      refine az_E.sn 2 (pc' := 123) (L' := [.ref 14, .int a1, .int (I 15 (I 14 2).toNatClampNeg)]) (S' := [.int (40 : Int32), .int (I 15 (I 14 2).toNatClampNeg)]) (σ' := (97, I, J, R)) rfl ?_
                      refine az_E.br (c := (I 15 (I 14 2).toNatClampNeg) = (40 : Int32)) (tt := 126) (ff := 151) (L' := [.ref 14, .int a1, .int (I 15 (I 14 2).toNatClampNeg)]) (S' := []) (σ' := (97, I, J, R)) rfl (fun hc_60 => ?_) (fun hc_60 => ?_)
                      · rw [if_pos hc_60] at h
                        refine az_E.sn 11 (pc' := 141) (L' := [.ref 14, .int a1, .int (I 15 (I 14 2).toNatClampNeg)]) (S' := [.int (a1 + (1 : Int32)), .int (0 : Int32), .ref 14]) (σ' := (97, (az_u I 14 2 ((I 14 2) + (1 : Int32))), J, R)) rfl ?_
                        cases hx_63 : rec 69 (0 : Int32) (a1 + (1 : Int32)) 0 0 (az_u I 14 2 ((I 14 2) + (1 : Int32))) with
                        | none => rw [hx_63] at h; cases h
                        | some o =>
                          rw [hx_63] at h
                          obtain ⟨x_61, I_62⟩ := o
                          dsimp only at h
                          refine az_E.call (d := (d + 1)) (k' := 69) (vs := [.ref 14, .int (0 : Int32), .int (a1 + (1 : Int32))]) (pc' := 144) (S' := []) (Q1 := fun v s => v = none ∧ s = (97, I_62, J, R)) rfl (az_E.deep (by omega) (hg_69 _ _ _ _ _ _ hx_63 (J := J) (R := R) hR_14_4 ⟨rfl, rfl⟩)) (fun v s hq => ?_)
                          obtain ⟨rfl, rfl⟩ := hq
                          show az_E az_F ex (d + 2) 71 144 [.ref 14, .int a1, .int (I 15 (I 14 2).toNatClampNeg)] [] (97, I_62, J, R) _
                          refine az_E.sn 1 (pc' := 145) (L' := [.ref 14, .int a1, .int (I 15 (I 14 2).toNatClampNeg)]) (S' := [.ref 14]) (σ' := (97, I_62, J, R)) rfl ?_
                          cases hx_65 : rs_Ta_closeBracket I_62 with
                          | none => rw [hx_65] at h; cases h
                          | some I_64 =>
                            rw [hx_65] at h
                            dsimp only at h
                            refine az_E.call (d := (d + 1)) (k' := 72) (vs := [.ref 14]) (pc' := 148) (S' := []) (Q1 := fun v s => v = none ∧ s = (97, I_64, J, R)) rfl (az_E.deep (by omega) (re_Ta_closeBracket (J := J) (R := R)  hx_65 ⟨rfl, rfl⟩)) (fun v s hq => ?_)
                            obtain ⟨rfl, rfl⟩ := hq
                            show az_E az_F ex (d + 2) 71 148 [.ref 14, .int a1, .int (I 15 (I 14 2).toNatClampNeg)] [] (97, I_64, J, R) _
                            refine az_E.sn 1 (pc' := 155) (L' := [.ref 14, .int a1, .int (I 15 (I 14 2).toNatClampNeg)]) (S' := []) (σ' := (97, I_64, J, R)) rfl ?_
                            have h := Option.some.inj h
                            subst h
                            exact az_E.ret (v := none) (σ' := (97, I_64, J, R)) rfl hQ
                      · rw [if_neg hc_60] at h
                        refine az_E.sn 1 (pc' := 152) (L' := [.ref 14, .int a1, .int (I 15 (I 14 2).toNatClampNeg)]) (S' := [.ref 14]) (σ' := (97, I, J, R)) rfl ?_
                        cases hx_67 : rs_Ta_fail I with
                        | none => rw [hx_67] at h; cases h
                        | some I_66 =>
                          rw [hx_67] at h
                          dsimp only at h
                          refine az_E.call (d := (d + 1)) (k' := 67) (vs := [.ref 14]) (pc' := 155) (S' := []) (Q1 := fun v s => v = none ∧ s = (97, I_66, J, R)) rfl (az_E.deep (by omega) (re_Ta_fail (J := J) (R := R)  hx_67 ⟨rfl, rfl⟩)) (fun v s hq => ?_)
                          obtain ⟨rfl, rfl⟩ := hq
                          show az_E az_F ex (d + 2) 71 155 [.ref 14, .int a1, .int (I 15 (I 14 2).toNatClampNeg)] [] (97, I_66, J, R) _
                          have h := Option.some.inj h
                          subst h
                          exact az_E.ret (v := none) (σ' := (97, I_66, J, R)) rfl hQ
                · rw [if_neg hc_57] at h
                  refine az_E.sn 1 (pc' := 60) (L' := [.ref 14, .int a1, .int (I 15 (I 14 2).toNatClampNeg)]) (S' := [.ref 14]) (σ' := (97, I, J, R)) rfl ?_
                  cases hx_69 : rs_Ta_fail I with
                  | none => rw [hx_69] at h; cases h
                  | some I_68 =>
                    rw [hx_69] at h
                    dsimp only at h
                    refine az_E.call (d := (d + 1)) (k' := 67) (vs := [.ref 14]) (pc' := 63) (S' := []) (Q1 := fun v s => v = none ∧ s = (97, I_68, J, R)) rfl (az_E.deep (by omega) (re_Ta_fail (J := J) (R := R)  hx_69 ⟨rfl, rfl⟩)) (fun v s hq => ?_)
                    obtain ⟨rfl, rfl⟩ := hq
                    show az_E az_F ex (d + 2) 71 63 [.ref 14, .int a1, .int (I 15 (I 14 2).toNatClampNeg)] [] (97, I_68, J, R) _
                    refine az_E.sn 1 (pc' := 155) (L' := [.ref 14, .int a1, .int (I 15 (I 14 2).toNatClampNeg)]) (S' := []) (σ' := (97, I_68, J, R)) rfl ?_
                    have h := Option.some.inj h
                    subst h
                    exact az_E.ret (v := none) (σ' := (97, I_68, J, R)) rfl hQ
              · rw [if_neg hc_56] at h
                refine az_E.sn 7 (pc' := 37) (L' := [.ref 14, .int a1, .int (I 15 (I 14 2).toNatClampNeg)]) (S' := [.ref 14]) (σ' := (97, (az_u I 14 2 ((I 14 2) + (1 : Int32))), J, R)) rfl ?_
                refine az_E.ov (pc' := 40) (L' := [.ref 14, .int a1, .int (I 15 (I 14 2).toNatClampNeg)]) (S' := []) (σ' := (97, (az_u I 14 2 ((I 14 2) + (1 : Int32))), J, R)) (x := .ref 16) rfl (congrArg (fun z => some (va_rf z)) hR_14_4) ?_
                refine az_E.sn 2 (pc' := 43) (L' := [.ref 14, .int a1, .int (I 15 (I 14 2).toNatClampNeg)]) (S' := [.int (I 15 (I 14 2).toNatClampNeg), .int (110 : Int32), .ref 16]) (σ' := (97, (az_u I 14 2 ((I 14 2) + (1 : Int32))), J, R)) rfl ?_
                refine az_E.call (d := (d + 1)) (k' := 75) (vs := [.int (I 15 (I 14 2).toNatClampNeg)]) (pc' := 46) (S' := [.int (110 : Int32), .ref 16]) (Q1 := fun v s => v = some (.int x_54) ∧ s = (97, (az_u I 14 2 ((I 14 2) + (1 : Int32))), J, R)) rfl (az_E.deep (by omega) (re_Ta_nameOf (J := J) (R := R)  hx_55 ⟨rfl, rfl⟩)) (fun v s hq => ?_)
                obtain ⟨rfl, rfl⟩ := hq
                show az_E az_F ex (d + 2) 71 46 [.ref 14, .int a1, .int (I 15 (I 14 2).toNatClampNeg)] [.int x_54, .int (110 : Int32), .ref 16] (97, (az_u I 14 2 ((I 14 2) + (1 : Int32))), J, R) _
                cases hx_72 : rs_La_add 16 (az_u I 14 2 ((I 14 2) + (1 : Int32))) (110 : Int32) x_54 with
                | none => rw [hx_72] at h; cases h
                | some o =>
                  rw [hx_72] at h
                  obtain ⟨x_70, I_71⟩ := o
                  dsimp only at h
                  refine az_E.call (d := (d + 1)) (k' := 28) (vs := [.ref 16, .int (110 : Int32), .int x_54]) (pc' := 49) (S' := []) (Q1 := fun v s => v = some (.int x_70) ∧ s = (97, I_71, J, R)) rfl (az_E.deep (by omega) (re_La_add_16 (J := J) (R := R)  hx_72 ⟨rfl, rfl⟩)) (fun v s hq => ?_)
                  obtain ⟨rfl, rfl⟩ := hq
                  show az_E az_F ex (d + 2) 71 49 [.ref 14, .int a1, .int (I 15 (I 14 2).toNatClampNeg)] [.int x_70] (97, I_71, J, R) _
                  refine az_E.sn 2 (pc' := 155) (L' := [.ref 14, .int a1, .int (I 15 (I 14 2).toNatClampNeg)]) (S' := []) (σ' := (97, I_71, J, R)) rfl ?_
                  have h := Option.some.inj h
                  subst h
                  exact az_E.ret (v := none) (σ' := (97, I_71, J, R)) rfl hQ
          · rw [if_neg hc_53] at h
            refine az_E.sn 2 (pc' := 17) (L' := [.int (I 15 (I 14 2).toNatClampNeg)]) (S' := [.int (1 : Int32)]) (σ' := (97, I, J, R)) rfl ?_
            refine az_E.ret (v := some (.int (1 : Int32))) (σ' := (97, I, J, R)) rfl ?_
            show az_E az_F ex (d + 2) 71 9 [.ref 14, .int a1, .int (I 15 (I 14 2).toNatClampNeg)] [.int (1 : Int32)] (97, I, J, R) _
            refine az_E.br (c := (1 : Int32) = 0) (tt := 19) (ff := 12) (L' := [.ref 14, .int a1, .int (I 15 (I 14 2).toNatClampNeg)]) (S' := []) (σ' := (97, I, J, R)) rfl (fun hn => absurd hn (by decide)) (fun _ => ?_)
            refine az_E.sn 1 (pc' := 13) (L' := [.ref 14, .int a1, .int (I 15 (I 14 2).toNatClampNeg)]) (S' := [.ref 14]) (σ' := (97, I, J, R)) rfl ?_
            cases hx_74 : rs_Ta_readNumber 16 I with
            | none => rw [hx_74] at h; cases h
            | some I_73 =>
              rw [hx_74] at h
              dsimp only at h
              refine az_E.call (d := (d + 1)) (k' := 73) (vs := [.ref 14]) (pc' := 16) (S' := []) (Q1 := fun v s => v = none ∧ s = (97, I_73, J, R)) rfl (az_E.deep (by omega) (re_Ta_readNumber_16 (J := J) (R := R) hR_14_4 hx_74 ⟨rfl, rfl⟩)) (fun v s hq => ?_)
              obtain ⟨rfl, rfl⟩ := hq
              show az_E az_F ex (d + 2) 71 16 [.ref 14, .int a1, .int (I 15 (I 14 2).toNatClampNeg)] [] (97, I_73, J, R) _
              refine az_E.sn 1 (pc' := 155) (L' := [.ref 14, .int a1, .int (I 15 (I 14 2).toNatClampNeg)]) (S' := []) (σ' := (97, I_73, J, R)) rfl ?_
              have h := Option.some.inj h
              subst h
              exact az_E.ret (v := none) (σ' := (97, I_73, J, R)) rfl hQ
set_option maxRecDepth 100000 in
set_option maxHeartbeats 4000000 in
theorem re_G1_16 {ex : az_X} : ∀ n : Nat, (∀ (b1 b2 b3 b4 : Int32) (I : Nat → Nat → Int32) (o : Int32 × (Nat → Nat → Int32)), rs_G1 16 n 69 b1 b2 b3 b4 I = some o → ∀ {J : Nat → Nat → Int64} {R : Nat → Nat → Option Nat} {Q : Option Value → az_S → Prop}, R 14 4 = some 16 → Q none (97, o.2, J, R) → az_E az_F ex (n * 2) 69 0 [.ref 14, .int b1, .int b2, .retAddr 0, .retAddr 0] [] (97, I, J, R) Q) ∧ (∀ (b1 b2 b3 b4 : Int32) (I : Nat → Nat → Int32) (o : Int32 × (Nat → Nat → Int32)), rs_G1 16 n 71 b1 b2 b3 b4 I = some o → ∀ {J : Nat → Nat → Int64} {R : Nat → Nat → Option Nat} {Q : Option Value → az_S → Prop}, R 14 4 = some 16 → Q none (97, o.2, J, R) → az_E az_F ex (n * 2) 71 0 [.ref 14, .int b1, .retAddr 0] [] (97, I, J, R) Q) := by
  intro n
  induction n with
  | zero =>
    refine ⟨?_, ?_⟩
    all_goals (intro b1 b2 b3 b4 I o h; cases h)
  | succ n ih =>
    obtain ⟨hg_69, hg_71⟩ := ih
    have e : (n + 1) * 2 = n * 2 + 2 := by omega
    rw [e]
    refine ⟨?_, ?_⟩
    · intro b1 b2 b3 b4 I o h J R Q hR_14_4 hQ
      replace h : (rs_Ta_readLevel (rs_G1 16 n) 16 I b1 b2).map (fun I => ((0 : Int32), I)) = some o := h
      obtain ⟨I1, hI, rfl⟩ := Option.map_eq_some_iff.mp h
      exact re_Ta_readLevel_16 hg_69 hg_71 hR_14_4 hI hQ
    · intro b1 b2 b3 b4 I o h J R Q hR_14_4 hQ
      replace h : (rs_Ta_readOperand (rs_G1 16 n) 16 I b1).map (fun I => ((0 : Int32), I)) = some o := h
      obtain ⟨I1, hI, rfl⟩ := Option.map_eq_some_iff.mp h
      exact re_Ta_readOperand_16 hg_69 hg_71 hR_14_4 hI hQ
set_option maxRecDepth 100000 in
set_option maxHeartbeats 4000000 in
theorem re_G1_69_16 {ex : az_X} {n : Nat} : ∀ (b1 b2 b3 b4 : Int32) (I : Nat → Nat → Int32) (o : Int32 × (Nat → Nat → Int32)), rs_G1 16 n 69 b1 b2 b3 b4 I = some o → ∀ {J : Nat → Nat → Int64} {R : Nat → Nat → Option Nat} {Q : Option Value → az_S → Prop}, R 14 4 = some 16 → Q none (97, o.2, J, R) → az_E az_F ex (n * 2) 69 0 [.ref 14, .int b1, .int b2, .retAddr 0, .retAddr 0] [] (97, I, J, R) Q := (re_G1_16 n).1
set_option maxRecDepth 100000 in
set_option maxHeartbeats 4000000 in
theorem re_G1_71_16 {ex : az_X} {n : Nat} : ∀ (b1 b2 b3 b4 : Int32) (I : Nat → Nat → Int32) (o : Int32 × (Nat → Nat → Int32)), rs_G1 16 n 71 b1 b2 b3 b4 I = some o → ∀ {J : Nat → Nat → Int64} {R : Nat → Nat → Option Nat} {Q : Option Value → az_S → Prop}, R 14 4 = some 16 → Q none (97, o.2, J, R) → az_E az_F ex (n * 2) 71 0 [.ref 14, .int b1, .retAddr 0] [] (97, I, J, R) Q := (re_G1_16 n).2
set_option maxRecDepth 100000 in
set_option maxHeartbeats 4000000 in
theorem re_La_join_16 {ex : az_X} {I : Nat → Nat → Int32} {J : Nat → Nat → Int64} {R : Nat → Nat → Option Nat} {a1 : Int32} {a2 : Int32} {o : (Nat → Nat → Int32)} (h : rs_La_join 16 I a1 a2 = some o) {Q : Option Value → az_S → Prop} (hQ : Q none (97, o, J, R)) : az_E az_F ex 1 29 0 [.ref 16, .int a1, .int a2] [] (97, I, J, R) Q := by
  unfold rs_La_join at h
  refine az_E.sn 6 (pc' := 8) (L' := [.ref 16, .int a1, .int a2]) (S' := [.int ((I 16 4) - (1 : Int32)), .int (0 : Int32), .int a1]) (σ' := (97, I, J, R)) rfl ?_
  refine az_E.call (d := 0) (k' := 131) (vs := [.int a1, .int (0 : Int32), .int ((I 16 4) - (1 : Int32))]) (pc' := 11) (S' := []) rfl ?_ (fun _ _ hq => hq)
  show az_E az_F ex 0 131 0 [.int a1, .int (0 : Int32), .int ((I 16 4) - (1 : Int32))] [] (97, I, J, R) _
  refine az_E.sn 2 (pc' := 2) (L' := [.int a1, .int (0 : Int32), .int ((I 16 4) - (1 : Int32))]) (S' := [.int (0 : Int32), .int a1]) (σ' := (97, I, J, R)) rfl ?_
  refine az_E.br (c := a1 < (0 : Int32)) (tt := 14) (ff := 5) (L' := [.int a1, .int (0 : Int32), .int ((I 16 4) - (1 : Int32))]) (S' := []) (σ' := (97, I, J, R)) rfl (fun hc_1 => ?_) (fun hc_1 => ?_)
  · rw [if_pos hc_1] at h
    refine az_E.sn 1 (pc' := 15) (L' := [.int a1, .int (0 : Int32), .int ((I 16 4) - (1 : Int32))]) (S' := [.int (0 : Int32)]) (σ' := (97, I, J, R)) rfl ?_
    refine az_E.ret (v := some (.int (0 : Int32))) (σ' := (97, I, J, R)) rfl ?_
    show az_E az_F ex 1 29 11 [.ref 16, .int a1, .int a2] [.int (0 : Int32)] (97, I, J, R) _
    refine az_E.br (c := (0 : Int32) = 0) (tt := 26) (ff := 14) (L' := [.ref 16, .int a1, .int a2]) (S' := []) (σ' := (97, I, J, R)) rfl (fun _ => ?_) (fun hn => absurd (by decide) hn)
    have h := Option.some.inj h
    subst h
    exact az_E.ret (v := none) (σ' := (97, I, J, R)) rfl hQ
  · rw [if_neg hc_1] at h
    refine az_E.sn 2 (pc' := 7) (L' := [.int a1, .int (0 : Int32), .int ((I 16 4) - (1 : Int32))]) (S' := [.int ((I 16 4) - (1 : Int32)), .int a1]) (σ' := (97, I, J, R)) rfl ?_
    refine az_E.br (c := ((I 16 4) - (1 : Int32)) < a1) (tt := 14) (ff := 10) (L' := [.int a1, .int (0 : Int32), .int ((I 16 4) - (1 : Int32))]) (S' := []) (σ' := (97, I, J, R)) rfl (fun hc_2 => ?_) (fun hc_2 => ?_)
    · rw [if_pos hc_2] at h
      refine az_E.sn 1 (pc' := 15) (L' := [.int a1, .int (0 : Int32), .int ((I 16 4) - (1 : Int32))]) (S' := [.int (0 : Int32)]) (σ' := (97, I, J, R)) rfl ?_
      refine az_E.ret (v := some (.int (0 : Int32))) (σ' := (97, I, J, R)) rfl ?_
      show az_E az_F ex 1 29 11 [.ref 16, .int a1, .int a2] [.int (0 : Int32)] (97, I, J, R) _
      refine az_E.br (c := (0 : Int32) = 0) (tt := 26) (ff := 14) (L' := [.ref 16, .int a1, .int a2]) (S' := []) (σ' := (97, I, J, R)) rfl (fun _ => ?_) (fun hn => absurd (by decide) hn)
      have h := Option.some.inj h
      subst h
      exact az_E.ret (v := none) (σ' := (97, I, J, R)) rfl hQ
    · rw [if_neg hc_2] at h
      refine az_E.sn 2 (pc' := 15) (L' := [.int a1, .int (0 : Int32), .int ((I 16 4) - (1 : Int32))]) (S' := [.int (1 : Int32)]) (σ' := (97, I, J, R)) rfl ?_
      refine az_E.ret (v := some (.int (1 : Int32))) (σ' := (97, I, J, R)) rfl ?_
      show az_E az_F ex 1 29 11 [.ref 16, .int a1, .int a2] [.int (1 : Int32)] (97, I, J, R) _
      refine az_E.br (c := (1 : Int32) = 0) (tt := 26) (ff := 14) (L' := [.ref 16, .int a1, .int a2]) (S' := []) (σ' := (97, I, J, R)) rfl (fun hn => absurd hn (by decide)) (fun _ => ?_)
      refine az_E.sn 2 (pc' := 16) (L' := [.ref 16, .int a1, .int a2]) (S' := [.int a2, .int a1]) (σ' := (97, I, J, R)) rfl ?_
      refine az_E.br (c := a2 ≤ a1) (tt := 26) (ff := 19) (L' := [.ref 16, .int a1, .int a2]) (S' := []) (σ' := (97, I, J, R)) rfl (fun hc_3 => ?_) (fun hc_3 => ?_)
      · rw [if_pos hc_3] at h
        have h := Option.some.inj h
        subst h
        exact az_E.ret (v := none) (σ' := (97, I, J, R)) rfl hQ
      · rw [if_neg hc_3] at h
        refine az_E.sn 4 (pc' := 25) (L' := [.ref 16, .int a1, .int a2]) (S' := [.int a2, .int a1, .ref (16 + 2)]) (σ' := (97, I, J, R)) rfl ?_
        by_cases hc_4 : a1 < 0 ∨ 121 ≤ a1.toNatClampNeg
        · rw [if_pos hc_4] at h; cases h
        · rw [if_neg hc_4] at h
          refine az_E.o (o := az_si az_F (97, I, J, R) (16 + 2) a1 a2) (pc' := 26) (L' := [.ref 16, .int a1, .int a2]) (S' := []) (x := (97, (az_u I (16 + 2) a1.toNatClampNeg a2), J, R)) rfl (if_neg hc_4) ?_
          have h := Option.some.inj h
          subst h
          exact az_E.ret (v := none) (σ' := (97, (az_u I (16 + 2) a1.toNatClampNeg a2), J, R)) rfl hQ
set_option maxRecDepth 100000 in
set_option maxHeartbeats 4000000 in
theorem re_Ta_readLine_70_16 {ex : az_X} {I : Nat → Nat → Int32} {J : Nat → Nat → Int64} {R : Nat → Nat → Option Nat} (hR_14_4 : R 14 4 = some 16) {x : (Nat → Nat → Int32)} (h : rs_Ta_readLine_70 16 I = some x) {Q : Option Value → az_S → Prop} (hQ : Q none (97, x, J, R)) : az_E az_F ex 121 68 70 [.ref 14, .retAddr 0] [] (97, I, J, R) Q := by
  unfold rs_Ta_readLine_70 at h
  refine az_E.sn 1 (pc' := 71) (L' := [.ref 14, .retAddr 0]) (S' := [.ref 14]) (σ' := (97, I, J, R)) rfl ?_
  refine az_E.ov (pc' := 74) (L' := [.ref 14, .retAddr 0]) (S' := []) (σ' := (97, I, J, R)) (x := .ref 16) rfl (congrArg (fun z => some (va_rf z)) hR_14_4) ?_
  refine az_E.sn 2 (pc' := 77) (L' := [.ref 14, .retAddr 0]) (S' := [.int (0 : Int32), .int (59 : Int32), .ref 16]) (σ' := (97, I, J, R)) rfl ?_
  cases hx_7 : rs_La_add 16 I (59 : Int32) (0 : Int32) with
  | none => rw [hx_7] at h; cases h
  | some o =>
    rw [hx_7] at h
    obtain ⟨x_5, I_6⟩ := o
    dsimp only at h
    refine az_E.call (d := 120) (k' := 28) (vs := [.ref 16, .int (59 : Int32), .int (0 : Int32)]) (pc' := 80) (S' := []) (Q1 := fun v s => v = some (.int x_5) ∧ s = (97, I_6, J, R)) rfl (az_E.deep (by omega) (re_La_add_16 (J := J) (R := R)  hx_7 ⟨rfl, rfl⟩)) (fun v s hq => ?_)
    obtain ⟨rfl, rfl⟩ := hq
    show az_E az_F ex 121 68 80 [.ref 14, .retAddr 0] [.int x_5] (97, I_6, J, R) _
    refine az_E.sn 1 (pc' := 81) (L' := [.ref 14, .retAddr 0]) (S' := []) (σ' := (97, I_6, J, R)) rfl ?_
    have h := Option.some.inj h
    subst h
    exact az_E.ret (v := none) (σ' := (97, I_6, J, R)) rfl hQ
set_option maxRecDepth 100000 in
set_option maxHeartbeats 4000000 in
theorem re_Ta_readLine_16 {ex : az_X} {I : Nat → Nat → Int32} {J : Nat → Nat → Int64} {R : Nat → Nat → Option Nat} (hR_14_4 : R 14 4 = some 16) {o : (Nat → Nat → Int32)} (h : rs_Ta_readLine 16 I = some o) {Q : Option Value → az_S → Prop} (hQ : Q none (97, o, J, R)) : az_E az_F ex 121 68 0 [.ref 14, .retAddr 0] [] (97, I, J, R) Q := by
  unfold rs_Ta_readLine at h
  refine az_E.sn 3 (pc' := 3) (L' := [.ref 14, .retAddr 0]) (S' := [.int (0 : Int32), .int (0 : Int32), .ref 14]) (σ' := (97, I, J, R)) rfl ?_
  cases hx_3 : rs_G1 16 60 69 (0 : Int32) (0 : Int32) 0 0 I with
  | none => rw [hx_3] at h; cases h
  | some o =>
    rw [hx_3] at h
    obtain ⟨x_1, I_2⟩ := o
    dsimp only at h
    refine az_E.call (d := 120) (k' := 69) (vs := [.ref 14, .int (0 : Int32), .int (0 : Int32)]) (pc' := 6) (S' := []) (Q1 := fun v s => v = none ∧ s = (97, I_2, J, R)) rfl (az_E.deep (by omega) (re_G1_69_16 (n := 60) _ _ _ _ _ _ hx_3 (J := J) (R := R) hR_14_4 ⟨rfl, rfl⟩)) (fun v s hq => ?_)
    obtain ⟨rfl, rfl⟩ := hq
    show az_E az_F ex 121 68 6 [.ref 14, .retAddr 0] [] (97, I_2, J, R) _
    refine az_E.sn 2 (pc' := 10) (L' := [.ref 14, .retAddr 0]) (S' := [.int (I_2 14 3)]) (σ' := (97, I_2, J, R)) rfl ?_
    refine az_E.br (c := 0 ≤ (I_2 14 3)) (tt := 70) (ff := 13) (L' := [.ref 14, .retAddr 0]) (S' := []) (σ' := (97, I_2, J, R)) rfl (fun hc_4 => ?_) (fun hc_4 => ?_)
    · rw [if_pos hc_4] at h
      exact az_E.forget (L := [.ref 14, .retAddr 0]) ⟨rfl, trivial, trivial⟩ (re_Ta_readLine_70_16 (I := I_2) (J := J) (R := R) hR_14_4 h hQ)
    · rw [if_neg hc_4] at h
      refine az_E.sn 1 (pc' := 14) (L' := [.ref 14, .retAddr 0]) (S' := [.ref 14]) (σ' := (97, I_2, J, R)) rfl ?_
      refine az_E.call (d := 120) (k' := 66) (vs := [.ref 14]) (pc' := 17) (S' := []) rfl ?_ (fun _ _ hq => hq)
      show az_E az_F ex 120 66 0 [.ref 14] [] (97, I_2, J, R) _
      refine az_E.sn 2 (pc' := 4) (L' := [.ref 14]) (S' := [.int (I_2 14 2)]) (σ' := (97, I_2, J, R)) rfl ?_
      refine az_E.br (c := (I_2 14 2) < 0) (tt := 30) (ff := 7) (L' := [.ref 14]) (S' := []) (σ' := (97, I_2, J, R)) rfl (fun hc_8 => ?_) (fun hc_8 => ?_)
      · rw [if_pos hc_8] at h
        refine az_E.sn 1 (pc' := 31) (L' := [.ref 14]) (S' := [.int (-1 : Int32)]) (σ' := (97, I_2, J, R)) rfl ?_
        refine az_E.ret (v := some (.int (-1 : Int32))) (σ' := (97, I_2, J, R)) rfl ?_
        show az_E az_F ex 121 68 17 [.ref 14, .retAddr 0] [.int (-1 : Int32)] (97, I_2, J, R) _
        refine az_E.sn 1 (pc' := 19) (L' := [.ref 14, .retAddr 0]) (S' := [.int (63 : Int32), .int (-1 : Int32)]) (σ' := (97, I_2, J, R)) rfl ?_
        refine az_E.br (c := (-1 : Int32) = (63 : Int32)) (tt := 22) (ff := 70) (L' := [.ref 14, .retAddr 0]) (S' := []) (σ' := (97, I_2, J, R)) rfl (fun hn => absurd hn (by decide)) (fun _ => ?_)
        exact az_E.forget (L := [.ref 14, .retAddr 0]) ⟨rfl, trivial, trivial⟩ (re_Ta_readLine_70_16 (I := I_2) (J := J) (R := R) hR_14_4 h hQ)
      · rw [if_neg hc_8] at h
        refine az_E.sn 4 (pc' := 15) (L' := [.ref 14]) (S' := [.int (I_2 14 1), .int (I_2 14 2)]) (σ' := (97, I_2, J, R)) rfl ?_
        refine az_E.br (c := (I_2 14 1) ≤ (I_2 14 2)) (tt := 30) (ff := 18) (L' := [.ref 14]) (S' := []) (σ' := (97, I_2, J, R)) rfl (fun hc_9 => ?_) (fun hc_9 => ?_)
        · rw [if_pos hc_9] at h
          refine az_E.sn 1 (pc' := 31) (L' := [.ref 14]) (S' := [.int (-1 : Int32)]) (σ' := (97, I_2, J, R)) rfl ?_
          refine az_E.ret (v := some (.int (-1 : Int32))) (σ' := (97, I_2, J, R)) rfl ?_
          show az_E az_F ex 121 68 17 [.ref 14, .retAddr 0] [.int (-1 : Int32)] (97, I_2, J, R) _
          refine az_E.sn 1 (pc' := 19) (L' := [.ref 14, .retAddr 0]) (S' := [.int (63 : Int32), .int (-1 : Int32)]) (σ' := (97, I_2, J, R)) rfl ?_
          refine az_E.br (c := (-1 : Int32) = (63 : Int32)) (tt := 22) (ff := 70) (L' := [.ref 14, .retAddr 0]) (S' := []) (σ' := (97, I_2, J, R)) rfl (fun hn => absurd hn (by decide)) (fun _ => ?_)
          exact az_E.forget (L := [.ref 14, .retAddr 0]) ⟨rfl, trivial, trivial⟩ (re_Ta_readLine_70_16 (I := I_2) (J := J) (R := R) hR_14_4 h hQ)
        · rw [if_neg hc_9] at h
          refine az_E.sn 4 (pc' := 26) (L' := [.ref 14]) (S' := [.int (I_2 14 2), .ref 15]) (σ' := (97, I_2, J, R)) rfl ?_
          by_cases hc_10 : (I_2 14 2) < 0 ∨ 120 ≤ (I_2 14 2).toNatClampNeg
          · rw [if_pos hc_10] at h; cases h
          · rw [if_neg hc_10] at h
            refine az_E.oi (o := az_ai az_F ex (97, I_2, J, R) 15 (I_2 14 2)) (pc' := 27) (L' := [.ref 14]) (S' := []) (σ' := (97, I_2, J, R)) (x := (I_2 15 (I_2 14 2).toNatClampNeg)) rfl (if_neg hc_10) ?_
            refine az_E.sn 1 (pc' := 31) (L' := [.ref 14]) (S' := [.int (I_2 15 (I_2 14 2).toNatClampNeg)]) (σ' := (97, I_2, J, R)) rfl ?_
            refine az_E.ret (v := some (.int (I_2 15 (I_2 14 2).toNatClampNeg))) (σ' := (97, I_2, J, R)) rfl ?_
            show az_E az_F ex 121 68 17 [.ref 14, .retAddr 0] [.int (I_2 15 (I_2 14 2).toNatClampNeg)] (97, I_2, J, R) _
            refine az_E.sn 1 (pc' := 19) (L' := [.ref 14, .retAddr 0]) (S' := [.int (63 : Int32), .int (I_2 15 (I_2 14 2).toNatClampNeg)]) (σ' := (97, I_2, J, R)) rfl ?_
            refine az_E.br (c := (I_2 15 (I_2 14 2).toNatClampNeg) = (63 : Int32)) (tt := 22) (ff := 70) (L' := [.ref 14, .retAddr 0]) (S' := []) (σ' := (97, I_2, J, R)) rfl (fun hc_11 => ?_) (fun hc_11 => ?_)
            · rw [if_pos hc_11] at h
              refine az_E.sn 7 (pc' := 33) (L' := [.ref 14, .retAddr 0]) (S' := [.ref 14]) (σ' := (97, (az_u I_2 14 2 ((I_2 14 2) + (1 : Int32))), J, R)) rfl ?_
              refine az_E.ov (pc' := 36) (L' := [.ref 14, .retAddr 0]) (S' := []) (σ' := (97, (az_u I_2 14 2 ((I_2 14 2) + (1 : Int32))), J, R)) (x := .ref 16) rfl (congrArg (fun z => some (va_rf z)) hR_14_4) ?_
              refine az_E.sn 2 (pc' := 39) (L' := [.ref 14, .retAddr 0]) (S' := [.int (0 : Int32), .int (63 : Int32), .ref 16]) (σ' := (97, (az_u I_2 14 2 ((I_2 14 2) + (1 : Int32))), J, R)) rfl ?_
              cases hx_14 : rs_La_add 16 (az_u I_2 14 2 ((I_2 14 2) + (1 : Int32))) (63 : Int32) (0 : Int32) with
              | none => rw [hx_14] at h; cases h
              | some o =>
                rw [hx_14] at h
                obtain ⟨x_12, I_13⟩ := o
                dsimp only at h
                refine az_E.call (d := 120) (k' := 28) (vs := [.ref 16, .int (63 : Int32), .int (0 : Int32)]) (pc' := 42) (S' := []) (Q1 := fun v s => v = some (.int x_12) ∧ s = (97, I_13, J, R)) rfl (az_E.deep (by omega) (re_La_add_16 (J := J) (R := R)  hx_14 ⟨rfl, rfl⟩)) (fun v s hq => ?_)
                obtain ⟨rfl, rfl⟩ := hq
                show az_E az_F ex 121 68 42 [.ref 14, .retAddr 0] [.int x_12] (97, I_13, J, R) _
                refine az_E.sn 4 (pc' := 46) (L' := [.ref 14, .int x_12]) (S' := [.int (0 : Int32), .int (0 : Int32), .ref 14]) (σ' := (97, I_13, J, R)) rfl ?_
                cases hx_17 : rs_G1 16 60 69 (0 : Int32) (0 : Int32) 0 0 I_13 with
                | none => rw [hx_17] at h; cases h
                | some o =>
                  rw [hx_17] at h
                  obtain ⟨x_15, I_16⟩ := o
                  dsimp only at h
                  refine az_E.call (d := 120) (k' := 69) (vs := [.ref 14, .int (0 : Int32), .int (0 : Int32)]) (pc' := 49) (S' := []) (Q1 := fun v s => v = none ∧ s = (97, I_16, J, R)) rfl (az_E.deep (by omega) (re_G1_69_16 (n := 60) _ _ _ _ _ _ hx_17 (J := J) (R := R) hR_14_4 ⟨rfl, rfl⟩)) (fun v s hq => ?_)
                  obtain ⟨rfl, rfl⟩ := hq
                  show az_E az_F ex 121 68 49 [.ref 14, .int x_12] [] (97, I_16, J, R) _
                  refine az_E.sn 1 (pc' := 50) (L' := [.ref 14, .int x_12]) (S' := [.ref 14]) (σ' := (97, I_16, J, R)) rfl ?_
                  refine az_E.ov (pc' := 53) (L' := [.ref 14, .int x_12]) (S' := []) (σ' := (97, I_16, J, R)) (x := .ref 16) rfl (congrArg (fun z => some (va_rf z)) hR_14_4) ?_
                  refine az_E.sn 2 (pc' := 55) (L' := [.ref 14, .int x_12]) (S' := [.ref 14, .int x_12, .ref 16]) (σ' := (97, I_16, J, R)) rfl ?_
                  refine az_E.ov (pc' := 58) (L' := [.ref 14, .int x_12]) (S' := [.int x_12, .ref 16]) (σ' := (97, I_16, J, R)) (x := .ref 16) rfl (congrArg (fun z => some (va_rf z)) hR_14_4) ?_
                  refine az_E.sn 2 (pc' := 61) (L' := [.ref 14, .int x_12]) (S' := [.int (0 : Int32), .int (59 : Int32), .ref 16, .int x_12, .ref 16]) (σ' := (97, I_16, J, R)) rfl ?_
                  cases hx_20 : rs_La_add 16 I_16 (59 : Int32) (0 : Int32) with
                  | none => rw [hx_20] at h; cases h
                  | some o =>
                    rw [hx_20] at h
                    obtain ⟨x_18, I_19⟩ := o
                    dsimp only at h
                    refine az_E.call (d := 120) (k' := 28) (vs := [.ref 16, .int (59 : Int32), .int (0 : Int32)]) (pc' := 64) (S' := [.int x_12, .ref 16]) (Q1 := fun v s => v = some (.int x_18) ∧ s = (97, I_19, J, R)) rfl (az_E.deep (by omega) (re_La_add_16 (J := J) (R := R)  hx_20 ⟨rfl, rfl⟩)) (fun v s hq => ?_)
                    obtain ⟨rfl, rfl⟩ := hq
                    show az_E az_F ex 121 68 64 [.ref 14, .int x_12] [.int x_18, .int x_12, .ref 16] (97, I_19, J, R) _
                    cases hx_22 : rs_La_join 16 I_19 x_12 x_18 with
                    | none => rw [hx_22] at h; cases h
                    | some I_21 =>
                      rw [hx_22] at h
                      dsimp only at h
                      refine az_E.call (d := 120) (k' := 29) (vs := [.ref 16, .int x_12, .int x_18]) (pc' := 67) (S' := []) (Q1 := fun v s => v = none ∧ s = (97, I_21, J, R)) rfl (az_E.deep (by omega) (re_La_join_16 (J := J) (R := R)  hx_22 ⟨rfl, rfl⟩)) (fun v s hq => ?_)
                      obtain ⟨rfl, rfl⟩ := hq
                      show az_E az_F ex 121 68 67 [.ref 14, .int x_12] [] (97, I_21, J, R) _
                      refine az_E.sn 1 (pc' := 81) (L' := [.ref 14, .int x_12]) (S' := []) (σ' := (97, I_21, J, R)) rfl ?_
                      have h := Option.some.inj h
                      subst h
                      exact az_E.ret (v := none) (σ' := (97, I_21, J, R)) rfl hQ
            · rw [if_neg hc_11] at h
              exact az_E.forget (L := [.ref 14, .retAddr 0]) ⟨rfl, trivial, trivial⟩ (re_Ta_readLine_70_16 (I := I_2) (J := J) (R := R) hR_14_4 h hQ)
set_option maxRecDepth 100000 in
set_option maxHeartbeats 4000000 in
theorem re_Ta_readInto_70_16 {ex : az_X} {I : Nat → Nat → Int32} {J : Nat → Nat → Int64} {R : Nat → Nat → Option Nat} {x : Int32 × (Nat → Nat → Int32)} (h : rs_Ta_readInto_70 16 I = some x) {Q : Option Value → az_S → Prop} (hQ : Q (some (.int x.1)) (97, x.2, J, (az_u R 14 4 (some 16)))) : az_E az_F ex 122 65 70 [.ref 14, .retAddr 0, .retAddr 0] [] (97, I, J, (az_u R 14 4 (some 16))) Q := by
  unfold rs_Ta_readInto_70 at h
  refine az_E.sn 4 (pc' := 78) (L' := [.ref 14, .retAddr 0, .retAddr 0]) (S' := [.int (I 14 1), .int (I 14 2)]) (σ' := (97, I, J, (az_u R 14 4 (some 16)))) rfl ?_
  refine az_E.br (c := (I 14 1) ≤ (I 14 2)) (tt := 85) (ff := 81) (L' := [.ref 14, .retAddr 0, .retAddr 0]) (S' := []) (σ' := (97, I, J, (az_u R 14 4 (some 16)))) rfl (fun hc_6 => ?_) (fun hc_6 => ?_)
  · rw [if_pos hc_6] at h
    refine az_E.sn 2 (pc' := 89) (L' := [.ref 14, .retAddr 0, .retAddr 0]) (S' := [.int (I 14 3)]) (σ' := (97, I, J, (az_u R 14 4 (some 16)))) rfl ?_
    have h := Option.some.inj h
    subst h
    exact az_E.ret (v := some (.int (I 14 3))) (σ' := (97, I, J, (az_u R 14 4 (some 16)))) rfl hQ
  · rw [if_neg hc_6] at h
    refine az_E.sn 1 (pc' := 82) (L' := [.ref 14, .retAddr 0, .retAddr 0]) (S' := [.ref 14]) (σ' := (97, I, J, (az_u R 14 4 (some 16)))) rfl ?_
    cases hx_8 : rs_Ta_fail I with
    | none => rw [hx_8] at h; cases h
    | some I_7 =>
      rw [hx_8] at h
      dsimp only at h
      refine az_E.call (d := 121) (k' := 67) (vs := [.ref 14]) (pc' := 85) (S' := []) (Q1 := fun v s => v = none ∧ s = (97, I_7, J, (az_u R 14 4 (some 16)))) rfl (az_E.deep (by omega) (re_Ta_fail (J := J) (R := (az_u R 14 4 (some 16)))  hx_8 ⟨rfl, rfl⟩)) (fun v s hq => ?_)
      obtain ⟨rfl, rfl⟩ := hq
      show az_E az_F ex 122 65 85 [.ref 14, .retAddr 0, .retAddr 0] [] (97, I_7, J, (az_u R 14 4 (some 16))) _
      refine az_E.sn 2 (pc' := 89) (L' := [.ref 14, .retAddr 0, .retAddr 0]) (S' := [.int (I_7 14 3)]) (σ' := (97, I_7, J, (az_u R 14 4 (some 16)))) rfl ?_
      have h := Option.some.inj h
      subst h
      exact az_E.ret (v := some (.int (I_7 14 3))) (σ' := (97, I_7, J, (az_u R 14 4 (some 16)))) rfl hQ
set_option maxRecDepth 100000 in
set_option maxHeartbeats 4000000 in
theorem re_Ta_readInto_28_b_16 {ex : az_X} {I : Nat → Nat → Int32} {J : Nat → Nat → Int64} {R : Nat → Nat → Option Nat} {v2 : Int32} {x : ((Int32 × (Nat → Nat → Int32)) ⊕ (Int32 × (Nat → Nat → Int32)))} (h : rs_Ta_readInto_28_b 16 v2 I = some x) {Q : Option Value → az_S → Prop} (hQ : Sum.elim (fun s => az_E az_F ex 122 65 28 [.ref 14, .retAddr 0, .int s.1] [] (97, s.2, J, (az_u R 14 4 (some 16))) Q) (fun x => Q (some (.int x.1)) (97, x.2, J, (az_u R 14 4 (some 16)))) x) : az_E az_F ex 122 65 28 [.ref 14, .retAddr 0, .int v2] [] (97, I, J, (az_u R 14 4 (some 16))) Q := by
  unfold rs_Ta_readInto_28_b at h
  refine az_E.sn 2 (pc' := 31) (L' := [.ref 14, .retAddr 0, .int v2]) (S' := [.int (120 : Int32), .int v2]) (σ' := (97, I, J, (az_u R 14 4 (some 16)))) rfl ?_
  refine az_E.br (c := (120 : Int32) ≤ v2) (tt := 70) (ff := 34) (L' := [.ref 14, .retAddr 0, .int v2]) (S' := []) (σ' := (97, I, J, (az_u R 14 4 (some 16)))) rfl (fun hc_5 => ?_) (fun hc_5 => ?_)
  · rw [if_pos hc_5] at h
    obtain ⟨x, hx, rfl⟩ := Option.map_eq_some_iff.mp h
    exact az_E.forget (L := [.ref 14, .retAddr 0, .retAddr 0]) ⟨rfl, trivial, trivial, trivial⟩ (re_Ta_readInto_70_16 (I := I) (J := J) (R := R)  hx hQ)
  · rw [if_neg hc_5] at h
    refine az_E.sn 2 (pc' := 38) (L' := [.ref 14, .retAddr 0, .int v2]) (S' := [.int (I 14 3)]) (σ' := (97, I, J, (az_u R 14 4 (some 16)))) rfl ?_
    refine az_E.br (c := 0 ≤ (I 14 3)) (tt := 70) (ff := 41) (L' := [.ref 14, .retAddr 0, .int v2]) (S' := []) (σ' := (97, I, J, (az_u R 14 4 (some 16)))) rfl (fun hc_9 => ?_) (fun hc_9 => ?_)
    · rw [if_pos hc_9] at h
      obtain ⟨x, hx, rfl⟩ := Option.map_eq_some_iff.mp h
      exact az_E.forget (L := [.ref 14, .retAddr 0, .retAddr 0]) ⟨rfl, trivial, trivial, trivial⟩ (re_Ta_readInto_70_16 (I := I) (J := J) (R := R)  hx hQ)
    · rw [if_neg hc_9] at h
      refine az_E.sn 1 (pc' := 42) (L' := [.ref 14, .retAddr 0, .int v2]) (S' := [.ref 14]) (σ' := (97, I, J, (az_u R 14 4 (some 16)))) rfl ?_
      refine az_E.call (d := 121) (k' := 66) (vs := [.ref 14]) (pc' := 45) (S' := []) rfl ?_ (fun _ _ hq => hq)
      show az_E az_F ex 121 66 0 [.ref 14] [] (97, I, J, (az_u R 14 4 (some 16))) _
      refine az_E.sn 2 (pc' := 4) (L' := [.ref 14]) (S' := [.int (I 14 2)]) (σ' := (97, I, J, (az_u R 14 4 (some 16)))) rfl ?_
      refine az_E.br (c := (I 14 2) < 0) (tt := 30) (ff := 7) (L' := [.ref 14]) (S' := []) (σ' := (97, I, J, (az_u R 14 4 (some 16)))) rfl (fun hc_10 => ?_) (fun hc_10 => ?_)
      · rw [if_pos hc_10] at h
        refine az_E.sn 1 (pc' := 31) (L' := [.ref 14]) (S' := [.int (-1 : Int32)]) (σ' := (97, I, J, (az_u R 14 4 (some 16)))) rfl ?_
        refine az_E.ret (v := some (.int (-1 : Int32))) (σ' := (97, I, J, (az_u R 14 4 (some 16)))) rfl ?_
        show az_E az_F ex 122 65 45 [.ref 14, .retAddr 0, .int v2] [.int (-1 : Int32)] (97, I, J, (az_u R 14 4 (some 16))) _
        refine az_E.sn 1 (pc' := 47) (L' := [.ref 14, .retAddr 0, .int v2]) (S' := [.int (59 : Int32), .int (-1 : Int32)]) (σ' := (97, I, J, (az_u R 14 4 (some 16)))) rfl ?_
        refine az_E.br (c := (-1 : Int32) = (59 : Int32)) (tt := 50) (ff := 70) (L' := [.ref 14, .retAddr 0, .int v2]) (S' := []) (σ' := (97, I, J, (az_u R 14 4 (some 16)))) rfl (fun hn => absurd hn (by decide)) (fun _ => ?_)
        obtain ⟨x, hx, rfl⟩ := Option.map_eq_some_iff.mp h
        exact az_E.forget (L := [.ref 14, .retAddr 0, .retAddr 0]) ⟨rfl, trivial, trivial, trivial⟩ (re_Ta_readInto_70_16 (I := I) (J := J) (R := R)  hx hQ)
      · rw [if_neg hc_10] at h
        refine az_E.sn 4 (pc' := 15) (L' := [.ref 14]) (S' := [.int (I 14 1), .int (I 14 2)]) (σ' := (97, I, J, (az_u R 14 4 (some 16)))) rfl ?_
        refine az_E.br (c := (I 14 1) ≤ (I 14 2)) (tt := 30) (ff := 18) (L' := [.ref 14]) (S' := []) (σ' := (97, I, J, (az_u R 14 4 (some 16)))) rfl (fun hc_11 => ?_) (fun hc_11 => ?_)
        · rw [if_pos hc_11] at h
          refine az_E.sn 1 (pc' := 31) (L' := [.ref 14]) (S' := [.int (-1 : Int32)]) (σ' := (97, I, J, (az_u R 14 4 (some 16)))) rfl ?_
          refine az_E.ret (v := some (.int (-1 : Int32))) (σ' := (97, I, J, (az_u R 14 4 (some 16)))) rfl ?_
          show az_E az_F ex 122 65 45 [.ref 14, .retAddr 0, .int v2] [.int (-1 : Int32)] (97, I, J, (az_u R 14 4 (some 16))) _
          refine az_E.sn 1 (pc' := 47) (L' := [.ref 14, .retAddr 0, .int v2]) (S' := [.int (59 : Int32), .int (-1 : Int32)]) (σ' := (97, I, J, (az_u R 14 4 (some 16)))) rfl ?_
          refine az_E.br (c := (-1 : Int32) = (59 : Int32)) (tt := 50) (ff := 70) (L' := [.ref 14, .retAddr 0, .int v2]) (S' := []) (σ' := (97, I, J, (az_u R 14 4 (some 16)))) rfl (fun hn => absurd hn (by decide)) (fun _ => ?_)
          obtain ⟨x, hx, rfl⟩ := Option.map_eq_some_iff.mp h
          exact az_E.forget (L := [.ref 14, .retAddr 0, .retAddr 0]) ⟨rfl, trivial, trivial, trivial⟩ (re_Ta_readInto_70_16 (I := I) (J := J) (R := R)  hx hQ)
        · rw [if_neg hc_11] at h
          refine az_E.sn 4 (pc' := 26) (L' := [.ref 14]) (S' := [.int (I 14 2), .ref 15]) (σ' := (97, I, J, (az_u R 14 4 (some 16)))) rfl ?_
          by_cases hc_12 : (I 14 2) < 0 ∨ 120 ≤ (I 14 2).toNatClampNeg
          · rw [if_pos hc_12] at h; cases h
          · rw [if_neg hc_12] at h
            refine az_E.oi (o := az_ai az_F ex (97, I, J, (az_u R 14 4 (some 16))) 15 (I 14 2)) (pc' := 27) (L' := [.ref 14]) (S' := []) (σ' := (97, I, J, (az_u R 14 4 (some 16)))) (x := (I 15 (I 14 2).toNatClampNeg)) rfl (if_neg hc_12) ?_
            refine az_E.sn 1 (pc' := 31) (L' := [.ref 14]) (S' := [.int (I 15 (I 14 2).toNatClampNeg)]) (σ' := (97, I, J, (az_u R 14 4 (some 16)))) rfl ?_
            refine az_E.ret (v := some (.int (I 15 (I 14 2).toNatClampNeg))) (σ' := (97, I, J, (az_u R 14 4 (some 16)))) rfl ?_
            show az_E az_F ex 122 65 45 [.ref 14, .retAddr 0, .int v2] [.int (I 15 (I 14 2).toNatClampNeg)] (97, I, J, (az_u R 14 4 (some 16))) _
            refine az_E.sn 1 (pc' := 47) (L' := [.ref 14, .retAddr 0, .int v2]) (S' := [.int (59 : Int32), .int (I 15 (I 14 2).toNatClampNeg)]) (σ' := (97, I, J, (az_u R 14 4 (some 16)))) rfl ?_
            refine az_E.br (c := (I 15 (I 14 2).toNatClampNeg) = (59 : Int32)) (tt := 50) (ff := 70) (L' := [.ref 14, .retAddr 0, .int v2]) (S' := []) (σ' := (97, I, J, (az_u R 14 4 (some 16)))) rfl (fun hc_13 => ?_) (fun hc_13 => ?_)
            · rw [if_pos hc_13] at h
              refine az_E.sn 7 (pc' := 61) (L' := [.ref 14, .retAddr 0, .int v2]) (S' := [.ref 14]) (σ' := (97, (az_u I 14 2 ((I 14 2) + (1 : Int32))), J, (az_u R 14 4 (some 16)))) rfl ?_
              cases hx_15 : rs_Ta_readLine 16 (az_u I 14 2 ((I 14 2) + (1 : Int32))) with
              | none => rw [hx_15] at h; cases h
              | some I_14 =>
                rw [hx_15] at h
                dsimp only at h
                refine az_E.call (d := 121) (k' := 68) (vs := [.ref 14]) (pc' := 64) (S' := []) (Q1 := fun v s => v = none ∧ s = (97, I_14, J, (az_u R 14 4 (some 16)))) rfl (az_E.deep (by omega) (re_Ta_readLine_16 (J := J) (R := (az_u R 14 4 (some 16))) rfl hx_15 ⟨rfl, rfl⟩)) (fun v s hq => ?_)
                obtain ⟨rfl, rfl⟩ := hq
                show az_E az_F ex 122 65 64 [.ref 14, .retAddr 0, .int v2] [] (97, I_14, J, (az_u R 14 4 (some 16))) _
                refine az_E.sn 2 (pc' := 28) (L' := [.ref 14, .retAddr 0, .int (v2 + (1 : Int32))]) (S' := []) (σ' := (97, I_14, J, (az_u R 14 4 (some 16)))) rfl ?_
                have h := Option.some.inj h
                subst h
                exact az_E.forget (L := [.ref 14, .retAddr 0, .int (v2 + (1 : Int32))]) ⟨rfl, trivial, rfl, trivial⟩ hQ
            · rw [if_neg hc_13] at h
              obtain ⟨x, hx, rfl⟩ := Option.map_eq_some_iff.mp h
              exact az_E.forget (L := [.ref 14, .retAddr 0, .retAddr 0]) ⟨rfl, trivial, trivial, trivial⟩ (re_Ta_readInto_70_16 (I := I) (J := J) (R := R)  hx hQ)
set_option maxRecDepth 100000 in
set_option maxHeartbeats 4000000 in
theorem re_Ta_readInto_28_16 {ex : az_X} {I : Nat → Nat → Int32} {J : Nat → Nat → Int64} {R : Nat → Nat → Option Nat} {v2 : Int32} {x : Int32 × (Nat → Nat → Int32)} (h : rs_Ta_readInto_28 16 I v2 = some x) {Q : Option Value → az_S → Prop} (hQ : Q (some (.int x.1)) (97, x.2, J, (az_u R 14 4 (some 16)))) : az_E az_F ex 122 65 28 [.ref 14, .retAddr 0, .int v2] [] (97, I, J, (az_u R 14 4 (some 16))) Q := by
  unfold rs_Ta_readInto_28 at h
  refine az_lp_E (G := fun s => az_E az_F ex 122 65 28 [.ref 14, .retAddr 0, .int s.1] [] (97, s.2, J, (az_u R 14 4 (some 16))) Q) (H := fun x => Q (some (.int x.1)) (97, x.2, J, (az_u R 14 4 (some 16)))) (fun s o hb ho => ?_) _ _ _ h hQ
  exact re_Ta_readInto_28_b_16  hb ho
set_option maxRecDepth 100000 in
set_option maxHeartbeats 4000000 in
theorem re_Ta_readInto_16 {ex : az_X} {I : Nat → Nat → Int32} {J : Nat → Nat → Int64} {R : Nat → Nat → Option Nat} {o : Int32 × (Nat → Nat → Int32)} (h : rs_Ta_readInto 16 I = some o) {Q : Option Value → az_S → Prop} (hQ : Q (some (.int o.1)) (97, o.2, J, (az_u R 14 4 (some 16)))) : az_E az_F ex 122 65 0 [.ref 14, .ref 16, .retAddr 0] [] (97, I, J, R) Q := by
  unfold rs_Ta_readInto at h
  refine az_E.sn 5 (pc' := 9) (L' := [.ref 14, .ref 16, .retAddr 0]) (S' := [.ref 16]) (σ' := (97, I, J, (az_u R 14 4 (some 16)))) rfl ?_
  cases hx_2 : rs_La_beginText 16 I with
  | none => rw [hx_2] at h; cases h
  | some I_1 =>
    rw [hx_2] at h
    dsimp only at h
    refine az_E.call (d := 121) (k' := 27) (vs := [.ref 16]) (pc' := 12) (S' := []) (Q1 := fun v s => v = none ∧ s = (97, I_1, J, (az_u R 14 4 (some 16)))) rfl (az_E.deep (by omega) (re_La_beginText_16 (J := J) (R := (az_u R 14 4 (some 16)))  hx_2 ⟨rfl, rfl⟩)) (fun v s hq => ?_)
    obtain ⟨rfl, rfl⟩ := hq
    show az_E az_F ex 122 65 12 [.ref 14, .ref 16, .retAddr 0] [] (97, I_1, J, (az_u R 14 4 (some 16))) _
    refine az_E.sn 7 (pc' := 23) (L' := [.ref 14, .ref 16, .retAddr 0]) (S' := [.ref 14]) (σ' := (97, (az_u (az_u I_1 14 2 (0 : Int32)) 14 3 (-1 : Int32)), J, (az_u R 14 4 (some 16)))) rfl ?_
    cases hx_4 : rs_Ta_readLine 16 (az_u (az_u I_1 14 2 (0 : Int32)) 14 3 (-1 : Int32)) with
    | none => rw [hx_4] at h; cases h
    | some I_3 =>
      rw [hx_4] at h
      dsimp only at h
      refine az_E.call (d := 121) (k' := 68) (vs := [.ref 14]) (pc' := 26) (S' := []) (Q1 := fun v s => v = none ∧ s = (97, I_3, J, (az_u R 14 4 (some 16)))) rfl (az_E.deep (by omega) (re_Ta_readLine_16 (J := J) (R := (az_u R 14 4 (some 16))) rfl hx_4 ⟨rfl, rfl⟩)) (fun v s hq => ?_)
      obtain ⟨rfl, rfl⟩ := hq
      show az_E az_F ex 122 65 26 [.ref 14, .ref 16, .retAddr 0] [] (97, I_3, J, (az_u R 14 4 (some 16))) _
      refine az_E.sn 2 (pc' := 28) (L' := [.ref 14, .ref 16, .int (0 : Int32)]) (S' := []) (σ' := (97, I_3, J, (az_u R 14 4 (some 16)))) rfl ?_
      exact az_E.forget (L := [.ref 14, .retAddr 0, .int (0 : Int32)]) ⟨rfl, trivial, rfl, trivial⟩ (re_Ta_readInto_28_16 (I := I_3) (J := J) (R := R)  h hQ)
set_option maxRecDepth 100000 in
set_option maxHeartbeats 4000000 in
theorem re_X_law_21_16 {ex : az_X} {I : Nat → Nat → Int32} {J : Nat → Nat → Int64} {R : Nat → Nat → Option Nat} (hR_3_2 : R 3 2 = some 21) (hR_3_3 : R 3 3 = some 16) {o : Int32 × (Nat → Nat → Int32) × Nat × Nat} (h : rs_X_law 16 21 I = some o) {Q : Option Value → az_S → Prop} (hQ : ∀ R' : Nat → Nat → Option Nat, R' 3 2 = some o.2.2.1 → R' 3 3 = some o.2.2.2 → Q (some (.int o.1)) (97, o.2.1, J, R')) : az_E az_F ex 123 90 0 [.ref 3, .retAddr 0, .retAddr 0] [] (97, I, J, R) Q := by
  unfold rs_X_law at h
  refine az_E.sn 3 (pc' := 5) (L' := [.ref 3, .retAddr 0, .retAddr 0]) (S' := [.ref 3, .ref 14]) (σ' := (97, I, J, R)) rfl ?_
  refine az_E.ov (pc' := 8) (L' := [.ref 3, .retAddr 0, .retAddr 0]) (S' := [.ref 14]) (σ' := (97, I, J, R)) (x := .ref 16) rfl (congrArg (fun z => some (va_rf z)) hR_3_3) ?_
  cases hx_3 : rs_Ta_readInto 16 I with
  | none => rw [hx_3] at h; cases h
  | some o =>
    rw [hx_3] at h
    obtain ⟨x_1, I_2⟩ := o
    dsimp only at h
    refine az_E.call (d := 122) (k' := 65) (vs := [.ref 14, .ref 16]) (pc' := 11) (S' := []) (Q1 := fun v s => v = some (.int x_1) ∧ s = (97, I_2, J, (az_u R 14 4 (some 16)))) rfl (az_E.deep (by omega) (re_Ta_readInto_16 (J := J) (R := R)  hx_3 ⟨rfl, rfl⟩)) (fun v s hq => ?_)
    obtain ⟨rfl, rfl⟩ := hq
    show az_E az_F ex 123 90 11 [.ref 3, .retAddr 0, .retAddr 0] [.int x_1] (97, I_2, J, (az_u R 14 4 (some 16))) _
    refine az_E.sn 6 (pc' := 21) (L' := [.ref 3, .int x_1, .retAddr 0]) (S' := [.int x_1]) (σ' := (97, (az_u I_2 14 1 (0 : Int32)), J, (az_u R 14 4 (some 16)))) rfl ?_
    refine az_E.br (c := x_1 < 0) (tt := 29) (ff := 24) (L' := [.ref 3, .int x_1, .retAddr 0]) (S' := []) (σ' := (97, (az_u I_2 14 1 (0 : Int32)), J, (az_u R 14 4 (some 16)))) rfl (fun hc_4 => ?_) (fun hc_4 => ?_)
    · rw [if_pos hc_4] at h
      refine az_E.sn 1 (pc' := 30) (L' := [.ref 3, .int x_1, .retAddr 0]) (S' := [.ref 3]) (σ' := (97, (az_u I_2 14 1 (0 : Int32)), J, (az_u R 14 4 (some 16)))) rfl ?_
      refine az_E.ov (pc' := 33) (L' := [.ref 3, .int x_1, .retAddr 0]) (S' := []) (σ' := (97, (az_u I_2 14 1 (0 : Int32)), J, (az_u R 14 4 (some 16)))) (x := .ref 21) rfl (congrArg (fun z => some (va_rf z)) hR_3_2) ?_
      refine az_E.sn 3 (pc' := 36) (L' := [.ref 3, .int x_1, .ref 21]) (S' := [.ref 3, .ref 3]) (σ' := (97, (az_u I_2 14 1 (0 : Int32)), J, (az_u R 14 4 (some 16)))) rfl ?_
      refine az_E.ov (pc' := 39) (L' := [.ref 3, .int x_1, .ref 21]) (S' := [.ref 3]) (σ' := (97, (az_u I_2 14 1 (0 : Int32)), J, (az_u R 14 4 (some 16)))) (x := .ref 16) rfl (congrArg (fun z => some (va_rf z)) hR_3_3) ?_
      refine az_E.sn 5 (pc' := 48) (L' := [.ref 3, .int x_1, .ref 21]) (S' := [.int (1 : Int32)]) (σ' := (97, (az_u I_2 14 1 (0 : Int32)), J, (az_u (az_u (az_u R 14 4 (some 16)) 3 2 (some 16)) 3 3 (some 21)))) rfl ?_
      have h := Option.some.inj h
      subst h
      exact az_E.ret (v := some (.int (1 : Int32))) (σ' := (97, (az_u I_2 14 1 (0 : Int32)), J, (az_u (az_u (az_u R 14 4 (some 16)) 3 2 (some 16)) 3 3 (some 21)))) rfl (hQ _ rfl rfl)
    · rw [if_neg hc_4] at h
      refine az_E.sn 3 (pc' := 28) (L' := [.ref 3, .int x_1, .retAddr 0]) (S' := [.int ((-100 : Int32) - x_1)]) (σ' := (97, (az_u I_2 14 1 (0 : Int32)), J, (az_u R 14 4 (some 16)))) rfl ?_
      have h := Option.some.inj h
      subst h
      exact az_E.ret (v := some (.int ((-100 : Int32) - x_1))) (σ' := (97, (az_u I_2 14 1 (0 : Int32)), J, (az_u R 14 4 (some 16)))) rfl (hQ _ hR_3_2 hR_3_3)
set_option maxRecDepth 100000 in
set_option maxHeartbeats 4000000 in
theorem re_La_work_69_21 {ex : az_X} {I : Nat → Nat → Int32} {J : Nat → Nat → Int64} {R : Nat → Nat → Option Nat} {v1 : Int32} {v2 : Int32} {s0 : Int32} {s1 : Int32} {x : ((Int32 × Int32 × (Nat → Nat → Int32)) ⊕ (Int32 × (Nat → Nat → Int32)))} (h : rs_La_work_69 21 I v1 v2 s0 s1 = some x) {Q : Option Value → az_S → Prop} (hQ : Sum.elim (fun s => az_E az_F ex 1 31 4 [.ref 21, .int s.1, .int s.2.1, .retAddr 0, .retAddr 0] [] (97, s.2.2, J, R) Q) (fun x => Q (some (.int x.1)) (97, x.2, J, R)) x) : az_E az_F ex 1 31 69 [.ref 21, .int v1, .int v2, .retAddr 0, .retAddr 0] [.int s0, .int s1, .ref (21 + 4)] (97, I, J, R) Q := by
  unfold rs_La_work_69 at h
  by_cases hc_7 : s1 < 0 ∨ 64 ≤ s1.toNatClampNeg
  · rw [if_pos hc_7] at h; cases h
  · rw [if_neg hc_7] at h
    refine az_E.o (o := az_si az_F (97, I, J, R) (21 + 4) s1 s0) (pc' := 70) (L' := [.ref 21, .int v1, .int v2, .retAddr 0, .retAddr 0]) (S' := []) (x := (97, (az_u I (21 + 4) s1.toNatClampNeg s0), J, R)) rfl (if_neg hc_7) ?_
    refine az_E.sn 4 (pc' := 4) (L' := [.ref 21, .int (v1 + (1 : Int32)), .int (v2 + (1 : Int32)), .retAddr 0, .retAddr 0]) (S' := []) (σ' := (97, (az_u I (21 + 4) s1.toNatClampNeg s0), J, R)) rfl ?_
    have h := Option.some.inj h
    subst h
    exact az_E.forget (L := [.ref 21, .int (v1 + (1 : Int32)), .int (v2 + (1 : Int32)), .retAddr 0, .retAddr 0]) ⟨rfl, rfl, rfl, trivial, trivial, trivial⟩ hQ
set_option maxRecDepth 100000 in
set_option maxHeartbeats 4000000 in
theorem re_La_work_31_21 {ex : az_X} {I : Nat → Nat → Int32} {J : Nat → Nat → Int64} {R : Nat → Nat → Option Nat} {v1 : Int32} {v2 : Int32} {v3 : Int32} {x : ((Int32 × Int32 × (Nat → Nat → Int32)) ⊕ (Int32 × (Nat → Nat → Int32)))} (h : rs_La_work_31 21 I v1 v2 v3 = some x) {Q : Option Value → az_S → Prop} (hQ : Sum.elim (fun s => az_E az_F ex 1 31 4 [.ref 21, .int s.1, .int s.2.1, .retAddr 0, .retAddr 0] [] (97, s.2.2, J, R) Q) (fun x => Q (some (.int x.1)) (97, x.2, J, R)) x) : az_E az_F ex 1 31 31 [.ref 21, .int v1, .int v2, .int v3, .retAddr 0] [] (97, I, J, R) Q := by
  unfold rs_La_work_31 at h
  refine az_E.sn 2 (pc' := 34) (L' := [.ref 21, .int v1, .int v2, .int v3, .retAddr 0]) (S' := [.int (64 : Int32), .int v1]) (σ' := (97, I, J, R)) rfl ?_
  refine az_E.br (c := v1 < (64 : Int32)) (tt := 39) (ff := 37) (L' := [.ref 21, .int v1, .int v2, .int v3, .retAddr 0]) (S' := []) (σ' := (97, I, J, R)) rfl (fun hc_4 => ?_) (fun hc_4 => ?_)
  · rw [if_pos hc_4] at h
    refine az_E.sn 5 (pc' := 47) (L' := [.ref 21, .int v1, .int v2, .int v3, .retAddr 0]) (S' := [.int (35 : Int32), .int v3, .int v1, .ref (21 + 4)]) (σ' := (97, I, J, R)) rfl ?_
    refine az_E.br (c := v3 = (35 : Int32)) (tt := 50) (ff := 59) (L' := [.ref 21, .int v1, .int v2, .int v3, .retAddr 0]) (S' := [.int v1, .ref (21 + 4)]) (σ' := (97, I, J, R)) rfl (fun hc_5 => ?_) (fun hc_5 => ?_)
    · rw [if_pos hc_5] at h
      refine az_E.sn 3 (pc' := 55) (L' := [.ref 21, .int v1, .int v2, .int v3, .retAddr 0]) (S' := [.int v2, .ref (21 + 2), .int v1, .ref (21 + 4)]) (σ' := (97, I, J, R)) rfl ?_
      by_cases hc_6 : v2 < 0 ∨ 121 ≤ v2.toNatClampNeg
      · rw [if_pos hc_6] at h; cases h
      · rw [if_neg hc_6] at h
        refine az_E.oi (o := az_ai az_F ex (97, I, J, R) (21 + 2) v2) (pc' := 56) (L' := [.ref 21, .int v1, .int v2, .int v3, .retAddr 0]) (S' := [.int v1, .ref (21 + 4)]) (σ' := (97, I, J, R)) (x := (I (21 + 2) v2.toNatClampNeg)) rfl (if_neg hc_6) ?_
        refine az_E.sn 1 (pc' := 69) (L' := [.ref 21, .int v1, .int v2, .int v3, .retAddr 0]) (S' := [.int (I (21 + 2) v2.toNatClampNeg), .int v1, .ref (21 + 4)]) (σ' := (97, I, J, R)) rfl ?_
        exact az_E.forget (L := [.ref 21, .int v1, .int v2, .retAddr 0, .retAddr 0]) ⟨rfl, rfl, rfl, trivial, trivial, trivial⟩ (re_La_work_69_21 (I := I) (J := J) (R := R)  h hQ)
    · rw [if_neg hc_5] at h
      refine az_E.sn 4 (pc' := 65) (L' := [.ref 21, .int v1, .int v2, .int v3, .retAddr 0]) (S' := [.int v2, .ref (21 + 2), .ref 21, .int v1, .ref (21 + 4)]) (σ' := (97, I, J, R)) rfl ?_
      by_cases hc_8 : v2 < 0 ∨ 121 ≤ v2.toNatClampNeg
      · rw [if_pos hc_8] at h; cases h
      · rw [if_neg hc_8] at h
        refine az_E.oi (o := az_ai az_F ex (97, I, J, R) (21 + 2) v2) (pc' := 66) (L' := [.ref 21, .int v1, .int v2, .int v3, .retAddr 0]) (S' := [.ref 21, .int v1, .ref (21 + 4)]) (σ' := (97, I, J, R)) (x := (I (21 + 2) v2.toNatClampNeg)) rfl (if_neg hc_8) ?_
        refine az_E.call (d := 0) (k' := 32) (vs := [.ref 21, .int (I (21 + 2) v2.toNatClampNeg)]) (pc' := 69) (S' := [.int v1, .ref (21 + 4)]) rfl ?_ (fun _ _ hq => hq)
        show az_E az_F ex 0 32 0 [.ref 21, .int (I (21 + 2) v2.toNatClampNeg)] [] (97, I, J, R) _
        refine az_E.sn 1 (pc' := 1) (L' := [.ref 21, .int (I (21 + 2) v2.toNatClampNeg)]) (S' := [.int (I (21 + 2) v2.toNatClampNeg)]) (σ' := (97, I, J, R)) rfl ?_
        refine az_E.br (c := (I (21 + 2) v2.toNatClampNeg) < 0) (tt := 19) (ff := 4) (L' := [.ref 21, .int (I (21 + 2) v2.toNatClampNeg)]) (S' := []) (σ' := (97, I, J, R)) rfl (fun hc_9 => ?_) (fun hc_9 => ?_)
        · rw [if_pos hc_9] at h
          refine az_E.sn 1 (pc' := 20) (L' := [.ref 21, .int (I (21 + 2) v2.toNatClampNeg)]) (S' := [.int (0 : Int32)]) (σ' := (97, I, J, R)) rfl ?_
          refine az_E.ret (v := some (.int (0 : Int32))) (σ' := (97, I, J, R)) rfl ?_
          show az_E az_F ex 1 31 69 [.ref 21, .int v1, .int v2, .int v3, .retAddr 0] [.int (0 : Int32), .int v1, .ref (21 + 4)] (97, I, J, R) _
          exact az_E.forget (L := [.ref 21, .int v1, .int v2, .retAddr 0, .retAddr 0]) ⟨rfl, rfl, rfl, trivial, trivial, trivial⟩ (re_La_work_69_21 (I := I) (J := J) (R := R)  h hQ)
        · rw [if_neg hc_9] at h
          refine az_E.sn 2 (pc' := 7) (L' := [.ref 21, .int (I (21 + 2) v2.toNatClampNeg)]) (S' := [.int (6 : Int32), .int (I (21 + 2) v2.toNatClampNeg)]) (σ' := (97, I, J, R)) rfl ?_
          refine az_E.br (c := (6 : Int32) ≤ (I (21 + 2) v2.toNatClampNeg)) (tt := 19) (ff := 10) (L' := [.ref 21, .int (I (21 + 2) v2.toNatClampNeg)]) (S' := []) (σ' := (97, I, J, R)) rfl (fun hc_10 => ?_) (fun hc_10 => ?_)
          · rw [if_pos hc_10] at h
            refine az_E.sn 1 (pc' := 20) (L' := [.ref 21, .int (I (21 + 2) v2.toNatClampNeg)]) (S' := [.int (0 : Int32)]) (σ' := (97, I, J, R)) rfl ?_
            refine az_E.ret (v := some (.int (0 : Int32))) (σ' := (97, I, J, R)) rfl ?_
            show az_E az_F ex 1 31 69 [.ref 21, .int v1, .int v2, .int v3, .retAddr 0] [.int (0 : Int32), .int v1, .ref (21 + 4)] (97, I, J, R) _
            exact az_E.forget (L := [.ref 21, .int v1, .int v2, .retAddr 0, .retAddr 0]) ⟨rfl, rfl, rfl, trivial, trivial, trivial⟩ (re_La_work_69_21 (I := I) (J := J) (R := R)  h hQ)
          · rw [if_neg hc_10] at h
            refine az_E.sn 3 (pc' := 15) (L' := [.ref 21, .int (I (21 + 2) v2.toNatClampNeg)]) (S' := [.int (I (21 + 2) v2.toNatClampNeg), .ref (21 + 3)]) (σ' := (97, I, J, R)) rfl ?_
            by_cases hc_11 : (I (21 + 2) v2.toNatClampNeg) < 0 ∨ 6 ≤ (I (21 + 2) v2.toNatClampNeg).toNatClampNeg
            · rw [if_pos hc_11] at h; cases h
            · rw [if_neg hc_11] at h
              refine az_E.oi (o := az_ai az_F ex (97, I, J, R) (21 + 3) (I (21 + 2) v2.toNatClampNeg)) (pc' := 16) (L' := [.ref 21, .int (I (21 + 2) v2.toNatClampNeg)]) (S' := []) (σ' := (97, I, J, R)) (x := (I (21 + 3) (I (21 + 2) v2.toNatClampNeg).toNatClampNeg)) rfl (if_neg hc_11) ?_
              refine az_E.sn 1 (pc' := 20) (L' := [.ref 21, .int (I (21 + 2) v2.toNatClampNeg)]) (S' := [.int (I (21 + 3) (I (21 + 2) v2.toNatClampNeg).toNatClampNeg)]) (σ' := (97, I, J, R)) rfl ?_
              refine az_E.ret (v := some (.int (I (21 + 3) (I (21 + 2) v2.toNatClampNeg).toNatClampNeg))) (σ' := (97, I, J, R)) rfl ?_
              show az_E az_F ex 1 31 69 [.ref 21, .int v1, .int v2, .int v3, .retAddr 0] [.int (I (21 + 3) (I (21 + 2) v2.toNatClampNeg).toNatClampNeg), .int v1, .ref (21 + 4)] (97, I, J, R) _
              exact az_E.forget (L := [.ref 21, .int v1, .int v2, .retAddr 0, .retAddr 0]) ⟨rfl, rfl, rfl, trivial, trivial, trivial⟩ (re_La_work_69_21 (I := I) (J := J) (R := R)  h hQ)
  · rw [if_neg hc_4] at h
    refine az_E.sn 1 (pc' := 38) (L' := [.ref 21, .int v1, .int v2, .int v3, .retAddr 0]) (S' := [.int (0 : Int32)]) (σ' := (97, I, J, R)) rfl ?_
    have h := Option.some.inj h
    subst h
    exact az_E.ret (v := some (.int (0 : Int32))) (σ' := (97, I, J, R)) rfl hQ
set_option maxRecDepth 100000 in
set_option maxHeartbeats 4000000 in
theorem re_La_work_176_21 {ex : az_X} {I : Nat → Nat → Int32} {J : Nat → Nat → Int64} {R : Nat → Nat → Option Nat} {v1 : Int32} {v2 : Int32} {s0 : Int32} {s1 : Int32} {x : ((Int32 × Int32 × (Nat → Nat → Int32)) ⊕ (Int32 × (Nat → Nat → Int32)))} (h : rs_La_work_176 21 I v1 v2 s0 s1 = some x) {Q : Option Value → az_S → Prop} (hQ : Sum.elim (fun s => az_E az_F ex 1 31 4 [.ref 21, .int s.1, .int s.2.1, .retAddr 0, .retAddr 0] [] (97, s.2.2, J, R) Q) (fun x => Q (some (.int x.1)) (97, x.2, J, R)) x) : az_E az_F ex 1 31 176 [.ref 21, .int v1, .int v2, .retAddr 0, .retAddr 0] [.int s0, .int s1, .ref (21 + 4)] (97, I, J, R) Q := by
  unfold rs_La_work_176 at h
  by_cases hc_23 : s1 < 0 ∨ 64 ≤ s1.toNatClampNeg
  · rw [if_pos hc_23] at h; cases h
  · rw [if_neg hc_23] at h
    refine az_E.o (o := az_si az_F (97, I, J, R) (21 + 4) s1 s0) (pc' := 177) (L' := [.ref 21, .int v1, .int v2, .retAddr 0, .retAddr 0]) (S' := []) (x := (97, (az_u I (21 + 4) s1.toNatClampNeg s0), J, R)) rfl (if_neg hc_23) ?_
    refine az_E.sn 3 (pc' := 4) (L' := [.ref 21, .int v1, .int (v2 + (1 : Int32)), .retAddr 0, .retAddr 0]) (S' := []) (σ' := (97, (az_u I (21 + 4) s1.toNatClampNeg s0), J, R)) rfl ?_
    have h := Option.some.inj h
    subst h
    exact az_E.forget (L := [.ref 21, .int v1, .int (v2 + (1 : Int32)), .retAddr 0, .retAddr 0]) ⟨rfl, rfl, rfl, trivial, trivial, trivial⟩ hQ
set_option maxRecDepth 100000 in
set_option maxHeartbeats 4000000 in
theorem re_La_work_4_b_21 {ex : az_X} {I : Nat → Nat → Int32} {J : Nat → Nat → Int64} {R : Nat → Nat → Option Nat} {v1 : Int32} {v2 : Int32} {x : ((Int32 × Int32 × (Nat → Nat → Int32)) ⊕ (Int32 × (Nat → Nat → Int32)))} (h : rs_La_work_4_b 21 v1 v2 I = some x) {Q : Option Value → az_S → Prop} (hQ : Sum.elim (fun s => az_E az_F ex 1 31 4 [.ref 21, .int s.1, .int s.2.1, .retAddr 0, .retAddr 0] [] (97, s.2.2, J, R) Q) (fun x => Q (some (.int x.1)) (97, x.2, J, R)) x) : az_E az_F ex 1 31 4 [.ref 21, .int v1, .int v2, .retAddr 0, .retAddr 0] [] (97, I, J, R) Q := by
  unfold rs_La_work_4_b at h
  refine az_E.sn 3 (pc' := 9) (L' := [.ref 21, .int v1, .int v2, .retAddr 0, .retAddr 0]) (S' := [.int (I 21 4), .int v2]) (σ' := (97, I, J, R)) rfl ?_
  refine az_E.br (c := (I 21 4) ≤ v2) (tt := 216) (ff := 12) (L' := [.ref 21, .int v1, .int v2, .retAddr 0, .retAddr 0]) (S' := []) (σ' := (97, I, J, R)) rfl (fun hc_1 => ?_) (fun hc_1 => ?_)
  · rw [if_pos hc_1] at h
    refine az_E.sn 1 (pc' := 217) (L' := [.ref 21, .int v1, .int v2, .retAddr 0, .retAddr 0]) (S' := [.int (0 : Int32)]) (σ' := (97, I, J, R)) rfl ?_
    have h := Option.some.inj h
    subst h
    exact az_E.ret (v := some (.int (0 : Int32))) (σ' := (97, I, J, R)) rfl hQ
  · rw [if_neg hc_1] at h
    refine az_E.sn 3 (pc' := 17) (L' := [.ref 21, .int v1, .int v2, .retAddr 0, .retAddr 0]) (S' := [.int v2, .ref (21 + 1)]) (σ' := (97, I, J, R)) rfl ?_
    by_cases hc_2 : v2 < 0 ∨ 121 ≤ v2.toNatClampNeg
    · rw [if_pos hc_2] at h; cases h
    · rw [if_neg hc_2] at h
      refine az_E.oi (o := az_ai az_F ex (97, I, J, R) (21 + 1) v2) (pc' := 18) (L' := [.ref 21, .int v1, .int v2, .retAddr 0, .retAddr 0]) (S' := []) (σ' := (97, I, J, R)) (x := (I (21 + 1) v2.toNatClampNeg)) rfl (if_neg hc_2) ?_
      refine az_E.sn 3 (pc' := 22) (L' := [.ref 21, .int v1, .int v2, .int (I (21 + 1) v2.toNatClampNeg), .retAddr 0]) (S' := [.int (35 : Int32), .int (I (21 + 1) v2.toNatClampNeg)]) (σ' := (97, I, J, R)) rfl ?_
      refine az_E.br (c := (I (21 + 1) v2.toNatClampNeg) = (35 : Int32)) (tt := 31) (ff := 25) (L' := [.ref 21, .int v1, .int v2, .int (I (21 + 1) v2.toNatClampNeg), .retAddr 0]) (S' := []) (σ' := (97, I, J, R)) rfl (fun hc_3 => ?_) (fun hc_3 => ?_)
      · rw [if_pos hc_3] at h
        exact az_E.forget (L := [.ref 21, .int v1, .int v2, .int (I (21 + 1) v2.toNatClampNeg), .retAddr 0]) ⟨rfl, rfl, rfl, rfl, trivial, trivial⟩ (re_La_work_31_21 (I := I) (J := J) (R := R)  h hQ)
      · rw [if_neg hc_3] at h
        refine az_E.sn 2 (pc' := 28) (L' := [.ref 21, .int v1, .int v2, .int (I (21 + 1) v2.toNatClampNeg), .retAddr 0]) (S' := [.int (110 : Int32), .int (I (21 + 1) v2.toNatClampNeg)]) (σ' := (97, I, J, R)) rfl ?_
        refine az_E.br (c := (I (21 + 1) v2.toNatClampNeg) = (110 : Int32)) (tt := 31) (ff := 76) (L' := [.ref 21, .int v1, .int v2, .int (I (21 + 1) v2.toNatClampNeg), .retAddr 0]) (S' := []) (σ' := (97, I, J, R)) rfl (fun hc_12 => ?_) (fun hc_12 => ?_)
        · rw [if_pos hc_12] at h
          exact az_E.forget (L := [.ref 21, .int v1, .int v2, .int (I (21 + 1) v2.toNatClampNeg), .retAddr 0]) ⟨rfl, rfl, rfl, rfl, trivial, trivial⟩ (re_La_work_31_21 (I := I) (J := J) (R := R)  h hQ)
        · rw [if_neg hc_12] at h
          refine az_E.sn 1 (pc' := 77) (L' := [.ref 21, .int v1, .int v2, .int (I (21 + 1) v2.toNatClampNeg), .retAddr 0]) (S' := [.int v1]) (σ' := (97, I, J, R)) rfl ?_
          refine az_E.br (c := 0 < v1) (tt := 82) (ff := 80) (L' := [.ref 21, .int v1, .int v2, .int (I (21 + 1) v2.toNatClampNeg), .retAddr 0]) (S' := []) (σ' := (97, I, J, R)) rfl (fun hc_13 => ?_) (fun hc_13 => ?_)
          · rw [if_pos hc_13] at h
            refine az_E.sn 5 (pc' := 89) (L' := [.ref 21, .int v1, .int v2, .int (I (21 + 1) v2.toNatClampNeg), .retAddr 0]) (S' := [.int (v1 - (1 : Int32)), .ref (21 + 4)]) (σ' := (97, I, J, R)) rfl ?_
            by_cases hc_14 : (v1 - (1 : Int32)) < 0 ∨ 64 ≤ (v1 - (1 : Int32)).toNatClampNeg
            · rw [if_pos hc_14] at h; cases h
            · rw [if_neg hc_14] at h
              refine az_E.oi (o := az_ai az_F ex (97, I, J, R) (21 + 4) (v1 - (1 : Int32))) (pc' := 90) (L' := [.ref 21, .int v1, .int v2, .int (I (21 + 1) v2.toNatClampNeg), .retAddr 0]) (S' := []) (σ' := (97, I, J, R)) (x := (I (21 + 4) (v1 - (1 : Int32)).toNatClampNeg)) rfl (if_neg hc_14) ?_
              refine az_E.sn 3 (pc' := 95) (L' := [.ref 21, .int v1, .int v2, .int (I (21 + 1) v2.toNatClampNeg), .int (I (21 + 4) (v1 - (1 : Int32)).toNatClampNeg)]) (S' := [.int (59 : Int32), .int (I (21 + 1) v2.toNatClampNeg)]) (σ' := (97, I, J, R)) rfl ?_
              refine az_E.br (c := (I (21 + 1) v2.toNatClampNeg) = (59 : Int32)) (tt := 98) (ff := 101) (L' := [.ref 21, .int v1, .int v2, .int (I (21 + 1) v2.toNatClampNeg), .int (I (21 + 4) (v1 - (1 : Int32)).toNatClampNeg)]) (S' := []) (σ' := (97, I, J, R)) rfl (fun hc_15 => ?_) (fun hc_15 => ?_)
              · rw [if_pos hc_15] at h
                refine az_E.sn 1 (pc' := 100) (L' := [.ref 21, .int v1, .int v2, .int (I (21 + 1) v2.toNatClampNeg), .int (I (21 + 4) (v1 - (1 : Int32)).toNatClampNeg)]) (S' := [.int (I (21 + 4) (v1 - (1 : Int32)).toNatClampNeg)]) (σ' := (97, I, J, R)) rfl ?_
                have h := Option.some.inj h
                subst h
                exact az_E.ret (v := some (.int (I (21 + 4) (v1 - (1 : Int32)).toNatClampNeg))) (σ' := (97, I, J, R)) rfl hQ
              · rw [if_neg hc_15] at h
                refine az_E.sn 2 (pc' := 104) (L' := [.ref 21, .int v1, .int v2, .int (I (21 + 1) v2.toNatClampNeg), .int (I (21 + 4) (v1 - (1 : Int32)).toNatClampNeg)]) (S' := [.int (63 : Int32), .int (I (21 + 1) v2.toNatClampNeg)]) (σ' := (97, I, J, R)) rfl ?_
                refine az_E.br (c := (I (21 + 1) v2.toNatClampNeg) = (63 : Int32)) (tt := 107) (ff := 133) (L' := [.ref 21, .int v1, .int v2, .int (I (21 + 1) v2.toNatClampNeg), .int (I (21 + 4) (v1 - (1 : Int32)).toNatClampNeg)]) (S' := []) (σ' := (97, I, J, R)) rfl (fun hc_16 => ?_) (fun hc_16 => ?_)
                · rw [if_pos hc_16] at h
                  refine az_E.sn 2 (pc' := 112) (L' := [.ref 21, .int (v1 + (-1 : Int32)), .int v2, .int (I (21 + 1) v2.toNatClampNeg), .int (I (21 + 4) (v1 - (1 : Int32)).toNatClampNeg)]) (S' := [.int (I (21 + 4) (v1 - (1 : Int32)).toNatClampNeg)]) (σ' := (97, I, J, R)) rfl ?_
                  refine az_E.br (c := (I (21 + 4) (v1 - (1 : Int32)).toNatClampNeg) = 0) (tt := 115) (ff := 128) (L' := [.ref 21, .int (v1 + (-1 : Int32)), .int v2, .int (I (21 + 1) v2.toNatClampNeg), .int (I (21 + 4) (v1 - (1 : Int32)).toNatClampNeg)]) (S' := []) (σ' := (97, I, J, R)) rfl (fun hc_17 => ?_) (fun hc_17 => ?_)
                  · rw [if_pos hc_17] at h
                    refine az_E.sn 4 (pc' := 121) (L' := [.ref 21, .int (v1 + (-1 : Int32)), .int v2, .int (I (21 + 1) v2.toNatClampNeg), .int (I (21 + 4) (v1 - (1 : Int32)).toNatClampNeg)]) (S' := [.int v2, .ref (21 + 2), .int v2]) (σ' := (97, I, J, R)) rfl ?_
                    by_cases hc_18 : v2 < 0 ∨ 121 ≤ v2.toNatClampNeg
                    · rw [if_pos hc_18] at h; cases h
                    · rw [if_neg hc_18] at h
                      refine az_E.oi (o := az_ai az_F ex (97, I, J, R) (21 + 2) v2) (pc' := 122) (L' := [.ref 21, .int (v1 + (-1 : Int32)), .int v2, .int (I (21 + 1) v2.toNatClampNeg), .int (I (21 + 4) (v1 - (1 : Int32)).toNatClampNeg)]) (S' := [.int v2]) (σ' := (97, I, J, R)) (x := (I (21 + 2) v2.toNatClampNeg)) rfl (if_neg hc_18) ?_
                      refine az_E.sn 6 (pc' := 4) (L' := [.ref 21, .int (v1 + (-1 : Int32)), .int ((if v2 < (I (21 + 2) v2.toNatClampNeg) then (I (21 + 2) v2.toNatClampNeg) else v2) + (1 : Int32)), .int (I (21 + 1) v2.toNatClampNeg), .int (I (21 + 4) (v1 - (1 : Int32)).toNatClampNeg)]) (S' := []) (σ' := (97, I, J, R)) rfl ?_
                      have h := Option.some.inj h
                      subst h
                      exact az_E.forget (L := [.ref 21, .int (v1 + (-1 : Int32)), .int ((if v2 < (I (21 + 2) v2.toNatClampNeg) then (I (21 + 2) v2.toNatClampNeg) else v2) + (1 : Int32)), .retAddr 0, .retAddr 0]) ⟨rfl, rfl, rfl, trivial, trivial, trivial⟩ hQ
                  · rw [if_neg hc_17] at h
                    refine az_E.sn 5 (pc' := 4) (L' := [.ref 21, .int (v1 + (-1 : Int32)), .int (v2 + (1 : Int32)), .int (I (21 + 1) v2.toNatClampNeg), .int (I (21 + 4) (v1 - (1 : Int32)).toNatClampNeg)]) (S' := []) (σ' := (97, I, J, R)) rfl ?_
                    have h := Option.some.inj h
                    subst h
                    exact az_E.forget (L := [.ref 21, .int (v1 + (-1 : Int32)), .int (v2 + (1 : Int32)), .retAddr 0, .retAddr 0]) ⟨rfl, rfl, rfl, trivial, trivial, trivial⟩ hQ
                · rw [if_neg hc_16] at h
                  refine az_E.sn 2 (pc' := 136) (L' := [.ref 21, .int v1, .int v2, .int (I (21 + 1) v2.toNatClampNeg), .int (I (21 + 4) (v1 - (1 : Int32)).toNatClampNeg)]) (S' := [.int (126 : Int32), .int (I (21 + 1) v2.toNatClampNeg)]) (σ' := (97, I, J, R)) rfl ?_
                  refine az_E.br (c := (I (21 + 1) v2.toNatClampNeg) = (126 : Int32)) (tt := 139) (ff := 153) (L' := [.ref 21, .int v1, .int v2, .int (I (21 + 1) v2.toNatClampNeg), .int (I (21 + 4) (v1 - (1 : Int32)).toNatClampNeg)]) (S' := []) (σ' := (97, I, J, R)) rfl (fun hc_19 => ?_) (fun hc_19 => ?_)
                  · rw [if_pos hc_19] at h
                    refine az_E.sn 7 (pc' := 149) (L' := [.ref 21, .int v1, .int v2, .int (I (21 + 1) v2.toNatClampNeg), .int (I (21 + 4) (v1 - (1 : Int32)).toNatClampNeg)]) (S' := [.int (-(I (21 + 4) (v1 - (1 : Int32)).toNatClampNeg)), .int (v1 - (1 : Int32)), .ref (21 + 4)]) (σ' := (97, I, J, R)) rfl ?_
                    by_cases hc_20 : (v1 - (1 : Int32)) < 0 ∨ 64 ≤ (v1 - (1 : Int32)).toNatClampNeg
                    · rw [if_pos hc_20] at h; cases h
                    · rw [if_neg hc_20] at h
                      refine az_E.o (o := az_si az_F (97, I, J, R) (21 + 4) (v1 - (1 : Int32)) (-(I (21 + 4) (v1 - (1 : Int32)).toNatClampNeg))) (pc' := 150) (L' := [.ref 21, .int v1, .int v2, .int (I (21 + 1) v2.toNatClampNeg), .int (I (21 + 4) (v1 - (1 : Int32)).toNatClampNeg)]) (S' := []) (x := (97, (az_u I (21 + 4) (v1 - (1 : Int32)).toNatClampNeg (-(I (21 + 4) (v1 - (1 : Int32)).toNatClampNeg))), J, R)) rfl (if_neg hc_20) ?_
                      refine az_E.sn 3 (pc' := 4) (L' := [.ref 21, .int v1, .int (v2 + (1 : Int32)), .int (I (21 + 1) v2.toNatClampNeg), .int (I (21 + 4) (v1 - (1 : Int32)).toNatClampNeg)]) (S' := []) (σ' := (97, (az_u I (21 + 4) (v1 - (1 : Int32)).toNatClampNeg (-(I (21 + 4) (v1 - (1 : Int32)).toNatClampNeg))), J, R)) rfl ?_
                      have h := Option.some.inj h
                      subst h
                      exact az_E.forget (L := [.ref 21, .int v1, .int (v2 + (1 : Int32)), .retAddr 0, .retAddr 0]) ⟨rfl, rfl, rfl, trivial, trivial, trivial⟩ hQ
                  · rw [if_neg hc_19] at h
                    refine az_E.sn 2 (pc' := 156) (L' := [.ref 21, .int v1, .int v2, .int (I (21 + 1) v2.toNatClampNeg), .int (I (21 + 4) (v1 - (1 : Int32)).toNatClampNeg)]) (S' := [.int (33 : Int32), .int (I (21 + 1) v2.toNatClampNeg)]) (σ' := (97, I, J, R)) rfl ?_
                    refine az_E.br (c := (I (21 + 1) v2.toNatClampNeg) = (33 : Int32)) (tt := 159) (ff := 180) (L' := [.ref 21, .int v1, .int v2, .int (I (21 + 1) v2.toNatClampNeg), .int (I (21 + 4) (v1 - (1 : Int32)).toNatClampNeg)]) (S' := []) (σ' := (97, I, J, R)) rfl (fun hc_21 => ?_) (fun hc_21 => ?_)
                    · rw [if_pos hc_21] at h
                      refine az_E.sn 6 (pc' := 168) (L' := [.ref 21, .int v1, .int v2, .int (I (21 + 1) v2.toNatClampNeg), .int (I (21 + 4) (v1 - (1 : Int32)).toNatClampNeg)]) (S' := [.int (I (21 + 4) (v1 - (1 : Int32)).toNatClampNeg), .int (v1 - (1 : Int32)), .ref (21 + 4)]) (σ' := (97, I, J, R)) rfl ?_
                      refine az_E.br (c := (I (21 + 4) (v1 - (1 : Int32)).toNatClampNeg) = 0) (tt := 171) (ff := 175) (L' := [.ref 21, .int v1, .int v2, .int (I (21 + 1) v2.toNatClampNeg), .int (I (21 + 4) (v1 - (1 : Int32)).toNatClampNeg)]) (S' := [.int (v1 - (1 : Int32)), .ref (21 + 4)]) (σ' := (97, I, J, R)) rfl (fun hc_22 => ?_) (fun hc_22 => ?_)
                      · rw [if_pos hc_22] at h
                        refine az_E.sn 2 (pc' := 176) (L' := [.ref 21, .int v1, .int v2, .int (I (21 + 1) v2.toNatClampNeg), .int (I (21 + 4) (v1 - (1 : Int32)).toNatClampNeg)]) (S' := [.int (1 : Int32), .int (v1 - (1 : Int32)), .ref (21 + 4)]) (σ' := (97, I, J, R)) rfl ?_
                        exact az_E.forget (L := [.ref 21, .int v1, .int v2, .retAddr 0, .retAddr 0]) ⟨rfl, rfl, rfl, trivial, trivial, trivial⟩ (re_La_work_176_21 (I := I) (J := J) (R := R)  h hQ)
                      · rw [if_neg hc_22] at h
                        refine az_E.sn 1 (pc' := 176) (L' := [.ref 21, .int v1, .int v2, .int (I (21 + 1) v2.toNatClampNeg), .int (I (21 + 4) (v1 - (1 : Int32)).toNatClampNeg)]) (S' := [.int (0 : Int32), .int (v1 - (1 : Int32)), .ref (21 + 4)]) (σ' := (97, I, J, R)) rfl ?_
                        exact az_E.forget (L := [.ref 21, .int v1, .int v2, .retAddr 0, .retAddr 0]) ⟨rfl, rfl, rfl, trivial, trivial, trivial⟩ (re_La_work_176_21 (I := I) (J := J) (R := R)  h hQ)
                    · rw [if_neg hc_21] at h
                      refine az_E.sn 2 (pc' := 182) (L' := [.ref 21, .int v1, .int v2, .int (I (21 + 1) v2.toNatClampNeg), .int (I (21 + 4) (v1 - (1 : Int32)).toNatClampNeg)]) (S' := [.int (2 : Int32), .int v1]) (σ' := (97, I, J, R)) rfl ?_
                      refine az_E.br (c := v1 < (2 : Int32)) (tt := 210) (ff := 185) (L' := [.ref 21, .int v1, .int v2, .int (I (21 + 1) v2.toNatClampNeg), .int (I (21 + 4) (v1 - (1 : Int32)).toNatClampNeg)]) (S' := []) (σ' := (97, I, J, R)) rfl (fun hc_24 => ?_) (fun hc_24 => ?_)
                      · rw [if_pos hc_24] at h
                        refine az_E.sn 2 (pc' := 4) (L' := [.ref 21, .int v1, .int (v2 + (1 : Int32)), .int (I (21 + 1) v2.toNatClampNeg), .int (I (21 + 4) (v1 - (1 : Int32)).toNatClampNeg)]) (S' := []) (σ' := (97, I, J, R)) rfl ?_
                        have h := Option.some.inj h
                        subst h
                        exact az_E.forget (L := [.ref 21, .int v1, .int (v2 + (1 : Int32)), .retAddr 0, .retAddr 0]) ⟨rfl, rfl, rfl, trivial, trivial, trivial⟩ hQ
                      · rw [if_neg hc_24] at h
                        refine az_E.sn 11 (pc' := 202) (L' := [.ref 21, .int (v1 + (-1 : Int32)), .int v2, .int (I (21 + 1) v2.toNatClampNeg), .int (I (21 + 4) (v1 - (1 : Int32)).toNatClampNeg)]) (S' := [.int ((v1 + (-1 : Int32)) - (1 : Int32)), .ref (21 + 4), .int ((v1 + (-1 : Int32)) - (1 : Int32)), .ref (21 + 4)]) (σ' := (97, I, J, R)) rfl ?_
                        by_cases hc_25 : ((v1 + (-1 : Int32)) - (1 : Int32)) < 0 ∨ 64 ≤ ((v1 + (-1 : Int32)) - (1 : Int32)).toNatClampNeg
                        · rw [if_pos hc_25] at h; cases h
                        · rw [if_neg hc_25] at h
                          refine az_E.oi (o := az_ai az_F ex (97, I, J, R) (21 + 4) ((v1 + (-1 : Int32)) - (1 : Int32))) (pc' := 203) (L' := [.ref 21, .int (v1 + (-1 : Int32)), .int v2, .int (I (21 + 1) v2.toNatClampNeg), .int (I (21 + 4) (v1 - (1 : Int32)).toNatClampNeg)]) (S' := [.int ((v1 + (-1 : Int32)) - (1 : Int32)), .ref (21 + 4)]) (σ' := (97, I, J, R)) (x := (I (21 + 4) ((v1 + (-1 : Int32)) - (1 : Int32)).toNatClampNeg)) rfl (az_ai_ok rfl rfl hc_25) ?_
                          refine az_E.sn 2 (pc' := 206) (L' := [.ref 21, .int (v1 + (-1 : Int32)), .int v2, .int (I (21 + 1) v2.toNatClampNeg), .int (I (21 + 4) (v1 - (1 : Int32)).toNatClampNeg)]) (S' := [.int (I (21 + 4) (v1 - (1 : Int32)).toNatClampNeg), .int (I (21 + 1) v2.toNatClampNeg), .int (I (21 + 4) ((v1 + (-1 : Int32)) - (1 : Int32)).toNatClampNeg), .int ((v1 + (-1 : Int32)) - (1 : Int32)), .ref (21 + 4)]) (σ' := (97, I, J, R)) rfl ?_
                          cases hx_27 : rs_La_joined (I (21 + 4) ((v1 + (-1 : Int32)) - (1 : Int32)).toNatClampNeg) (I (21 + 1) v2.toNatClampNeg) (I (21 + 4) (v1 - (1 : Int32)).toNatClampNeg) with
                          | none => rw [hx_27] at h; cases h
                          | some x_26 =>
                            rw [hx_27] at h
                            dsimp only at h
                            refine az_E.call (d := 0) (k' := 33) (vs := [.int (I (21 + 4) ((v1 + (-1 : Int32)) - (1 : Int32)).toNatClampNeg), .int (I (21 + 1) v2.toNatClampNeg), .int (I (21 + 4) (v1 - (1 : Int32)).toNatClampNeg)]) (pc' := 209) (S' := [.int ((v1 + (-1 : Int32)) - (1 : Int32)), .ref (21 + 4)]) (Q1 := fun v s => v = some (.int x_26) ∧ s = (97, I, J, R)) rfl (az_E.deep (by omega) (re_La_joined (J := J) (R := R)  hx_27 ⟨rfl, rfl⟩)) (fun v s hq => ?_)
                            obtain ⟨rfl, rfl⟩ := hq
                            show az_E az_F ex 1 31 209 [.ref 21, .int (v1 + (-1 : Int32)), .int v2, .int (I (21 + 1) v2.toNatClampNeg), .int (I (21 + 4) (v1 - (1 : Int32)).toNatClampNeg)] [.int x_26, .int ((v1 + (-1 : Int32)) - (1 : Int32)), .ref (21 + 4)] (97, I, J, R) _
                            by_cases hc_28 : ((v1 + (-1 : Int32)) - (1 : Int32)) < 0 ∨ 64 ≤ ((v1 + (-1 : Int32)) - (1 : Int32)).toNatClampNeg
                            · rw [if_pos hc_28] at h; cases h
                            · rw [if_neg hc_28] at h
                              refine az_E.o (o := az_si az_F (97, I, J, R) (21 + 4) ((v1 + (-1 : Int32)) - (1 : Int32)) x_26) (pc' := 210) (L' := [.ref 21, .int (v1 + (-1 : Int32)), .int v2, .int (I (21 + 1) v2.toNatClampNeg), .int (I (21 + 4) (v1 - (1 : Int32)).toNatClampNeg)]) (S' := []) (x := (97, (az_u I (21 + 4) ((v1 + (-1 : Int32)) - (1 : Int32)).toNatClampNeg x_26), J, R)) rfl (az_si_ok rfl hc_28) ?_
                              refine az_E.sn 2 (pc' := 4) (L' := [.ref 21, .int (v1 + (-1 : Int32)), .int (v2 + (1 : Int32)), .int (I (21 + 1) v2.toNatClampNeg), .int (I (21 + 4) (v1 - (1 : Int32)).toNatClampNeg)]) (S' := []) (σ' := (97, (az_u I (21 + 4) ((v1 + (-1 : Int32)) - (1 : Int32)).toNatClampNeg x_26), J, R)) rfl ?_
                              have h := Option.some.inj h
                              subst h
                              exact az_E.forget (L := [.ref 21, .int (v1 + (-1 : Int32)), .int (v2 + (1 : Int32)), .retAddr 0, .retAddr 0]) ⟨rfl, rfl, rfl, trivial, trivial, trivial⟩ hQ
          · rw [if_neg hc_13] at h
            refine az_E.sn 1 (pc' := 81) (L' := [.ref 21, .int v1, .int v2, .int (I (21 + 1) v2.toNatClampNeg), .retAddr 0]) (S' := [.int (0 : Int32)]) (σ' := (97, I, J, R)) rfl ?_
            have h := Option.some.inj h
            subst h
            exact az_E.ret (v := some (.int (0 : Int32))) (σ' := (97, I, J, R)) rfl hQ
set_option maxRecDepth 100000 in
set_option maxHeartbeats 4000000 in
theorem re_La_work_4_21 {ex : az_X} {I : Nat → Nat → Int32} {J : Nat → Nat → Int64} {R : Nat → Nat → Option Nat} {v1 : Int32} {v2 : Int32} {x : Int32 × (Nat → Nat → Int32)} (h : rs_La_work_4 21 I v1 v2 = some x) {Q : Option Value → az_S → Prop} (hQ : Q (some (.int x.1)) (97, x.2, J, R)) : az_E az_F ex 1 31 4 [.ref 21, .int v1, .int v2, .retAddr 0, .retAddr 0] [] (97, I, J, R) Q := by
  unfold rs_La_work_4 at h
  refine az_lp_E (G := fun s => az_E az_F ex 1 31 4 [.ref 21, .int s.1, .int s.2.1, .retAddr 0, .retAddr 0] [] (97, s.2.2, J, R) Q) (H := fun x => Q (some (.int x.1)) (97, x.2, J, R)) (fun s o hb ho => ?_) _ _ _ h hQ
  exact re_La_work_4_b_21  hb ho
set_option maxRecDepth 100000 in
set_option maxHeartbeats 4000000 in
theorem re_La_work_21 {ex : az_X} {I : Nat → Nat → Int32} {J : Nat → Nat → Int64} {R : Nat → Nat → Option Nat} {o : Int32 × (Nat → Nat → Int32)} (h : rs_La_work 21 I = some o) {Q : Option Value → az_S → Prop} (hQ : Q (some (.int o.1)) (97, o.2, J, R)) : az_E az_F ex 1 31 0 [.ref 21, .retAddr 0, .retAddr 0, .retAddr 0, .retAddr 0] [] (97, I, J, R) Q := by
  unfold rs_La_work at h
  refine az_E.sn 4 (pc' := 4) (L' := [.ref 21, .int (0 : Int32), .int (0 : Int32), .retAddr 0, .retAddr 0]) (S' := []) (σ' := (97, I, J, R)) rfl ?_
  exact az_E.forget (L := [.ref 21, .int (0 : Int32), .int (0 : Int32), .retAddr 0, .retAddr 0]) ⟨rfl, rfl, rfl, trivial, trivial, trivial⟩ (re_La_work_4_21 (I := I) (J := J) (R := R)  h hQ)
set_option maxRecDepth 100000 in
set_option maxHeartbeats 4000000 in
theorem re_La_minutes_83_21 {ex : az_X} {I : Nat → Nat → Int32} {J : Nat → Nat → Int64} {R : Nat → Nat → Option Nat} {v7 : Int32} {x : Int32 × (Nat → Nat → Int32)} (h : rs_La_minutes_83 21 I v7 = some x) {Q : Option Value → az_S → Prop} (hQ : Q (some (.int x.1)) (97, x.2, J, R)) : az_E az_F ex 2 30 83 [.retAddr 0, .retAddr 0, .retAddr 0, .retAddr 0, .retAddr 0, .retAddr 0, .retAddr 0, .int v7] [] (97, I, J, R) Q := by
  unfold rs_La_minutes_83 at h
  refine az_E.sn 5 (pc' := 94) (L' := [.retAddr 0, .retAddr 0, .retAddr 0, .retAddr 0, .retAddr 0, .retAddr 0, .retAddr 0, .int v7]) (S' := [.int (if (1 : Int32) < (if v7 < (99 : Int32) then v7 else (99 : Int32)) then (if v7 < (99 : Int32) then v7 else (99 : Int32)) else (1 : Int32))]) (σ' := (97, I, J, R)) rfl ?_
  have h := Option.some.inj h
  subst h
  exact az_E.ret (v := some (.int (if (1 : Int32) < (if v7 < (99 : Int32) then v7 else (99 : Int32)) then (if v7 < (99 : Int32) then v7 else (99 : Int32)) else (1 : Int32)))) (σ' := (97, I, J, R)) rfl hQ
set_option maxRecDepth 100000 in
set_option maxHeartbeats 4000000 in
theorem re_La_minutes_21 {ex : az_X} {I : Nat → Nat → Int32} {J : Nat → Nat → Int64} {R : Nat → Nat → Option Nat} {a1 : Int32} {a2 : Int32} {a3 : Int32} {a4 : Int32} {a5 : Int32} {a6 : Int32} {o : Int32 × (Nat → Nat → Int32)} (h : rs_La_minutes 21 I a1 a2 a3 a4 a5 a6 = some o) {Q : Option Value → az_S → Prop} (hQ : Q (some (.int o.1)) (97, o.2, J, R)) : az_E az_F ex 2 30 0 [.ref 21, .int a1, .int a2, .int a3, .int a4, .int a5, .int a6, .retAddr 0] [] (97, I, J, R) Q := by
  unfold rs_La_minutes at h
  refine az_E.sn 2 (pc' := 4) (L' := [.ref 21, .int a1, .int a2, .int a3, .int a4, .int a5, .int a6, .retAddr 0]) (S' := [.int (I 21 5)]) (σ' := (97, I, J, R)) rfl ?_
  refine az_E.br (c := (I 21 5) = 0) (tt := 61) (ff := 7) (L' := [.ref 21, .int a1, .int a2, .int a3, .int a4, .int a5, .int a6, .retAddr 0]) (S' := []) (σ' := (97, I, J, R)) rfl (fun hc_1 => ?_) (fun hc_1 => ?_)
  · rw [if_pos hc_1] at h
    refine az_E.sn 16 (pc' := 83) (L' := [.ref 21, .int a1, .int a2, .int a3, .int a4, .int a5, .int a6, .int ((((((10 : Int32) + ((3 : Int32) * (if a1 < (0 : Int32) then (0 : Int32) else a1))) + a3) + a5) - a2) - a4)]) (S' := []) (σ' := (97, I, J, R)) rfl ?_
    exact az_E.forget (L := [.retAddr 0, .retAddr 0, .retAddr 0, .retAddr 0, .retAddr 0, .retAddr 0, .retAddr 0, .int ((((((10 : Int32) + ((3 : Int32) * (if a1 < (0 : Int32) then (0 : Int32) else a1))) + a3) + a5) - a2) - a4)]) ⟨trivial, trivial, trivial, trivial, trivial, trivial, trivial, rfl, trivial⟩ (re_La_minutes_83_21 (I := I) (J := J) (R := R)  h hQ)
  · rw [if_neg hc_1] at h
    refine az_E.sn 4 (pc' := 13) (L' := [.ref 21, .int a1, .int a2, .int a3, .int a4, .int a5, .int a6, .retAddr 0]) (S' := [.int a1, .int (0 : Int32), .ref (21 + 3)]) (σ' := (97, I, J, R)) rfl ?_
    refine az_E.o (o := az_si az_F (97, I, J, R) (21 + 3) (0 : Int32) a1) (pc' := 14) (L' := [.ref 21, .int a1, .int a2, .int a3, .int a4, .int a5, .int a6, .retAddr 0]) (S' := []) (x := (97, (az_u I (21 + 3) 0 a1), J, R)) rfl rfl ?_
    refine az_E.sn 4 (pc' := 20) (L' := [.ref 21, .int a1, .int a2, .int a3, .int a4, .int a5, .int a6, .retAddr 0]) (S' := [.int a2, .int (1 : Int32), .ref (21 + 3)]) (σ' := (97, (az_u I (21 + 3) 0 a1), J, R)) rfl ?_
    refine az_E.o (o := az_si az_F (97, (az_u I (21 + 3) 0 a1), J, R) (21 + 3) (1 : Int32) a2) (pc' := 21) (L' := [.ref 21, .int a1, .int a2, .int a3, .int a4, .int a5, .int a6, .retAddr 0]) (S' := []) (x := (97, (az_u (az_u I (21 + 3) 0 a1) (21 + 3) 1 a2), J, R)) rfl rfl ?_
    refine az_E.sn 4 (pc' := 27) (L' := [.ref 21, .int a1, .int a2, .int a3, .int a4, .int a5, .int a6, .retAddr 0]) (S' := [.int a3, .int (2 : Int32), .ref (21 + 3)]) (σ' := (97, (az_u (az_u I (21 + 3) 0 a1) (21 + 3) 1 a2), J, R)) rfl ?_
    refine az_E.o (o := az_si az_F (97, (az_u (az_u I (21 + 3) 0 a1) (21 + 3) 1 a2), J, R) (21 + 3) (2 : Int32) a3) (pc' := 28) (L' := [.ref 21, .int a1, .int a2, .int a3, .int a4, .int a5, .int a6, .retAddr 0]) (S' := []) (x := (97, (az_u (az_u (az_u I (21 + 3) 0 a1) (21 + 3) 1 a2) (21 + 3) 2 a3), J, R)) rfl rfl ?_
    refine az_E.sn 4 (pc' := 35) (L' := [.ref 21, .int a1, .int a2, .int a3, .int a4, .int a5, .int a6, .retAddr 0]) (S' := [.int a4, .int (3 : Int32), .ref (21 + 3)]) (σ' := (97, (az_u (az_u (az_u I (21 + 3) 0 a1) (21 + 3) 1 a2) (21 + 3) 2 a3), J, R)) rfl ?_
    refine az_E.o (o := az_si az_F (97, (az_u (az_u (az_u I (21 + 3) 0 a1) (21 + 3) 1 a2) (21 + 3) 2 a3), J, R) (21 + 3) (3 : Int32) a4) (pc' := 36) (L' := [.ref 21, .int a1, .int a2, .int a3, .int a4, .int a5, .int a6, .retAddr 0]) (S' := []) (x := (97, (az_u (az_u (az_u (az_u I (21 + 3) 0 a1) (21 + 3) 1 a2) (21 + 3) 2 a3) (21 + 3) 3 a4), J, R)) rfl rfl ?_
    refine az_E.sn 4 (pc' := 43) (L' := [.ref 21, .int a1, .int a2, .int a3, .int a4, .int a5, .int a6, .retAddr 0]) (S' := [.int a5, .int (4 : Int32), .ref (21 + 3)]) (σ' := (97, (az_u (az_u (az_u (az_u I (21 + 3) 0 a1) (21 + 3) 1 a2) (21 + 3) 2 a3) (21 + 3) 3 a4), J, R)) rfl ?_
    refine az_E.o (o := az_si az_F (97, (az_u (az_u (az_u (az_u I (21 + 3) 0 a1) (21 + 3) 1 a2) (21 + 3) 2 a3) (21 + 3) 3 a4), J, R) (21 + 3) (4 : Int32) a5) (pc' := 44) (L' := [.ref 21, .int a1, .int a2, .int a3, .int a4, .int a5, .int a6, .retAddr 0]) (S' := []) (x := (97, (az_u (az_u (az_u (az_u (az_u I (21 + 3) 0 a1) (21 + 3) 1 a2) (21 + 3) 2 a3) (21 + 3) 3 a4) (21 + 3) 4 a5), J, R)) rfl rfl ?_
    refine az_E.sn 4 (pc' := 51) (L' := [.ref 21, .int a1, .int a2, .int a3, .int a4, .int a5, .int a6, .retAddr 0]) (S' := [.int a6, .int (5 : Int32), .ref (21 + 3)]) (σ' := (97, (az_u (az_u (az_u (az_u (az_u I (21 + 3) 0 a1) (21 + 3) 1 a2) (21 + 3) 2 a3) (21 + 3) 3 a4) (21 + 3) 4 a5), J, R)) rfl ?_
    refine az_E.o (o := az_si az_F (97, (az_u (az_u (az_u (az_u (az_u I (21 + 3) 0 a1) (21 + 3) 1 a2) (21 + 3) 2 a3) (21 + 3) 3 a4) (21 + 3) 4 a5), J, R) (21 + 3) (5 : Int32) a6) (pc' := 52) (L' := [.ref 21, .int a1, .int a2, .int a3, .int a4, .int a5, .int a6, .retAddr 0]) (S' := []) (x := (97, (az_u (az_u (az_u (az_u (az_u (az_u I (21 + 3) 0 a1) (21 + 3) 1 a2) (21 + 3) 2 a3) (21 + 3) 3 a4) (21 + 3) 4 a5) (21 + 3) 5 a6), J, R)) rfl rfl ?_
    refine az_E.sn 1 (pc' := 53) (L' := [.ref 21, .int a1, .int a2, .int a3, .int a4, .int a5, .int a6, .retAddr 0]) (S' := [.ref 21]) (σ' := (97, (az_u (az_u (az_u (az_u (az_u (az_u I (21 + 3) 0 a1) (21 + 3) 1 a2) (21 + 3) 2 a3) (21 + 3) 3 a4) (21 + 3) 4 a5) (21 + 3) 5 a6), J, R)) rfl ?_
    cases hx_10 : rs_La_work 21 (az_u (az_u (az_u (az_u (az_u (az_u I (21 + 3) 0 a1) (21 + 3) 1 a2) (21 + 3) 2 a3) (21 + 3) 3 a4) (21 + 3) 4 a5) (21 + 3) 5 a6) with
    | none => rw [hx_10] at h; cases h
    | some o =>
      rw [hx_10] at h
      obtain ⟨x_8, I_9⟩ := o
      dsimp only at h
      refine az_E.call (d := 1) (k' := 31) (vs := [.ref 21]) (pc' := 56) (S' := []) (Q1 := fun v s => v = some (.int x_8) ∧ s = (97, I_9, J, R)) rfl (az_E.deep (by omega) (re_La_work_21 (J := J) (R := R)  hx_10 ⟨rfl, rfl⟩)) (fun v s hq => ?_)
      obtain ⟨rfl, rfl⟩ := hq
      show az_E az_F ex 2 30 56 [.ref 21, .int a1, .int a2, .int a3, .int a4, .int a5, .int a6, .retAddr 0] [.int x_8] (97, I_9, J, R) _
      refine az_E.sn 2 (pc' := 83) (L' := [.ref 21, .int a1, .int a2, .int a3, .int a4, .int a5, .int a6, .int x_8]) (S' := []) (σ' := (97, I_9, J, R)) rfl ?_
      exact az_E.forget (L := [.retAddr 0, .retAddr 0, .retAddr 0, .retAddr 0, .retAddr 0, .retAddr 0, .retAddr 0, .int x_8]) ⟨trivial, trivial, trivial, trivial, trivial, trivial, trivial, rfl, trivial⟩ (re_La_minutes_83_21 (I := I_9) (J := J) (R := R)  h hQ)
set_option maxRecDepth 100000 in
set_option maxHeartbeats 4000000 in
theorem re_X_stepMinutes_21 {ex : az_X} {I : Nat → Nat → Int32} {J : Nat → Nat → Int64} {R : Nat → Nat → Option Nat} {a1 : Int32} {a2 : Int32} {a3 : Int32} (hR_3_2 : R 3 2 = some 21) {o : Int32 × (Nat → Nat → Int32)} (h : rs_X_stepMinutes 21 I a1 a2 a3 = some o) {Q : Option Value → az_S → Prop} (hQ : Q (some (.int o.1)) (97, o.2, J, R)) : az_E az_F ex 3 145 0 [.ref 3, .int a1, .int a2, .int a3, .retAddr 0, .retAddr 0] [] (97, I, J, R) Q := by
  unfold rs_X_stepMinutes at h
  refine az_E.sn 4 (pc' := 8) (L' := [.ref 3, .int a1, .int a2, .int a3, .retAddr 0, .retAddr 0]) (S' := [.int a3, .ref 5]) (σ' := (97, I, J, R)) rfl ?_
  by_cases hc_1 : a3 < 0 ∨ 144 ≤ a3.toNatClampNeg
  · rw [if_pos hc_1] at h; cases h
  · rw [if_neg hc_1] at h
    refine az_E.oi (o := az_ai az_F ex (97, I, J, R) 5 a3) (pc' := 9) (L' := [.ref 3, .int a1, .int a2, .int a3, .retAddr 0, .retAddr 0]) (S' := []) (σ' := (97, I, J, R)) (x := (I 5 a3.toNatClampNeg)) rfl (if_neg hc_1) ?_
    refine az_E.sn 6 (pc' := 21) (L' := [.ref 3, .int a1, .int a2, .int a3, .int (I 5 a3.toNatClampNeg), .retAddr 0]) (S' := [.int a2, .ref 5, .int (I 5 a3.toNatClampNeg)]) (σ' := (97, I, J, R)) rfl ?_
    by_cases hc_2 : a2 < 0 ∨ 144 ≤ a2.toNatClampNeg
    · rw [if_pos hc_2] at h; cases h
    · rw [if_neg hc_2] at h
      refine az_E.oi (o := az_ai az_F ex (97, I, J, R) 5 a2) (pc' := 22) (L' := [.ref 3, .int a1, .int a2, .int a3, .int (I 5 a3.toNatClampNeg), .retAddr 0]) (S' := [.int (I 5 a3.toNatClampNeg)]) (σ' := (97, I, J, R)) (x := (I 5 a2.toNatClampNeg)) rfl (if_neg hc_2) ?_
      refine az_E.sn 3 (pc' := 26) (L' := [.ref 3, .int a1, .int a2, .int a3, .int (I 5 a3.toNatClampNeg), .int ((I 5 a3.toNatClampNeg) - (I 5 a2.toNatClampNeg))]) (S' := [.ref 3]) (σ' := (97, I, J, R)) rfl ?_
      refine az_E.ov (pc' := 29) (L' := [.ref 3, .int a1, .int a2, .int a3, .int (I 5 a3.toNatClampNeg), .int ((I 5 a3.toNatClampNeg) - (I 5 a2.toNatClampNeg))]) (S' := []) (σ' := (97, I, J, R)) (x := .ref 21) rfl (congrArg (fun z => some (va_rf z)) hR_3_2) ?_
      refine az_E.sn 5 (pc' := 39) (L' := [.ref 3, .int a1, .int a2, .int a3, .int (I 5 a3.toNatClampNeg), .int ((I 5 a3.toNatClampNeg) - (I 5 a2.toNatClampNeg))]) (S' := [.int a1, .ref 8, .int ((I 5 a3.toNatClampNeg) - (I 5 a2.toNatClampNeg)), .ref 21]) (σ' := (97, I, J, R)) rfl ?_
      by_cases hc_3 : a1 < 0 ∨ 6 ≤ a1.toNatClampNeg
      · rw [if_pos hc_3] at h; cases h
      · rw [if_neg hc_3] at h
        refine az_E.oi (o := az_ai az_F ex (97, I, J, R) 8 a1) (pc' := 40) (L' := [.ref 3, .int a1, .int a2, .int a3, .int (I 5 a3.toNatClampNeg), .int ((I 5 a3.toNatClampNeg) - (I 5 a2.toNatClampNeg))]) (S' := [.int ((I 5 a3.toNatClampNeg) - (I 5 a2.toNatClampNeg)), .ref 21]) (σ' := (97, I, J, R)) (x := (I 8 a1.toNatClampNeg)) rfl (if_neg hc_3) ?_
        refine az_E.sn 4 (pc' := 48) (L' := [.ref 3, .int a1, .int a2, .int a3, .int (I 5 a3.toNatClampNeg), .int ((I 5 a3.toNatClampNeg) - (I 5 a2.toNatClampNeg))]) (S' := [.int a1, .ref 9, .int (I 8 a1.toNatClampNeg), .int ((I 5 a3.toNatClampNeg) - (I 5 a2.toNatClampNeg)), .ref 21]) (σ' := (97, I, J, R)) rfl ?_
        by_cases hc_4 : a1 < 0 ∨ 6 ≤ a1.toNatClampNeg
        · rw [if_pos hc_4] at h; cases h
        · rw [if_neg hc_4] at h
          refine az_E.oi (o := az_ai az_F ex (97, I, J, R) 9 a1) (pc' := 49) (L' := [.ref 3, .int a1, .int a2, .int a3, .int (I 5 a3.toNatClampNeg), .int ((I 5 a3.toNatClampNeg) - (I 5 a2.toNatClampNeg))]) (S' := [.int (I 8 a1.toNatClampNeg), .int ((I 5 a3.toNatClampNeg) - (I 5 a2.toNatClampNeg)), .ref 21]) (σ' := (97, I, J, R)) (x := (I 9 a1.toNatClampNeg)) rfl (if_neg hc_4) ?_
          refine az_E.sn 4 (pc' := 57) (L' := [.ref 3, .int a1, .int a2, .int a3, .int (I 5 a3.toNatClampNeg), .int ((I 5 a3.toNatClampNeg) - (I 5 a2.toNatClampNeg))]) (S' := [.int a1, .ref 10, .int (I 9 a1.toNatClampNeg), .int (I 8 a1.toNatClampNeg), .int ((I 5 a3.toNatClampNeg) - (I 5 a2.toNatClampNeg)), .ref 21]) (σ' := (97, I, J, R)) rfl ?_
          by_cases hc_5 : a1 < 0 ∨ 6 ≤ a1.toNatClampNeg
          · rw [if_pos hc_5] at h; cases h
          · rw [if_neg hc_5] at h
            refine az_E.oi (o := az_ai az_F ex (97, I, J, R) 10 a1) (pc' := 58) (L' := [.ref 3, .int a1, .int a2, .int a3, .int (I 5 a3.toNatClampNeg), .int ((I 5 a3.toNatClampNeg) - (I 5 a2.toNatClampNeg))]) (S' := [.int (I 9 a1.toNatClampNeg), .int (I 8 a1.toNatClampNeg), .int ((I 5 a3.toNatClampNeg) - (I 5 a2.toNatClampNeg)), .ref 21]) (σ' := (97, I, J, R)) (x := (I 10 a1.toNatClampNeg)) rfl (if_neg hc_5) ?_
            refine az_E.sn 4 (pc' := 67) (L' := [.ref 3, .int a1, .int a2, .int a3, .int (I 5 a3.toNatClampNeg), .int ((I 5 a3.toNatClampNeg) - (I 5 a2.toNatClampNeg))]) (S' := [.int (I 5 a3.toNatClampNeg), .int (I 4 10), .int (I 10 a1.toNatClampNeg), .int (I 9 a1.toNatClampNeg), .int (I 8 a1.toNatClampNeg), .int ((I 5 a3.toNatClampNeg) - (I 5 a2.toNatClampNeg)), .ref 21]) (σ' := (97, I, J, R)) rfl ?_
            cases hx_8 : rs_La_minutes 21 I ((I 5 a3.toNatClampNeg) - (I 5 a2.toNatClampNeg)) (I 8 a1.toNatClampNeg) (I 9 a1.toNatClampNeg) (I 10 a1.toNatClampNeg) (I 4 10) (I 5 a3.toNatClampNeg) with
            | none => rw [hx_8] at h; cases h
            | some o =>
              rw [hx_8] at h
              obtain ⟨x_6, I_7⟩ := o
              dsimp only at h
              refine az_E.call (d := 2) (k' := 30) (vs := [.ref 21, .int ((I 5 a3.toNatClampNeg) - (I 5 a2.toNatClampNeg)), .int (I 8 a1.toNatClampNeg), .int (I 9 a1.toNatClampNeg), .int (I 10 a1.toNatClampNeg), .int (I 4 10), .int (I 5 a3.toNatClampNeg)]) (pc' := 70) (S' := []) (Q1 := fun v s => v = some (.int x_6) ∧ s = (97, I_7, J, R)) rfl (az_E.deep (by omega) (re_La_minutes_21 (J := J) (R := R)  hx_8 ⟨rfl, rfl⟩)) (fun v s hq => ?_)
              obtain ⟨rfl, rfl⟩ := hq
              show az_E az_F ex 3 145 70 [.ref 3, .int a1, .int a2, .int a3, .int (I 5 a3.toNatClampNeg), .int ((I 5 a3.toNatClampNeg) - (I 5 a2.toNatClampNeg))] [.int x_6] (97, I_7, J, R) _
              have h := Option.some.inj h
              subst h
              exact az_E.ret (v := some (.int x_6)) (σ' := (97, I_7, J, R)) rfl hQ
set_option maxRecDepth 100000 in
set_option maxHeartbeats 4000000 in
theorem re_X_step_21 {ex : az_X} {I : Nat → Nat → Int32} {J : Nat → Nat → Int64} {R : Nat → Nat → Option Nat} {a1 : Int32} {a2 : Int32} (hR_3_2 : R 3 2 = some 21) {o : Int32 × (Nat → Nat → Int32)} (h : rs_X_step 21 I a1 a2 = some o) {Q : Option Value → az_S → Prop} (hQ : Q (some (.int o.1)) (97, o.2, J, R)) : az_E az_F ex 4 91 0 [.ref 3, .int a1, .int a2] [] (97, I, J, R) Q := by
  unfold rs_X_step at h
  refine az_E.sn 1 (pc' := 1) (L' := [.ref 3, .int a1, .int a2]) (S' := [.int a1]) (σ' := (97, I, J, R)) rfl ?_
  cases hx_2 : rs_X_isFromTo a1 with
  | none => rw [hx_2] at h; cases h
  | some x_1 =>
    rw [hx_2] at h
    dsimp only at h
    refine az_E.call (d := 3) (k' := 134) (vs := [.int a1]) (pc' := 4) (S' := []) (Q1 := fun v s => v = some (.int x_1) ∧ s = (97, I, J, R)) rfl (az_E.deep (by omega) (re_X_isFromTo (J := J) (R := R)  hx_2 ⟨rfl, rfl⟩)) (fun v s hq => ?_)
    obtain ⟨rfl, rfl⟩ := hq
    show az_E az_F ex 4 91 4 [.ref 3, .int a1, .int a2] [.int x_1] (97, I, J, R) _
    refine az_E.br (c := x_1 = 0) (tt := 29) (ff := 7) (L' := [.ref 3, .int a1, .int a2]) (S' := []) (σ' := (97, I, J, R)) rfl (fun hc_3 => ?_) (fun hc_3 => ?_)
    · rw [if_pos hc_3] at h
      refine az_E.sn 1 (pc' := 30) (L' := [.ref 3, .int a1, .int a2]) (S' := [.int (-1 : Int32)]) (σ' := (97, I, J, R)) rfl ?_
      have h := Option.some.inj h
      subst h
      exact az_E.ret (v := some (.int (-1 : Int32))) (σ' := (97, I, J, R)) rfl hQ
    · rw [if_neg hc_3] at h
      refine az_E.sn 2 (pc' := 9) (L' := [.ref 3, .int a1, .int a2]) (S' := [.int a2, .ref 3]) (σ' := (97, I, J, R)) rfl ?_
      refine az_E.call (d := 3) (k' := 138) (vs := [.ref 3, .int a2]) (pc' := 12) (S' := []) rfl ?_ (fun _ _ hq => hq)
      show az_E az_F ex 3 138 0 [.ref 3, .int a2] [] (97, I, J, R) _
      refine az_E.sn 7 (pc' := 11) (L' := [.ref 3, .int a2]) (S' := [.int ((I 4 9) - (1 : Int32)), .int (0 : Int32), .int a2]) (σ' := (97, I, J, R)) rfl ?_
      refine az_E.call (d := 2) (k' := 131) (vs := [.int a2, .int (0 : Int32), .int ((I 4 9) - (1 : Int32))]) (pc' := 14) (S' := []) rfl ?_ (fun _ _ hq => hq)
      show az_E az_F ex 2 131 0 [.int a2, .int (0 : Int32), .int ((I 4 9) - (1 : Int32))] [] (97, I, J, R) _
      refine az_E.sn 2 (pc' := 2) (L' := [.int a2, .int (0 : Int32), .int ((I 4 9) - (1 : Int32))]) (S' := [.int (0 : Int32), .int a2]) (σ' := (97, I, J, R)) rfl ?_
      refine az_E.br (c := a2 < (0 : Int32)) (tt := 14) (ff := 5) (L' := [.int a2, .int (0 : Int32), .int ((I 4 9) - (1 : Int32))]) (S' := []) (σ' := (97, I, J, R)) rfl (fun hc_4 => ?_) (fun hc_4 => ?_)
      · rw [if_pos hc_4] at h
        refine az_E.sn 1 (pc' := 15) (L' := [.int a2, .int (0 : Int32), .int ((I 4 9) - (1 : Int32))]) (S' := [.int (0 : Int32)]) (σ' := (97, I, J, R)) rfl ?_
        refine az_E.ret (v := some (.int (0 : Int32))) (σ' := (97, I, J, R)) rfl ?_
        show az_E az_F ex 3 138 14 [.ref 3, .int a2] [.int (0 : Int32)] (97, I, J, R) _
        refine az_E.ret (v := some (.int (0 : Int32))) (σ' := (97, I, J, R)) rfl ?_
        show az_E az_F ex 4 91 12 [.ref 3, .int a1, .int a2] [.int (0 : Int32)] (97, I, J, R) _
        refine az_E.br (c := (0 : Int32) = 0) (tt := 29) (ff := 15) (L' := [.ref 3, .int a1, .int a2]) (S' := []) (σ' := (97, I, J, R)) rfl (fun _ => ?_) (fun hn => absurd (by decide) hn)
        refine az_E.sn 1 (pc' := 30) (L' := [.ref 3, .int a1, .int a2]) (S' := [.int (-1 : Int32)]) (σ' := (97, I, J, R)) rfl ?_
        have h := Option.some.inj h
        subst h
        exact az_E.ret (v := some (.int (-1 : Int32))) (σ' := (97, I, J, R)) rfl hQ
      · rw [if_neg hc_4] at h
        refine az_E.sn 2 (pc' := 7) (L' := [.int a2, .int (0 : Int32), .int ((I 4 9) - (1 : Int32))]) (S' := [.int ((I 4 9) - (1 : Int32)), .int a2]) (σ' := (97, I, J, R)) rfl ?_
        refine az_E.br (c := ((I 4 9) - (1 : Int32)) < a2) (tt := 14) (ff := 10) (L' := [.int a2, .int (0 : Int32), .int ((I 4 9) - (1 : Int32))]) (S' := []) (σ' := (97, I, J, R)) rfl (fun hc_5 => ?_) (fun hc_5 => ?_)
        · rw [if_pos hc_5] at h
          refine az_E.sn 1 (pc' := 15) (L' := [.int a2, .int (0 : Int32), .int ((I 4 9) - (1 : Int32))]) (S' := [.int (0 : Int32)]) (σ' := (97, I, J, R)) rfl ?_
          refine az_E.ret (v := some (.int (0 : Int32))) (σ' := (97, I, J, R)) rfl ?_
          show az_E az_F ex 3 138 14 [.ref 3, .int a2] [.int (0 : Int32)] (97, I, J, R) _
          refine az_E.ret (v := some (.int (0 : Int32))) (σ' := (97, I, J, R)) rfl ?_
          show az_E az_F ex 4 91 12 [.ref 3, .int a1, .int a2] [.int (0 : Int32)] (97, I, J, R) _
          refine az_E.br (c := (0 : Int32) = 0) (tt := 29) (ff := 15) (L' := [.ref 3, .int a1, .int a2]) (S' := []) (σ' := (97, I, J, R)) rfl (fun _ => ?_) (fun hn => absurd (by decide) hn)
          refine az_E.sn 1 (pc' := 30) (L' := [.ref 3, .int a1, .int a2]) (S' := [.int (-1 : Int32)]) (σ' := (97, I, J, R)) rfl ?_
          have h := Option.some.inj h
          subst h
          exact az_E.ret (v := some (.int (-1 : Int32))) (σ' := (97, I, J, R)) rfl hQ
        · rw [if_neg hc_5] at h
          refine az_E.sn 2 (pc' := 15) (L' := [.int a2, .int (0 : Int32), .int ((I 4 9) - (1 : Int32))]) (S' := [.int (1 : Int32)]) (σ' := (97, I, J, R)) rfl ?_
          refine az_E.ret (v := some (.int (1 : Int32))) (σ' := (97, I, J, R)) rfl ?_
          show az_E az_F ex 3 138 14 [.ref 3, .int a2] [.int (1 : Int32)] (97, I, J, R) _
          refine az_E.ret (v := some (.int (1 : Int32))) (σ' := (97, I, J, R)) rfl ?_
          show az_E az_F ex 4 91 12 [.ref 3, .int a1, .int a2] [.int (1 : Int32)] (97, I, J, R) _
          refine az_E.br (c := (1 : Int32) = 0) (tt := 29) (ff := 15) (L' := [.ref 3, .int a1, .int a2]) (S' := []) (σ' := (97, I, J, R)) rfl (fun hn => absurd hn (by decide)) (fun _ => ?_)
          refine az_E.sn 1 (pc' := 16) (L' := [.ref 3, .int a1, .int a2]) (S' := [.int a1]) (σ' := (97, I, J, R)) rfl ?_
          refine az_E.call (d := 3) (k' := 135) (vs := [.int a1]) (pc' := 19) (S' := []) rfl ?_ (fun _ _ hq => hq)
          show az_E az_F ex 3 135 0 [.int a1] [] (97, I, J, R) _
          refine az_E.sn 2 (pc' := 4) (L' := [.int a1]) (S' := [.int (1000 : Int32), .int a1]) (σ' := (97, I, J, R)) rfl ?_
          have hd_6 : ¬ ((1000 : Int32) = 0) := by decide
          refine az_E.dv (c := (1000 : Int32) = 0) (pc' := 5) (L' := [.int a1]) (S' := [.int (a1 / (1000 : Int32))]) (σ' := (97, I, J, R)) rfl hd_6 ?_
          refine az_E.ret (v := some (.int (a1 / (1000 : Int32)))) (σ' := (97, I, J, R)) rfl ?_
          show az_E az_F ex 4 91 19 [.ref 3, .int a1, .int a2] [.int (a1 / (1000 : Int32))] (97, I, J, R) _
          refine az_E.sn 1 (pc' := 20) (L' := [.ref 3, .int a1, .int a2]) (S' := [.int a1, .int (a1 / (1000 : Int32))]) (σ' := (97, I, J, R)) rfl ?_
          refine az_E.call (d := 3) (k' := 136) (vs := [.int a1]) (pc' := 23) (S' := [.int (a1 / (1000 : Int32))]) rfl ?_ (fun _ _ hq => hq)
          show az_E az_F ex 3 136 0 [.int a1] [] (97, I, J, R) _
          refine az_E.sn 2 (pc' := 4) (L' := [.int a1]) (S' := [.int (1000 : Int32), .int a1]) (σ' := (97, I, J, R)) rfl ?_
          have hd_7 : ¬ ((1000 : Int32) = 0) := by decide
          refine az_E.dv (c := (1000 : Int32) = 0) (pc' := 5) (L' := [.int a1]) (S' := [.int (a1 - a1 / (1000 : Int32) * (1000 : Int32))]) (σ' := (97, I, J, R)) rfl hd_7 ?_
          refine az_E.ret (v := some (.int (a1 - a1 / (1000 : Int32) * (1000 : Int32)))) (σ' := (97, I, J, R)) rfl ?_
          show az_E az_F ex 4 91 23 [.ref 3, .int a1, .int a2] [.int (a1 - a1 / (1000 : Int32) * (1000 : Int32)), .int (a1 / (1000 : Int32))] (97, I, J, R) _
          cases hx_9 : rs_X_areSideBySide (a1 / (1000 : Int32)) (a1 - a1 / (1000 : Int32) * (1000 : Int32)) with
          | none => rw [hx_9] at h; cases h
          | some x_8 =>
            rw [hx_9] at h
            dsimp only at h
            refine az_E.call (d := 3) (k' := 142) (vs := [.int (a1 / (1000 : Int32)), .int (a1 - a1 / (1000 : Int32) * (1000 : Int32))]) (pc' := 26) (S' := []) (Q1 := fun v s => v = some (.int x_8) ∧ s = (97, I, J, R)) rfl (az_E.deep (by omega) (re_X_areSideBySide (J := J) (R := R)  hx_9 ⟨rfl, rfl⟩)) (fun v s hq => ?_)
            obtain ⟨rfl, rfl⟩ := hq
            show az_E az_F ex 4 91 26 [.ref 3, .int a1, .int a2] [.int x_8] (97, I, J, R) _
            refine az_E.br (c := x_8 = 0) (tt := 29) (ff := 31) (L' := [.ref 3, .int a1, .int a2]) (S' := []) (σ' := (97, I, J, R)) rfl (fun hc_10 => ?_) (fun hc_10 => ?_)
            · rw [if_pos hc_10] at h
              refine az_E.sn 1 (pc' := 30) (L' := [.ref 3, .int a1, .int a2]) (S' := [.int (-1 : Int32)]) (σ' := (97, I, J, R)) rfl ?_
              have h := Option.some.inj h
              subst h
              exact az_E.ret (v := some (.int (-1 : Int32))) (σ' := (97, I, J, R)) rfl hQ
            · rw [if_neg hc_10] at h
              refine az_E.sn 3 (pc' := 34) (L' := [.ref 3, .int a1, .int a2]) (S' := [.int a1, .int a2, .ref 3]) (σ' := (97, I, J, R)) rfl ?_
              refine az_E.call (d := 3) (k' := 135) (vs := [.int a1]) (pc' := 37) (S' := [.int a2, .ref 3]) rfl ?_ (fun _ _ hq => hq)
              show az_E az_F ex 3 135 0 [.int a1] [] (97, I, J, R) _
              refine az_E.sn 2 (pc' := 4) (L' := [.int a1]) (S' := [.int (1000 : Int32), .int a1]) (σ' := (97, I, J, R)) rfl ?_
              have hd_11 : ¬ ((1000 : Int32) = 0) := by decide
              refine az_E.dv (c := (1000 : Int32) = 0) (pc' := 5) (L' := [.int a1]) (S' := [.int (a1 / (1000 : Int32))]) (σ' := (97, I, J, R)) rfl hd_11 ?_
              refine az_E.ret (v := some (.int (a1 / (1000 : Int32)))) (σ' := (97, I, J, R)) rfl ?_
              show az_E az_F ex 4 91 37 [.ref 3, .int a1, .int a2] [.int (a1 / (1000 : Int32)), .int a2, .ref 3] (97, I, J, R) _
              refine az_E.sn 1 (pc' := 38) (L' := [.ref 3, .int a1, .int a2]) (S' := [.int a1, .int (a1 / (1000 : Int32)), .int a2, .ref 3]) (σ' := (97, I, J, R)) rfl ?_
              refine az_E.call (d := 3) (k' := 136) (vs := [.int a1]) (pc' := 41) (S' := [.int (a1 / (1000 : Int32)), .int a2, .ref 3]) rfl ?_ (fun _ _ hq => hq)
              show az_E az_F ex 3 136 0 [.int a1] [] (97, I, J, R) _
              refine az_E.sn 2 (pc' := 4) (L' := [.int a1]) (S' := [.int (1000 : Int32), .int a1]) (σ' := (97, I, J, R)) rfl ?_
              have hd_12 : ¬ ((1000 : Int32) = 0) := by decide
              refine az_E.dv (c := (1000 : Int32) = 0) (pc' := 5) (L' := [.int a1]) (S' := [.int (a1 - a1 / (1000 : Int32) * (1000 : Int32))]) (σ' := (97, I, J, R)) rfl hd_12 ?_
              refine az_E.ret (v := some (.int (a1 - a1 / (1000 : Int32) * (1000 : Int32)))) (σ' := (97, I, J, R)) rfl ?_
              show az_E az_F ex 4 91 41 [.ref 3, .int a1, .int a2] [.int (a1 - a1 / (1000 : Int32) * (1000 : Int32)), .int (a1 / (1000 : Int32)), .int a2, .ref 3] (97, I, J, R) _
              cases hx_15 : rs_X_stepMinutes 21 I a2 (a1 / (1000 : Int32)) (a1 - a1 / (1000 : Int32) * (1000 : Int32)) with
              | none => rw [hx_15] at h; cases h
              | some o =>
                rw [hx_15] at h
                obtain ⟨x_13, I_14⟩ := o
                dsimp only at h
                refine az_E.call (d := 3) (k' := 145) (vs := [.ref 3, .int a2, .int (a1 / (1000 : Int32)), .int (a1 - a1 / (1000 : Int32) * (1000 : Int32))]) (pc' := 44) (S' := []) (Q1 := fun v s => v = some (.int x_13) ∧ s = (97, I_14, J, R)) rfl (az_E.deep (by omega) (re_X_stepMinutes_21 (J := J) (R := R) hR_3_2 hx_15 ⟨rfl, rfl⟩)) (fun v s hq => ?_)
                obtain ⟨rfl, rfl⟩ := hq
                show az_E az_F ex 4 91 44 [.ref 3, .int a1, .int a2] [.int x_13] (97, I_14, J, R) _
                have h := Option.some.inj h
                subst h
                exact az_E.ret (v := some (.int x_13)) (σ' := (97, I_14, J, R)) rfl hQ
set_option maxRecDepth 100000 in
set_option maxHeartbeats 4000000 in
theorem re_Pa_fill_2_b_26_21 {ex : az_X} {I : Nat → Nat → Int32} {J : Nat → Nat → Int64} {R : Nat → Nat → Option Nat} {v1 : Int32} (hR_26_2 : R 26 2 = some 21) {x : ((Int32 × (Nat → Nat → Int32)) ⊕ ((Nat → Nat → Int32)))} (h : rs_Pa_fill_2_b 26 21 v1 I = some x) {Q : Option Value → az_S → Prop} (hQ : Sum.elim (fun s => az_E az_F ex 3 50 2 [.ref 26, .int s.1, .retAddr 0] [] (97, s.2, J, R) Q) (fun x => Q none (97, x, J, R)) x) : az_E az_F ex 3 50 2 [.ref 26, .int v1, .retAddr 0] [] (97, I, J, R) Q := by
  unfold rs_Pa_fill_2_b at h
  refine az_E.sn 2 (pc' := 5) (L' := [.ref 26, .int v1, .retAddr 0]) (S' := [.int (100 : Int32), .int v1]) (σ' := (97, I, J, R)) rfl ?_
  refine az_E.br (c := (100 : Int32) ≤ v1) (tt := 71) (ff := 8) (L' := [.ref 26, .int v1, .retAddr 0]) (S' := []) (σ' := (97, I, J, R)) rfl (fun hc_1 => ?_) (fun hc_1 => ?_)
  · rw [if_pos hc_1] at h
    have h := Option.some.inj h
    subst h
    exact az_E.ret (v := none) (σ' := (97, I, J, R)) rfl hQ
  · rw [if_neg hc_1] at h
    refine az_E.sn 1 (pc' := 9) (L' := [.ref 26, .int v1, .retAddr 0]) (S' := [.ref 26]) (σ' := (97, I, J, R)) rfl ?_
    refine az_E.ov (pc' := 12) (L' := [.ref 26, .int v1, .retAddr 0]) (S' := []) (σ' := (97, I, J, R)) (x := .ref 21) rfl (congrArg (fun z => some (va_rf z)) hR_26_2) ?_
    refine az_E.sn 4 (pc' := 20) (L' := [.ref 26, .int v1, .retAddr 0]) (S' := [.int v1, .ref (26 + 2)]) (σ' := (97, I, J, R)) rfl ?_
    by_cases hc_2 : v1 < 0 ∨ 100 ≤ v1.toNatClampNeg
    · rw [if_pos hc_2] at h; cases h
    · rw [if_neg hc_2] at h
      refine az_E.oi (o := az_ai az_F ex (97, I, J, R) (26 + 2) v1) (pc' := 21) (L' := [.ref 26, .int v1, .retAddr 0]) (S' := []) (σ' := (97, I, J, R)) (x := (I (26 + 2) v1.toNatClampNeg)) rfl (if_neg hc_2) ?_
      refine az_E.br (c := (I (26 + 2) v1.toNatClampNeg) = 0) (tt := 65) (ff := 24) (L' := [.ref 26, .int v1, .retAddr 0]) (S' := []) (σ' := (97, I, J, R)) rfl (fun hc_3 => ?_) (fun hc_3 => ?_)
      · rw [if_pos hc_3] at h
        refine az_E.sn 2 (pc' := 2) (L' := [.ref 26, .int (v1 + (1 : Int32)), .retAddr 0]) (S' := []) (σ' := (97, I, J, R)) rfl ?_
        have h := Option.some.inj h
        subst h
        exact az_E.forget (L := [.ref 26, .int (v1 + (1 : Int32)), .retAddr 0]) ⟨rfl, rfl, trivial, trivial⟩ hQ
      · rw [if_neg hc_3] at h
        refine az_E.sn 2 (pc' := 27) (L' := [.ref 26, .int v1, .retAddr 0]) (S' := [.int (10 : Int32), .int v1]) (σ' := (97, I, J, R)) rfl ?_
        have hd_4 : ¬ ((10 : Int32) = 0) := by decide
        refine az_E.dv (c := (10 : Int32) = 0) (pc' := 28) (L' := [.ref 26, .int v1, .retAddr 0]) (S' := [.int (v1 - v1 / (10 : Int32) * (10 : Int32))]) (σ' := (97, I, J, R)) rfl hd_4 ?_
        refine az_E.sn 5 (pc' := 35) (L' := [.ref 26, .int v1, .int (v1 - v1 / (10 : Int32) * (10 : Int32))]) (S' := [.ref 26, .int v1, .ref (26 + 1)]) (σ' := (97, I, J, R)) rfl ?_
        refine az_E.ov (pc' := 38) (L' := [.ref 26, .int v1, .int (v1 - v1 / (10 : Int32) * (10 : Int32))]) (S' := [.int v1, .ref (26 + 1)]) (σ' := (97, I, J, R)) (x := .ref 21) rfl (congrArg (fun z => some (va_rf z)) hR_26_2) ?_
        refine az_E.sn 3 (pc' := 42) (L' := [.ref 26, .int v1, .int (v1 - v1 / (10 : Int32) * (10 : Int32))]) (S' := [.int (10 : Int32), .int v1, .int (v1 - v1 / (10 : Int32) * (10 : Int32)), .ref 21, .int v1, .ref (26 + 1)]) (σ' := (97, I, J, R)) rfl ?_
        have hd_5 : ¬ ((10 : Int32) = 0) := by decide
        refine az_E.dv (c := (10 : Int32) = 0) (pc' := 43) (L' := [.ref 26, .int v1, .int (v1 - v1 / (10 : Int32) * (10 : Int32))]) (S' := [.int (v1 / (10 : Int32)), .int (v1 - v1 / (10 : Int32) * (10 : Int32)), .ref 21, .int v1, .ref (26 + 1)]) (σ' := (97, I, J, R)) rfl hd_5 ?_
        refine az_E.sn 10 (pc' := 61) (L' := [.ref 26, .int v1, .int (v1 - v1 / (10 : Int32) * (10 : Int32))]) (S' := [.int (v1 - v1 / (10 : Int32) * (10 : Int32)), .int (I 26 7), .int (I 26 6), .int (I 26 5), .int (I 26 4), .int ((v1 - v1 / (10 : Int32) * (10 : Int32)) - (v1 / (10 : Int32))), .ref 21, .int v1, .ref (26 + 1)]) (σ' := (97, I, J, R)) rfl ?_
        cases hx_8 : rs_La_minutes 21 I ((v1 - v1 / (10 : Int32) * (10 : Int32)) - (v1 / (10 : Int32))) (I 26 4) (I 26 5) (I 26 6) (I 26 7) (v1 - v1 / (10 : Int32) * (10 : Int32)) with
        | none => rw [hx_8] at h; cases h
        | some o =>
          rw [hx_8] at h
          obtain ⟨x_6, I_7⟩ := o
          dsimp only at h
          refine az_E.call (d := 2) (k' := 30) (vs := [.ref 21, .int ((v1 - v1 / (10 : Int32) * (10 : Int32)) - (v1 / (10 : Int32))), .int (I 26 4), .int (I 26 5), .int (I 26 6), .int (I 26 7), .int (v1 - v1 / (10 : Int32) * (10 : Int32))]) (pc' := 64) (S' := [.int v1, .ref (26 + 1)]) (Q1 := fun v s => v = some (.int x_6) ∧ s = (97, I_7, J, R)) rfl (az_E.deep (by omega) (re_La_minutes_21 (J := J) (R := R)  hx_8 ⟨rfl, rfl⟩)) (fun v s hq => ?_)
          obtain ⟨rfl, rfl⟩ := hq
          show az_E az_F ex 3 50 64 [.ref 26, .int v1, .int (v1 - v1 / (10 : Int32) * (10 : Int32))] [.int x_6, .int v1, .ref (26 + 1)] (97, I_7, J, R) _
          by_cases hc_9 : v1 < 0 ∨ 100 ≤ v1.toNatClampNeg
          · rw [if_pos hc_9] at h; cases h
          · rw [if_neg hc_9] at h
            refine az_E.o (o := az_si az_F (97, I_7, J, R) (26 + 1) v1 x_6) (pc' := 65) (L' := [.ref 26, .int v1, .int (v1 - v1 / (10 : Int32) * (10 : Int32))]) (S' := []) (x := (97, (az_u I_7 (26 + 1) v1.toNatClampNeg x_6), J, R)) rfl (if_neg hc_9) ?_
            refine az_E.sn 2 (pc' := 2) (L' := [.ref 26, .int (v1 + (1 : Int32)), .int (v1 - v1 / (10 : Int32) * (10 : Int32))]) (S' := []) (σ' := (97, (az_u I_7 (26 + 1) v1.toNatClampNeg x_6), J, R)) rfl ?_
            have h := Option.some.inj h
            subst h
            exact az_E.forget (L := [.ref 26, .int (v1 + (1 : Int32)), .retAddr 0]) ⟨rfl, rfl, trivial, trivial⟩ hQ
set_option maxRecDepth 100000 in
set_option maxHeartbeats 4000000 in
theorem re_Pa_fill_2_26_21 {ex : az_X} {I : Nat → Nat → Int32} {J : Nat → Nat → Int64} {R : Nat → Nat → Option Nat} {v1 : Int32} (hR_26_2 : R 26 2 = some 21) {x : (Nat → Nat → Int32)} (h : rs_Pa_fill_2 26 21 I v1 = some x) {Q : Option Value → az_S → Prop} (hQ : Q none (97, x, J, R)) : az_E az_F ex 3 50 2 [.ref 26, .int v1, .retAddr 0] [] (97, I, J, R) Q := by
  unfold rs_Pa_fill_2 at h
  refine az_lp_E (G := fun s => az_E az_F ex 3 50 2 [.ref 26, .int s.1, .retAddr 0] [] (97, s.2, J, R) Q) (H := fun x => Q none (97, x, J, R)) (fun s o hb ho => ?_) _ _ _ h hQ
  exact re_Pa_fill_2_b_26_21 hR_26_2 hb ho
set_option maxRecDepth 100000 in
set_option maxHeartbeats 4000000 in
theorem re_Pa_fill_26_21 {ex : az_X} {I : Nat → Nat → Int32} {J : Nat → Nat → Int64} {R : Nat → Nat → Option Nat} (hR_26_2 : R 26 2 = some 21) {o : (Nat → Nat → Int32)} (h : rs_Pa_fill 26 21 I = some o) {Q : Option Value → az_S → Prop} (hQ : Q none (97, o, J, R)) : az_E az_F ex 3 50 0 [.ref 26, .retAddr 0, .retAddr 0] [] (97, I, J, R) Q := by
  unfold rs_Pa_fill at h
  refine az_E.sn 2 (pc' := 2) (L' := [.ref 26, .int (0 : Int32), .retAddr 0]) (S' := []) (σ' := (97, I, J, R)) rfl ?_
  exact az_E.forget (L := [.ref 26, .int (0 : Int32), .retAddr 0]) ⟨rfl, rfl, trivial, trivial⟩ (re_Pa_fill_2_26_21 (I := I) (J := J) (R := R) hR_26_2 h hQ)
set_option maxRecDepth 100000 in
set_option maxHeartbeats 4000000 in
theorem re_Pa_become_26_21 {ex : az_X} {I : Nat → Nat → Int32} {J : Nat → Nat → Int64} {R : Nat → Nat → Option Nat} {a3 : Int32} {a4 : Int32} {a5 : Int32} {o : (Nat → Nat → Int32)} (h : rs_Pa_become 26 21 I a3 a4 a5 = some o) {Q : Option Value → az_S → Prop} (hQ : Q none (97, o, J, (az_u (az_u R 26 2 (some 21)) 26 3 (some 5)))) : az_E az_F ex 4 43 0 [.ref 26, .ref 21, .ref 4, .int a3, .int a4, .int a5] [] (97, I, J, R) Q := by
  unfold rs_Pa_become at h
  refine az_E.sn 23 (pc' := 43) (L' := [.ref 26, .ref 21, .ref 4, .int a3, .int a4, .int a5]) (S' := [.ref 5, .ref 26]) (σ' := (97, (az_u (az_u (az_u (az_u I 26 7 (I 4 10)) 26 4 a3) 26 5 a4) 26 6 a5), J, (az_u (az_u R 26 2 (some 21)) 26 3 (some 5)))) rfl ?_
  cases hx_2 : rs_Pa_lookForPairs 26 (az_u (az_u (az_u (az_u I 26 7 (I 4 10)) 26 4 a3) 26 5 a4) 26 6 a5) with
  | none => rw [hx_2] at h; cases h
  | some I_1 =>
    rw [hx_2] at h
    dsimp only at h
    refine az_E.call (d := 3) (k' := 48) (vs := [.ref 26, .ref 5]) (pc' := 46) (S' := []) (Q1 := fun v s => v = none ∧ s = (97, I_1, J, (az_u (az_u R 26 2 (some 21)) 26 3 (some 5)))) rfl (az_E.deep (by omega) (re_Pa_lookForPairs_26 (J := J) (R := (az_u (az_u R 26 2 (some 21)) 26 3 (some 5)))  hx_2 ⟨rfl, rfl⟩)) (fun v s hq => ?_)
    obtain ⟨rfl, rfl⟩ := hq
    show az_E az_F ex 4 43 46 [.ref 26, .ref 21, .ref 4, .int a3, .int a4, .int a5] [] (97, I_1, J, (az_u (az_u R 26 2 (some 21)) 26 3 (some 5))) _
    refine az_E.sn 1 (pc' := 47) (L' := [.ref 26, .ref 21, .ref 4, .int a3, .int a4, .int a5]) (S' := [.ref 26]) (σ' := (97, I_1, J, (az_u (az_u R 26 2 (some 21)) 26 3 (some 5)))) rfl ?_
    cases hx_4 : rs_Pa_fill 26 21 I_1 with
    | none => rw [hx_4] at h; cases h
    | some I_3 =>
      rw [hx_4] at h
      dsimp only at h
      refine az_E.call (d := 3) (k' := 50) (vs := [.ref 26]) (pc' := 50) (S' := []) (Q1 := fun v s => v = none ∧ s = (97, I_3, J, (az_u (az_u R 26 2 (some 21)) 26 3 (some 5)))) rfl (az_E.deep (by omega) (re_Pa_fill_26_21 (J := J) (R := (az_u (az_u R 26 2 (some 21)) 26 3 (some 5))) rfl hx_4 ⟨rfl, rfl⟩)) (fun v s hq => ?_)
      obtain ⟨rfl, rfl⟩ := hq
      show az_E az_F ex 4 43 50 [.ref 26, .ref 21, .ref 4, .int a3, .int a4, .int a5] [] (97, I_3, J, (az_u (az_u R 26 2 (some 21)) 26 3 (some 5))) _
      have h := Option.some.inj h
      subst h
      exact az_E.ret (v := none) (σ' := (97, I_3, J, (az_u (az_u R 26 2 (some 21)) 26 3 (some 5)))) rfl hQ
set_option maxRecDepth 100000 in
set_option maxHeartbeats 4000000 in
theorem re_X_setPace_21 {ex : az_X} {I : Nat → Nat → Int32} {J : Nat → Nat → Int64} {R : Nat → Nat → Option Nat} {a1 : Int32} (hR_3_2 : R 3 2 = some 21) {o : (Nat → Nat → Int32)} (h : rs_X_setPace 21 I a1 = some o) {Q : Option Value → az_S → Prop} (hQ : Q none (97, o, J, (az_u (az_u R 26 2 (some 21)) 26 3 (some 5)))) : az_E az_F ex 5 144 0 [.ref 3, .int a1] [] (97, I, J, R) Q := by
  unfold rs_X_setPace at h
  refine az_E.sn 3 (pc' := 5) (L' := [.ref 3, .int a1]) (S' := [.ref 3, .ref 26]) (σ' := (97, I, J, R)) rfl ?_
  refine az_E.ov (pc' := 8) (L' := [.ref 3, .int a1]) (S' := [.ref 26]) (σ' := (97, I, J, R)) (x := .ref 21) rfl (congrArg (fun z => some (va_rf z)) hR_3_2) ?_
  refine az_E.sn 6 (pc' := 20) (L' := [.ref 3, .int a1]) (S' := [.int a1, .ref 8, .ref 4, .ref 21, .ref 26]) (σ' := (97, I, J, R)) rfl ?_
  by_cases hc_1 : a1 < 0 ∨ 6 ≤ a1.toNatClampNeg
  · rw [if_pos hc_1] at h; cases h
  · rw [if_neg hc_1] at h
    refine az_E.oi (o := az_ai az_F ex (97, I, J, R) 8 a1) (pc' := 21) (L' := [.ref 3, .int a1]) (S' := [.ref 4, .ref 21, .ref 26]) (σ' := (97, I, J, R)) (x := (I 8 a1.toNatClampNeg)) rfl (if_neg hc_1) ?_
    refine az_E.sn 4 (pc' := 29) (L' := [.ref 3, .int a1]) (S' := [.int a1, .ref 9, .int (I 8 a1.toNatClampNeg), .ref 4, .ref 21, .ref 26]) (σ' := (97, I, J, R)) rfl ?_
    by_cases hc_2 : a1 < 0 ∨ 6 ≤ a1.toNatClampNeg
    · rw [if_pos hc_2] at h; cases h
    · rw [if_neg hc_2] at h
      refine az_E.oi (o := az_ai az_F ex (97, I, J, R) 9 a1) (pc' := 30) (L' := [.ref 3, .int a1]) (S' := [.int (I 8 a1.toNatClampNeg), .ref 4, .ref 21, .ref 26]) (σ' := (97, I, J, R)) (x := (I 9 a1.toNatClampNeg)) rfl (if_neg hc_2) ?_
      refine az_E.sn 4 (pc' := 38) (L' := [.ref 3, .int a1]) (S' := [.int a1, .ref 10, .int (I 9 a1.toNatClampNeg), .int (I 8 a1.toNatClampNeg), .ref 4, .ref 21, .ref 26]) (σ' := (97, I, J, R)) rfl ?_
      by_cases hc_3 : a1 < 0 ∨ 6 ≤ a1.toNatClampNeg
      · rw [if_pos hc_3] at h; cases h
      · rw [if_neg hc_3] at h
        refine az_E.oi (o := az_ai az_F ex (97, I, J, R) 10 a1) (pc' := 39) (L' := [.ref 3, .int a1]) (S' := [.int (I 9 a1.toNatClampNeg), .int (I 8 a1.toNatClampNeg), .ref 4, .ref 21, .ref 26]) (σ' := (97, I, J, R)) (x := (I 10 a1.toNatClampNeg)) rfl (if_neg hc_3) ?_
        cases hx_5 : rs_Pa_become 26 21 I (I 8 a1.toNatClampNeg) (I 9 a1.toNatClampNeg) (I 10 a1.toNatClampNeg) with
        | none => rw [hx_5] at h; cases h
        | some I_4 =>
          rw [hx_5] at h
          dsimp only at h
          refine az_E.call (d := 4) (k' := 43) (vs := [.ref 26, .ref 21, .ref 4, .int (I 8 a1.toNatClampNeg), .int (I 9 a1.toNatClampNeg), .int (I 10 a1.toNatClampNeg)]) (pc' := 42) (S' := []) (Q1 := fun v s => v = none ∧ s = (97, I_4, J, (az_u (az_u R 26 2 (some 21)) 26 3 (some 5)))) rfl (az_E.deep (by omega) (re_Pa_become_26_21 (J := J) (R := R)  hx_5 ⟨rfl, rfl⟩)) (fun v s hq => ?_)
          obtain ⟨rfl, rfl⟩ := hq
          show az_E az_F ex 5 144 42 [.ref 3, .int a1] [] (97, I_4, J, (az_u (az_u R 26 2 (some 21)) 26 3 (some 5))) _
          have h := Option.some.inj h
          subst h
          exact az_E.ret (v := none) (σ' := (97, I_4, J, (az_u (az_u R 26 2 (some 21)) 26 3 (some 5)))) rfl hQ
set_option maxRecDepth 100000 in
set_option maxHeartbeats 4000000 in
theorem re_X_arm_21_16 {ex : az_X} {I : Nat → Nat → Int32} {J : Nat → Nat → Int64} {R : Nat → Nat → Option Nat} {a1 : Int32} (hR_3_2 : R 3 2 = some 21) (hR_3_3 : R 3 3 = some 16) {o : Int32 × (Nat → Nat → Int32)} (h : rs_X_arm 16 21 I a1 = some o) {Q : Option Value → az_S → Prop} (hQ : ∀ R' : Nat → Nat → Option Nat, R' 3 2 = some 21 → R' 3 3 = some 16 → Q (some (.int o.1)) (97, o.2, J, R')) : az_E az_F ex 6 92 0 [.ref 3, .int a1] [] (97, I, J, R) Q := by
  unfold rs_X_arm at h
  refine az_E.sn 2 (pc' := 2) (L' := [.ref 3, .int a1]) (S' := [.int a1, .ref 3]) (σ' := (97, I, J, R)) rfl ?_
  refine az_E.call (d := 5) (k' := 139) (vs := [.ref 3, .int a1]) (pc' := 5) (S' := []) rfl ?_ (fun _ _ hq => hq)
  show az_E az_F ex 5 139 0 [.ref 3, .int a1] [] (97, I, J, R) _
  refine az_E.sn 1 (pc' := 1) (L' := [.ref 3, .int a1]) (S' := [.int a1]) (σ' := (97, I, J, R)) rfl ?_
  refine az_E.br (c := a1 < 0) (tt := 33) (ff := 4) (L' := [.ref 3, .int a1]) (S' := []) (σ' := (97, I, J, R)) rfl (fun hc_1 => ?_) (fun hc_1 => ?_)
  · rw [if_pos hc_1] at h
    refine az_E.sn 1 (pc' := 34) (L' := [.ref 3, .int a1]) (S' := [.int (0 : Int32)]) (σ' := (97, I, J, R)) rfl ?_
    refine az_E.ret (v := some (.int (0 : Int32))) (σ' := (97, I, J, R)) rfl ?_
    show az_E az_F ex 6 92 5 [.ref 3, .int a1] [.int (0 : Int32)] (97, I, J, R) _
    refine az_E.br (c := (0 : Int32) = 0) (tt := 8) (ff := 10) (L' := [.ref 3, .int a1]) (S' := []) (σ' := (97, I, J, R)) rfl (fun _ => ?_) (fun hn => absurd (by decide) hn)
    refine az_E.sn 1 (pc' := 9) (L' := [.ref 3, .int a1]) (S' := [.int (-1 : Int32)]) (σ' := (97, I, J, R)) rfl ?_
    have h := Option.some.inj h
    subst h
    exact az_E.ret (v := some (.int (-1 : Int32))) (σ' := (97, I, J, R)) rfl (hQ _ hR_3_2 hR_3_3)
  · rw [if_neg hc_1] at h
    refine az_E.sn 2 (pc' := 7) (L' := [.ref 3, .int a1]) (S' := [.int (10 : Int32), .int a1]) (σ' := (97, I, J, R)) rfl ?_
    have hd_2 : ¬ ((10 : Int32) = 0) := by decide
    refine az_E.dv (c := (10 : Int32) = 0) (pc' := 8) (L' := [.ref 3, .int a1]) (S' := [.int (a1 / (10 : Int32))]) (σ' := (97, I, J, R)) rfl hd_2 ?_
    refine az_E.sn 3 (pc' := 15) (L' := [.ref 3, .int a1]) (S' := [.int (I 4 3), .int (a1 / (10 : Int32))]) (σ' := (97, I, J, R)) rfl ?_
    refine az_E.br (c := (I 4 3) ≤ (a1 / (10 : Int32))) (tt := 33) (ff := 18) (L' := [.ref 3, .int a1]) (S' := []) (σ' := (97, I, J, R)) rfl (fun hc_3 => ?_) (fun hc_3 => ?_)
    · rw [if_pos hc_3] at h
      refine az_E.sn 1 (pc' := 34) (L' := [.ref 3, .int a1]) (S' := [.int (0 : Int32)]) (σ' := (97, I, J, R)) rfl ?_
      refine az_E.ret (v := some (.int (0 : Int32))) (σ' := (97, I, J, R)) rfl ?_
      show az_E az_F ex 6 92 5 [.ref 3, .int a1] [.int (0 : Int32)] (97, I, J, R) _
      refine az_E.br (c := (0 : Int32) = 0) (tt := 8) (ff := 10) (L' := [.ref 3, .int a1]) (S' := []) (σ' := (97, I, J, R)) rfl (fun _ => ?_) (fun hn => absurd (by decide) hn)
      refine az_E.sn 1 (pc' := 9) (L' := [.ref 3, .int a1]) (S' := [.int (-1 : Int32)]) (σ' := (97, I, J, R)) rfl ?_
      have h := Option.some.inj h
      subst h
      exact az_E.ret (v := some (.int (-1 : Int32))) (σ' := (97, I, J, R)) rfl (hQ _ hR_3_2 hR_3_3)
    · rw [if_neg hc_3] at h
      refine az_E.sn 3 (pc' := 22) (L' := [.ref 3, .int a1]) (S' := [.int (10 : Int32), .int a1, .ref 3]) (σ' := (97, I, J, R)) rfl ?_
      have hd_4 : ¬ ((10 : Int32) = 0) := by decide
      refine az_E.dv (c := (10 : Int32) = 0) (pc' := 23) (L' := [.ref 3, .int a1]) (S' := [.int (a1 - a1 / (10 : Int32) * (10 : Int32)), .ref 3]) (σ' := (97, I, J, R)) rfl hd_4 ?_
      refine az_E.call (d := 4) (k' := 138) (vs := [.ref 3, .int (a1 - a1 / (10 : Int32) * (10 : Int32))]) (pc' := 26) (S' := []) rfl ?_ (fun _ _ hq => hq)
      show az_E az_F ex 4 138 0 [.ref 3, .int (a1 - a1 / (10 : Int32) * (10 : Int32))] [] (97, I, J, R) _
      refine az_E.sn 7 (pc' := 11) (L' := [.ref 3, .int (a1 - a1 / (10 : Int32) * (10 : Int32))]) (S' := [.int ((I 4 9) - (1 : Int32)), .int (0 : Int32), .int (a1 - a1 / (10 : Int32) * (10 : Int32))]) (σ' := (97, I, J, R)) rfl ?_
      refine az_E.call (d := 3) (k' := 131) (vs := [.int (a1 - a1 / (10 : Int32) * (10 : Int32)), .int (0 : Int32), .int ((I 4 9) - (1 : Int32))]) (pc' := 14) (S' := []) rfl ?_ (fun _ _ hq => hq)
      show az_E az_F ex 3 131 0 [.int (a1 - a1 / (10 : Int32) * (10 : Int32)), .int (0 : Int32), .int ((I 4 9) - (1 : Int32))] [] (97, I, J, R) _
      refine az_E.sn 2 (pc' := 2) (L' := [.int (a1 - a1 / (10 : Int32) * (10 : Int32)), .int (0 : Int32), .int ((I 4 9) - (1 : Int32))]) (S' := [.int (0 : Int32), .int (a1 - a1 / (10 : Int32) * (10 : Int32))]) (σ' := (97, I, J, R)) rfl ?_
      refine az_E.br (c := (a1 - a1 / (10 : Int32) * (10 : Int32)) < (0 : Int32)) (tt := 14) (ff := 5) (L' := [.int (a1 - a1 / (10 : Int32) * (10 : Int32)), .int (0 : Int32), .int ((I 4 9) - (1 : Int32))]) (S' := []) (σ' := (97, I, J, R)) rfl (fun hc_5 => ?_) (fun hc_5 => ?_)
      · rw [if_pos hc_5] at h
        refine az_E.sn 1 (pc' := 15) (L' := [.int (a1 - a1 / (10 : Int32) * (10 : Int32)), .int (0 : Int32), .int ((I 4 9) - (1 : Int32))]) (S' := [.int (0 : Int32)]) (σ' := (97, I, J, R)) rfl ?_
        refine az_E.ret (v := some (.int (0 : Int32))) (σ' := (97, I, J, R)) rfl ?_
        show az_E az_F ex 4 138 14 [.ref 3, .int (a1 - a1 / (10 : Int32) * (10 : Int32))] [.int (0 : Int32)] (97, I, J, R) _
        refine az_E.ret (v := some (.int (0 : Int32))) (σ' := (97, I, J, R)) rfl ?_
        show az_E az_F ex 5 139 26 [.ref 3, .int a1] [.int (0 : Int32)] (97, I, J, R) _
        refine az_E.br (c := (0 : Int32) = 0) (tt := 33) (ff := 29) (L' := [.ref 3, .int a1]) (S' := []) (σ' := (97, I, J, R)) rfl (fun _ => ?_) (fun hn => absurd (by decide) hn)
        refine az_E.sn 1 (pc' := 34) (L' := [.ref 3, .int a1]) (S' := [.int (0 : Int32)]) (σ' := (97, I, J, R)) rfl ?_
        refine az_E.ret (v := some (.int (0 : Int32))) (σ' := (97, I, J, R)) rfl ?_
        show az_E az_F ex 6 92 5 [.ref 3, .int a1] [.int (0 : Int32)] (97, I, J, R) _
        refine az_E.br (c := (0 : Int32) = 0) (tt := 8) (ff := 10) (L' := [.ref 3, .int a1]) (S' := []) (σ' := (97, I, J, R)) rfl (fun _ => ?_) (fun hn => absurd (by decide) hn)
        refine az_E.sn 1 (pc' := 9) (L' := [.ref 3, .int a1]) (S' := [.int (-1 : Int32)]) (σ' := (97, I, J, R)) rfl ?_
        have h := Option.some.inj h
        subst h
        exact az_E.ret (v := some (.int (-1 : Int32))) (σ' := (97, I, J, R)) rfl (hQ _ hR_3_2 hR_3_3)
      · rw [if_neg hc_5] at h
        refine az_E.sn 2 (pc' := 7) (L' := [.int (a1 - a1 / (10 : Int32) * (10 : Int32)), .int (0 : Int32), .int ((I 4 9) - (1 : Int32))]) (S' := [.int ((I 4 9) - (1 : Int32)), .int (a1 - a1 / (10 : Int32) * (10 : Int32))]) (σ' := (97, I, J, R)) rfl ?_
        refine az_E.br (c := ((I 4 9) - (1 : Int32)) < (a1 - a1 / (10 : Int32) * (10 : Int32))) (tt := 14) (ff := 10) (L' := [.int (a1 - a1 / (10 : Int32) * (10 : Int32)), .int (0 : Int32), .int ((I 4 9) - (1 : Int32))]) (S' := []) (σ' := (97, I, J, R)) rfl (fun hc_6 => ?_) (fun hc_6 => ?_)
        · rw [if_pos hc_6] at h
          refine az_E.sn 1 (pc' := 15) (L' := [.int (a1 - a1 / (10 : Int32) * (10 : Int32)), .int (0 : Int32), .int ((I 4 9) - (1 : Int32))]) (S' := [.int (0 : Int32)]) (σ' := (97, I, J, R)) rfl ?_
          refine az_E.ret (v := some (.int (0 : Int32))) (σ' := (97, I, J, R)) rfl ?_
          show az_E az_F ex 4 138 14 [.ref 3, .int (a1 - a1 / (10 : Int32) * (10 : Int32))] [.int (0 : Int32)] (97, I, J, R) _
          refine az_E.ret (v := some (.int (0 : Int32))) (σ' := (97, I, J, R)) rfl ?_
          show az_E az_F ex 5 139 26 [.ref 3, .int a1] [.int (0 : Int32)] (97, I, J, R) _
          refine az_E.br (c := (0 : Int32) = 0) (tt := 33) (ff := 29) (L' := [.ref 3, .int a1]) (S' := []) (σ' := (97, I, J, R)) rfl (fun _ => ?_) (fun hn => absurd (by decide) hn)
          refine az_E.sn 1 (pc' := 34) (L' := [.ref 3, .int a1]) (S' := [.int (0 : Int32)]) (σ' := (97, I, J, R)) rfl ?_
          refine az_E.ret (v := some (.int (0 : Int32))) (σ' := (97, I, J, R)) rfl ?_
          show az_E az_F ex 6 92 5 [.ref 3, .int a1] [.int (0 : Int32)] (97, I, J, R) _
          refine az_E.br (c := (0 : Int32) = 0) (tt := 8) (ff := 10) (L' := [.ref 3, .int a1]) (S' := []) (σ' := (97, I, J, R)) rfl (fun _ => ?_) (fun hn => absurd (by decide) hn)
          refine az_E.sn 1 (pc' := 9) (L' := [.ref 3, .int a1]) (S' := [.int (-1 : Int32)]) (σ' := (97, I, J, R)) rfl ?_
          have h := Option.some.inj h
          subst h
          exact az_E.ret (v := some (.int (-1 : Int32))) (σ' := (97, I, J, R)) rfl (hQ _ hR_3_2 hR_3_3)
        · rw [if_neg hc_6] at h
          refine az_E.sn 2 (pc' := 15) (L' := [.int (a1 - a1 / (10 : Int32) * (10 : Int32)), .int (0 : Int32), .int ((I 4 9) - (1 : Int32))]) (S' := [.int (1 : Int32)]) (σ' := (97, I, J, R)) rfl ?_
          refine az_E.ret (v := some (.int (1 : Int32))) (σ' := (97, I, J, R)) rfl ?_
          show az_E az_F ex 4 138 14 [.ref 3, .int (a1 - a1 / (10 : Int32) * (10 : Int32))] [.int (1 : Int32)] (97, I, J, R) _
          refine az_E.ret (v := some (.int (1 : Int32))) (σ' := (97, I, J, R)) rfl ?_
          show az_E az_F ex 5 139 26 [.ref 3, .int a1] [.int (1 : Int32)] (97, I, J, R) _
          refine az_E.br (c := (1 : Int32) = 0) (tt := 33) (ff := 29) (L' := [.ref 3, .int a1]) (S' := []) (σ' := (97, I, J, R)) rfl (fun hn => absurd hn (by decide)) (fun _ => ?_)
          refine az_E.sn 2 (pc' := 34) (L' := [.ref 3, .int a1]) (S' := [.int (1 : Int32)]) (σ' := (97, I, J, R)) rfl ?_
          refine az_E.ret (v := some (.int (1 : Int32))) (σ' := (97, I, J, R)) rfl ?_
          show az_E az_F ex 6 92 5 [.ref 3, .int a1] [.int (1 : Int32)] (97, I, J, R) _
          refine az_E.br (c := (1 : Int32) = 0) (tt := 8) (ff := 10) (L' := [.ref 3, .int a1]) (S' := []) (σ' := (97, I, J, R)) rfl (fun hn => absurd hn (by decide)) (fun _ => ?_)
          refine az_E.sn 3 (pc' := 14) (L' := [.ref 3, .int a1]) (S' := [.int (10 : Int32), .int a1, .ref 3]) (σ' := (97, I, J, R)) rfl ?_
          have hd_7 : ¬ ((10 : Int32) = 0) := by decide
          refine az_E.dv (c := (10 : Int32) = 0) (pc' := 15) (L' := [.ref 3, .int a1]) (S' := [.int (a1 - a1 / (10 : Int32) * (10 : Int32)), .ref 3]) (σ' := (97, I, J, R)) rfl hd_7 ?_
          cases hx_9 : rs_X_setPace 21 I (a1 - a1 / (10 : Int32) * (10 : Int32)) with
          | none => rw [hx_9] at h; cases h
          | some I_8 =>
            rw [hx_9] at h
            dsimp only at h
            refine az_E.call (d := 5) (k' := 144) (vs := [.ref 3, .int (a1 - a1 / (10 : Int32) * (10 : Int32))]) (pc' := 18) (S' := []) (Q1 := fun v s => v = none ∧ s = (97, I_8, J, (az_u (az_u R 26 2 (some 21)) 26 3 (some 5)))) rfl (az_E.deep (by omega) (re_X_setPace_21 (J := J) (R := R) hR_3_2 hx_9 ⟨rfl, rfl⟩)) (fun v s hq => ?_)
            obtain ⟨rfl, rfl⟩ := hq
            show az_E az_F ex 6 92 18 [.ref 3, .int a1] [] (97, I_8, J, (az_u (az_u R 26 2 (some 21)) 26 3 (some 5))) _
            refine az_E.sn 3 (pc' := 22) (L' := [.ref 3, .int a1]) (S' := [.int (10 : Int32), .int a1, .ref 3]) (σ' := (97, I_8, J, (az_u (az_u R 26 2 (some 21)) 26 3 (some 5)))) rfl ?_
            have hd_10 : ¬ ((10 : Int32) = 0) := by decide
            refine az_E.dv (c := (10 : Int32) = 0) (pc' := 23) (L' := [.ref 3, .int a1]) (S' := [.int (a1 / (10 : Int32)), .ref 3]) (σ' := (97, I_8, J, (az_u (az_u R 26 2 (some 21)) 26 3 (some 5)))) rfl hd_10 ?_
            cases hx_13 : rs_X_armAt I_8 (a1 / (10 : Int32)) with
            | none => rw [hx_13] at h; cases h
            | some o =>
              rw [hx_13] at h
              obtain ⟨x_11, I_12⟩ := o
              dsimp only at h
              refine az_E.call (d := 5) (k' := 146) (vs := [.ref 3, .int (a1 / (10 : Int32))]) (pc' := 26) (S' := []) (Q1 := fun v s => v = some (.int x_11) ∧ s = (97, I_12, J, (az_u (az_u R 26 2 (some 21)) 26 3 (some 5)))) rfl (az_E.deep (by omega) (re_X_armAt_5 (J := J) (R := (az_u (az_u R 26 2 (some 21)) 26 3 (some 5))) rfl hx_13 ⟨rfl, rfl⟩)) (fun v s hq => ?_)
              obtain ⟨rfl, rfl⟩ := hq
              show az_E az_F ex 6 92 26 [.ref 3, .int a1] [.int x_11] (97, I_12, J, (az_u (az_u R 26 2 (some 21)) 26 3 (some 5))) _
              have h := Option.some.inj h
              subst h
              exact az_E.ret (v := some (.int x_11)) (σ' := (97, I_12, J, (az_u (az_u R 26 2 (some 21)) 26 3 (some 5)))) rfl (hQ _ hR_3_2 hR_3_3)
set_option maxRecDepth 100000 in
set_option maxHeartbeats 4000000 in
theorem re_X_way_21_16 {ex : az_X} {I : Nat → Nat → Int32} {J : Nat → Nat → Int64} {R : Nat → Nat → Option Nat} {a1 : Int32} {a2 : Int32} {a3 : Int32} (hR_3_2 : R 3 2 = some 21) (hR_3_3 : R 3 3 = some 16) {o : Int32 × (Nat → Nat → Int32)} (h : rs_X_way 16 21 I a1 a2 a3 = some o) {Q : Option Value → az_S → Prop} (hQ : ∀ R' : Nat → Nat → Option Nat, R' 3 2 = some 21 → R' 3 3 = some 16 → Q (some (.int o.1)) (97, o.2, J, R')) : az_E az_F ex 6 93 0 [.ref 3, .int a1, .int a2, .int a3] [] (97, I, J, R) Q := by
  unfold rs_X_way at h
  refine az_E.sn 1 (pc' := 1) (L' := [.ref 3, .int a1, .int a2, .int a3]) (S' := [.int a1]) (σ' := (97, I, J, R)) rfl ?_
  cases hx_2 : rs_X_isFromTo a1 with
  | none => rw [hx_2] at h; cases h
  | some x_1 =>
    rw [hx_2] at h
    dsimp only at h
    refine az_E.call (d := 5) (k' := 134) (vs := [.int a1]) (pc' := 4) (S' := []) (Q1 := fun v s => v = some (.int x_1) ∧ s = (97, I, J, R)) rfl (az_E.deep (by omega) (re_X_isFromTo (J := J) (R := R)  hx_2 ⟨rfl, rfl⟩)) (fun v s hq => ?_)
    obtain ⟨rfl, rfl⟩ := hq
    show az_E az_F ex 6 93 4 [.ref 3, .int a1, .int a2, .int a3] [.int x_1] (97, I, J, R) _
    refine az_E.br (c := x_1 = 0) (tt := 21) (ff := 7) (L' := [.ref 3, .int a1, .int a2, .int a3]) (S' := []) (σ' := (97, I, J, R)) rfl (fun hc_3 => ?_) (fun hc_3 => ?_)
    · rw [if_pos hc_3] at h
      refine az_E.sn 1 (pc' := 22) (L' := [.ref 3, .int a1, .int a2, .int a3]) (S' := [.int (-1 : Int32)]) (σ' := (97, I, J, R)) rfl ?_
      have h := Option.some.inj h
      subst h
      exact az_E.ret (v := some (.int (-1 : Int32))) (σ' := (97, I, J, R)) rfl (hQ _ hR_3_2 hR_3_3)
    · rw [if_neg hc_3] at h
      refine az_E.sn 2 (pc' := 9) (L' := [.ref 3, .int a1, .int a2, .int a3]) (S' := [.int a2, .ref 3]) (σ' := (97, I, J, R)) rfl ?_
      refine az_E.call (d := 5) (k' := 138) (vs := [.ref 3, .int a2]) (pc' := 12) (S' := []) rfl ?_ (fun _ _ hq => hq)
      show az_E az_F ex 5 138 0 [.ref 3, .int a2] [] (97, I, J, R) _
      refine az_E.sn 7 (pc' := 11) (L' := [.ref 3, .int a2]) (S' := [.int ((I 4 9) - (1 : Int32)), .int (0 : Int32), .int a2]) (σ' := (97, I, J, R)) rfl ?_
      refine az_E.call (d := 4) (k' := 131) (vs := [.int a2, .int (0 : Int32), .int ((I 4 9) - (1 : Int32))]) (pc' := 14) (S' := []) rfl ?_ (fun _ _ hq => hq)
      show az_E az_F ex 4 131 0 [.int a2, .int (0 : Int32), .int ((I 4 9) - (1 : Int32))] [] (97, I, J, R) _
      refine az_E.sn 2 (pc' := 2) (L' := [.int a2, .int (0 : Int32), .int ((I 4 9) - (1 : Int32))]) (S' := [.int (0 : Int32), .int a2]) (σ' := (97, I, J, R)) rfl ?_
      refine az_E.br (c := a2 < (0 : Int32)) (tt := 14) (ff := 5) (L' := [.int a2, .int (0 : Int32), .int ((I 4 9) - (1 : Int32))]) (S' := []) (σ' := (97, I, J, R)) rfl (fun hc_4 => ?_) (fun hc_4 => ?_)
      · rw [if_pos hc_4] at h
        refine az_E.sn 1 (pc' := 15) (L' := [.int a2, .int (0 : Int32), .int ((I 4 9) - (1 : Int32))]) (S' := [.int (0 : Int32)]) (σ' := (97, I, J, R)) rfl ?_
        refine az_E.ret (v := some (.int (0 : Int32))) (σ' := (97, I, J, R)) rfl ?_
        show az_E az_F ex 5 138 14 [.ref 3, .int a2] [.int (0 : Int32)] (97, I, J, R) _
        refine az_E.ret (v := some (.int (0 : Int32))) (σ' := (97, I, J, R)) rfl ?_
        show az_E az_F ex 6 93 12 [.ref 3, .int a1, .int a2, .int a3] [.int (0 : Int32)] (97, I, J, R) _
        refine az_E.br (c := (0 : Int32) = 0) (tt := 21) (ff := 15) (L' := [.ref 3, .int a1, .int a2, .int a3]) (S' := []) (σ' := (97, I, J, R)) rfl (fun _ => ?_) (fun hn => absurd (by decide) hn)
        refine az_E.sn 1 (pc' := 22) (L' := [.ref 3, .int a1, .int a2, .int a3]) (S' := [.int (-1 : Int32)]) (σ' := (97, I, J, R)) rfl ?_
        have h := Option.some.inj h
        subst h
        exact az_E.ret (v := some (.int (-1 : Int32))) (σ' := (97, I, J, R)) rfl (hQ _ hR_3_2 hR_3_3)
      · rw [if_neg hc_4] at h
        refine az_E.sn 2 (pc' := 7) (L' := [.int a2, .int (0 : Int32), .int ((I 4 9) - (1 : Int32))]) (S' := [.int ((I 4 9) - (1 : Int32)), .int a2]) (σ' := (97, I, J, R)) rfl ?_
        refine az_E.br (c := ((I 4 9) - (1 : Int32)) < a2) (tt := 14) (ff := 10) (L' := [.int a2, .int (0 : Int32), .int ((I 4 9) - (1 : Int32))]) (S' := []) (σ' := (97, I, J, R)) rfl (fun hc_5 => ?_) (fun hc_5 => ?_)
        · rw [if_pos hc_5] at h
          refine az_E.sn 1 (pc' := 15) (L' := [.int a2, .int (0 : Int32), .int ((I 4 9) - (1 : Int32))]) (S' := [.int (0 : Int32)]) (σ' := (97, I, J, R)) rfl ?_
          refine az_E.ret (v := some (.int (0 : Int32))) (σ' := (97, I, J, R)) rfl ?_
          show az_E az_F ex 5 138 14 [.ref 3, .int a2] [.int (0 : Int32)] (97, I, J, R) _
          refine az_E.ret (v := some (.int (0 : Int32))) (σ' := (97, I, J, R)) rfl ?_
          show az_E az_F ex 6 93 12 [.ref 3, .int a1, .int a2, .int a3] [.int (0 : Int32)] (97, I, J, R) _
          refine az_E.br (c := (0 : Int32) = 0) (tt := 21) (ff := 15) (L' := [.ref 3, .int a1, .int a2, .int a3]) (S' := []) (σ' := (97, I, J, R)) rfl (fun _ => ?_) (fun hn => absurd (by decide) hn)
          refine az_E.sn 1 (pc' := 22) (L' := [.ref 3, .int a1, .int a2, .int a3]) (S' := [.int (-1 : Int32)]) (σ' := (97, I, J, R)) rfl ?_
          have h := Option.some.inj h
          subst h
          exact az_E.ret (v := some (.int (-1 : Int32))) (σ' := (97, I, J, R)) rfl (hQ _ hR_3_2 hR_3_3)
        · rw [if_neg hc_5] at h
          refine az_E.sn 2 (pc' := 15) (L' := [.int a2, .int (0 : Int32), .int ((I 4 9) - (1 : Int32))]) (S' := [.int (1 : Int32)]) (σ' := (97, I, J, R)) rfl ?_
          refine az_E.ret (v := some (.int (1 : Int32))) (σ' := (97, I, J, R)) rfl ?_
          show az_E az_F ex 5 138 14 [.ref 3, .int a2] [.int (1 : Int32)] (97, I, J, R) _
          refine az_E.ret (v := some (.int (1 : Int32))) (σ' := (97, I, J, R)) rfl ?_
          show az_E az_F ex 6 93 12 [.ref 3, .int a1, .int a2, .int a3] [.int (1 : Int32)] (97, I, J, R) _
          refine az_E.br (c := (1 : Int32) = 0) (tt := 21) (ff := 15) (L' := [.ref 3, .int a1, .int a2, .int a3]) (S' := []) (σ' := (97, I, J, R)) rfl (fun hn => absurd hn (by decide)) (fun _ => ?_)
          refine az_E.sn 2 (pc' := 18) (L' := [.ref 3, .int a1, .int a2, .int a3]) (S' := [.int (-3 : Int32), .int a3]) (σ' := (97, I, J, R)) rfl ?_
          refine az_E.br (c := (-3 : Int32) ≤ a3) (tt := 23) (ff := 21) (L' := [.ref 3, .int a1, .int a2, .int a3]) (S' := []) (σ' := (97, I, J, R)) rfl (fun hc_6 => ?_) (fun hc_6 => ?_)
          · rw [if_pos hc_6] at h
            refine az_E.sn 2 (pc' := 25) (L' := [.ref 3, .int a1, .int a2, .int a3]) (S' := [.int a2, .ref 3]) (σ' := (97, I, J, R)) rfl ?_
            cases hx_8 : rs_X_setPace 21 I a2 with
            | none => rw [hx_8] at h; cases h
            | some I_7 =>
              rw [hx_8] at h
              dsimp only at h
              refine az_E.call (d := 5) (k' := 144) (vs := [.ref 3, .int a2]) (pc' := 28) (S' := []) (Q1 := fun v s => v = none ∧ s = (97, I_7, J, (az_u (az_u R 26 2 (some 21)) 26 3 (some 5)))) rfl (az_E.deep (by omega) (re_X_setPace_21 (J := J) (R := R) hR_3_2 hx_8 ⟨rfl, rfl⟩)) (fun v s hq => ?_)
              obtain ⟨rfl, rfl⟩ := hq
              show az_E az_F ex 6 93 28 [.ref 3, .int a1, .int a2, .int a3] [] (97, I_7, J, (az_u (az_u R 26 2 (some 21)) 26 3 (some 5))) _
              refine az_E.sn 5 (pc' := 37) (L' := [.ref 3, .int a1, .int a2, .int a3]) (S' := [.int a1, .ref 26, .ref 32]) (σ' := (97, I_7, J, (az_u (az_u R 26 2 (some 21)) 26 3 (some 5)))) rfl ?_
              refine az_E.call (d := 5) (k' := 135) (vs := [.int a1]) (pc' := 40) (S' := [.ref 26, .ref 32]) rfl ?_ (fun _ _ hq => hq)
              show az_E az_F ex 5 135 0 [.int a1] [] (97, I_7, J, (az_u (az_u R 26 2 (some 21)) 26 3 (some 5))) _
              refine az_E.sn 2 (pc' := 4) (L' := [.int a1]) (S' := [.int (1000 : Int32), .int a1]) (σ' := (97, I_7, J, (az_u (az_u R 26 2 (some 21)) 26 3 (some 5)))) rfl ?_
              have hd_9 : ¬ ((1000 : Int32) = 0) := by decide
              refine az_E.dv (c := (1000 : Int32) = 0) (pc' := 5) (L' := [.int a1]) (S' := [.int (a1 / (1000 : Int32))]) (σ' := (97, I_7, J, (az_u (az_u R 26 2 (some 21)) 26 3 (some 5)))) rfl hd_9 ?_
              refine az_E.ret (v := some (.int (a1 / (1000 : Int32)))) (σ' := (97, I_7, J, (az_u (az_u R 26 2 (some 21)) 26 3 (some 5)))) rfl ?_
              show az_E az_F ex 6 93 40 [.ref 3, .int a1, .int a2, .int a3] [.int (a1 / (1000 : Int32)), .ref 26, .ref 32] (97, I_7, J, (az_u (az_u R 26 2 (some 21)) 26 3 (some 5))) _
              refine az_E.sn 1 (pc' := 41) (L' := [.ref 3, .int a1, .int a2, .int a3]) (S' := [.int a1, .int (a1 / (1000 : Int32)), .ref 26, .ref 32]) (σ' := (97, I_7, J, (az_u (az_u R 26 2 (some 21)) 26 3 (some 5)))) rfl ?_
              refine az_E.call (d := 5) (k' := 136) (vs := [.int a1]) (pc' := 44) (S' := [.int (a1 / (1000 : Int32)), .ref 26, .ref 32]) rfl ?_ (fun _ _ hq => hq)
              show az_E az_F ex 5 136 0 [.int a1] [] (97, I_7, J, (az_u (az_u R 26 2 (some 21)) 26 3 (some 5))) _
              refine az_E.sn 2 (pc' := 4) (L' := [.int a1]) (S' := [.int (1000 : Int32), .int a1]) (σ' := (97, I_7, J, (az_u (az_u R 26 2 (some 21)) 26 3 (some 5)))) rfl ?_
              have hd_10 : ¬ ((1000 : Int32) = 0) := by decide
              refine az_E.dv (c := (1000 : Int32) = 0) (pc' := 5) (L' := [.int a1]) (S' := [.int (a1 - a1 / (1000 : Int32) * (1000 : Int32))]) (σ' := (97, I_7, J, (az_u (az_u R 26 2 (some 21)) 26 3 (some 5)))) rfl hd_10 ?_
              refine az_E.ret (v := some (.int (a1 - a1 / (1000 : Int32) * (1000 : Int32)))) (σ' := (97, I_7, J, (az_u (az_u R 26 2 (some 21)) 26 3 (some 5)))) rfl ?_
              show az_E az_F ex 6 93 44 [.ref 3, .int a1, .int a2, .int a3] [.int (a1 - a1 / (1000 : Int32) * (1000 : Int32)), .int (a1 / (1000 : Int32)), .ref 26, .ref 32] (97, I_7, J, (az_u (az_u R 26 2 (some 21)) 26 3 (some 5))) _
              cases hx_12 : rs_Fi_findWay 26 I_7 (a1 / (1000 : Int32)) (a1 - a1 / (1000 : Int32) * (1000 : Int32)) with
              | none => rw [hx_12] at h; cases h
              | some I_11 =>
                rw [hx_12] at h
                dsimp only at h
                refine az_E.call (d := 5) (k' := 20) (vs := [.ref 32, .ref 26, .int (a1 / (1000 : Int32)), .int (a1 - a1 / (1000 : Int32) * (1000 : Int32))]) (pc' := 47) (S' := []) (Q1 := fun v s => v = none ∧ s = (97, I_11, J, (az_u (az_u R 26 2 (some 21)) 26 3 (some 5)))) rfl (az_E.deep (by omega) (re_Fi_findWay_26_5 (J := J) (R := (az_u (az_u R 26 2 (some 21)) 26 3 (some 5))) rfl hx_12 ⟨rfl, rfl⟩)) (fun v s hq => ?_)
                obtain ⟨rfl, rfl⟩ := hq
                show az_E az_F ex 6 93 47 [.ref 3, .int a1, .int a2, .int a3] [] (97, I_11, J, (az_u (az_u R 26 2 (some 21)) 26 3 (some 5))) _
                refine az_E.sn 2 (pc' := 49) (L' := [.ref 3, .int a1, .int a2, .int a3]) (S' := [.int (-1 : Int32), .int a3]) (σ' := (97, I_11, J, (az_u (az_u R 26 2 (some 21)) 26 3 (some 5)))) rfl ?_
                refine az_E.br (c := a3 = (-1 : Int32)) (tt := 52) (ff := 65) (L' := [.ref 3, .int a1, .int a2, .int a3]) (S' := []) (σ' := (97, I_11, J, (az_u (az_u R 26 2 (some 21)) 26 3 (some 5)))) rfl (fun hc_13 => ?_) (fun hc_13 => ?_)
                · rw [if_pos hc_13] at h
                  refine az_E.sn 4 (pc' := 60) (L' := [.ref 3, .int a1, .int a2, .int a3]) (S' := [.int a1, .ref 33]) (σ' := (97, I_11, J, (az_u (az_u R 26 2 (some 21)) 26 3 (some 5)))) rfl ?_
                  refine az_E.call (d := 5) (k' := 135) (vs := [.int a1]) (pc' := 63) (S' := [.ref 33]) rfl ?_ (fun _ _ hq => hq)
                  show az_E az_F ex 5 135 0 [.int a1] [] (97, I_11, J, (az_u (az_u R 26 2 (some 21)) 26 3 (some 5))) _
                  refine az_E.sn 2 (pc' := 4) (L' := [.int a1]) (S' := [.int (1000 : Int32), .int a1]) (σ' := (97, I_11, J, (az_u (az_u R 26 2 (some 21)) 26 3 (some 5)))) rfl ?_
                  have hd_14 : ¬ ((1000 : Int32) = 0) := by decide
                  refine az_E.dv (c := (1000 : Int32) = 0) (pc' := 5) (L' := [.int a1]) (S' := [.int (a1 / (1000 : Int32))]) (σ' := (97, I_11, J, (az_u (az_u R 26 2 (some 21)) 26 3 (some 5)))) rfl hd_14 ?_
                  refine az_E.ret (v := some (.int (a1 / (1000 : Int32)))) (σ' := (97, I_11, J, (az_u (az_u R 26 2 (some 21)) 26 3 (some 5)))) rfl ?_
                  show az_E az_F ex 6 93 63 [.ref 3, .int a1, .int a2, .int a3] [.int (a1 / (1000 : Int32)), .ref 33] (97, I_11, J, (az_u (az_u R 26 2 (some 21)) 26 3 (some 5))) _
                  by_cases hc_15 : (a1 / (1000 : Int32)) < 0 ∨ 144 ≤ (a1 / (1000 : Int32)).toNatClampNeg
                  · rw [if_pos hc_15] at h; cases h
                  · rw [if_neg hc_15] at h
                    refine az_E.oi (o := az_ai az_F ex (97, I_11, J, (az_u (az_u R 26 2 (some 21)) 26 3 (some 5))) 33 (a1 / (1000 : Int32))) (pc' := 64) (L' := [.ref 3, .int a1, .int a2, .int a3]) (S' := []) (σ' := (97, I_11, J, (az_u (az_u R 26 2 (some 21)) 26 3 (some 5)))) (x := (I_11 33 (a1 / (1000 : Int32)).toNatClampNeg)) rfl (if_neg hc_15) ?_
                    have h := Option.some.inj h
                    subst h
                    exact az_E.ret (v := some (.int (I_11 33 (a1 / (1000 : Int32)).toNatClampNeg))) (σ' := (97, I_11, J, (az_u (az_u R 26 2 (some 21)) 26 3 (some 5)))) rfl (hQ _ hR_3_2 hR_3_3)
                · rw [if_neg hc_13] at h
                  refine az_E.sn 2 (pc' := 68) (L' := [.ref 3, .int a1, .int a2, .int a3]) (S' := [.int (-2 : Int32), .int a3]) (σ' := (97, I_11, J, (az_u (az_u R 26 2 (some 21)) 26 3 (some 5)))) rfl ?_
                  refine az_E.br (c := a3 = (-2 : Int32)) (tt := 71) (ff := 79) (L' := [.ref 3, .int a1, .int a2, .int a3]) (S' := []) (σ' := (97, I_11, J, (az_u (az_u R 26 2 (some 21)) 26 3 (some 5)))) rfl (fun hc_16 => ?_) (fun hc_16 => ?_)
                  · rw [if_pos hc_16] at h
                    refine az_E.sn 3 (pc' := 78) (L' := [.ref 3, .int a1, .int a2, .int a3]) (S' := [.int (I_11 32 3)]) (σ' := (97, I_11, J, (az_u (az_u R 26 2 (some 21)) 26 3 (some 5)))) rfl ?_
                    have h := Option.some.inj h
                    subst h
                    exact az_E.ret (v := some (.int (I_11 32 3))) (σ' := (97, I_11, J, (az_u (az_u R 26 2 (some 21)) 26 3 (some 5)))) rfl (hQ _ hR_3_2 hR_3_3)
                  · rw [if_neg hc_16] at h
                    refine az_E.sn 2 (pc' := 82) (L' := [.ref 3, .int a1, .int a2, .int a3]) (S' := [.int (-3 : Int32), .int a3]) (σ' := (97, I_11, J, (az_u (az_u R 26 2 (some 21)) 26 3 (some 5)))) rfl ?_
                    refine az_E.br (c := a3 = (-3 : Int32)) (tt := 85) (ff := 100) (L' := [.ref 3, .int a1, .int a2, .int a3]) (S' := []) (σ' := (97, I_11, J, (az_u (az_u R 26 2 (some 21)) 26 3 (some 5)))) rfl (fun hc_17 => ?_) (fun hc_17 => ?_)
                    · rw [if_pos hc_17] at h
                      refine az_E.sn 5 (pc' := 96) (L' := [.ref 3, .int a1, .int a2, .int a3]) (S' := [.ref 5, .ref 32]) (σ' := (97, I_11, J, (az_u (az_u R 26 2 (some 21)) 26 3 (some 5)))) rfl ?_
                      cases hx_19 : rs_Fi_climb I_11 with
                      | none => rw [hx_19] at h; cases h
                      | some x_18 =>
                        rw [hx_19] at h
                        dsimp only at h
                        refine az_E.call (d := 5) (k' := 22) (vs := [.ref 32, .ref 5]) (pc' := 99) (S' := []) (Q1 := fun v s => v = some (.int x_18) ∧ s = (97, I_11, J, (az_u (az_u R 26 2 (some 21)) 26 3 (some 5)))) rfl (az_E.deep (by omega) (re_Fi_climb (J := J) (R := (az_u (az_u R 26 2 (some 21)) 26 3 (some 5)))  hx_19 ⟨rfl, rfl⟩)) (fun v s hq => ?_)
                        obtain ⟨rfl, rfl⟩ := hq
                        show az_E az_F ex 6 93 99 [.ref 3, .int a1, .int a2, .int a3] [.int x_18] (97, I_11, J, (az_u (az_u R 26 2 (some 21)) 26 3 (some 5))) _
                        have h := Option.some.inj h
                        subst h
                        exact az_E.ret (v := some (.int x_18)) (σ' := (97, I_11, J, (az_u (az_u R 26 2 (some 21)) 26 3 (some 5)))) rfl (hQ _ hR_3_2 hR_3_3)
                    · rw [if_neg hc_17] at h
                      refine az_E.sn 4 (pc' := 108) (L' := [.ref 3, .int a1, .int a2, .int a3]) (S' := [.int (I_11 32 3), .int a3]) (σ' := (97, I_11, J, (az_u (az_u R 26 2 (some 21)) 26 3 (some 5)))) rfl ?_
                      refine az_E.br (c := (I_11 32 3) < a3) (tt := 123) (ff := 111) (L' := [.ref 3, .int a1, .int a2, .int a3]) (S' := []) (σ' := (97, I_11, J, (az_u (az_u R 26 2 (some 21)) 26 3 (some 5)))) rfl (fun hc_20 => ?_) (fun hc_20 => ?_)
                      · rw [if_pos hc_20] at h
                        refine az_E.sn 1 (pc' := 125) (L' := [.ref 3, .int a1, .int a2, .int a3]) (S' := [.int (-2 : Int32)]) (σ' := (97, I_11, J, (az_u (az_u R 26 2 (some 21)) 26 3 (some 5)))) rfl ?_
                        have h := Option.some.inj h
                        subst h
                        exact az_E.ret (v := some (.int (-2 : Int32))) (σ' := (97, I_11, J, (az_u (az_u R 26 2 (some 21)) 26 3 (some 5)))) rfl (hQ _ hR_3_2 hR_3_3)
                      · rw [if_neg hc_20] at h
                        refine az_E.sn 4 (pc' := 119) (L' := [.ref 3, .int a1, .int a2, .int a3]) (S' := [.int a3, .ref 35]) (σ' := (97, I_11, J, (az_u (az_u R 26 2 (some 21)) 26 3 (some 5)))) rfl ?_
                        by_cases hc_21 : a3 < 0 ∨ 144 ≤ a3.toNatClampNeg
                        · rw [if_pos hc_21] at h; cases h
                        · rw [if_neg hc_21] at h
                          refine az_E.oi (o := az_ai az_F ex (97, I_11, J, (az_u (az_u R 26 2 (some 21)) 26 3 (some 5))) 35 a3) (pc' := 120) (L' := [.ref 3, .int a1, .int a2, .int a3]) (S' := []) (σ' := (97, I_11, J, (az_u (az_u R 26 2 (some 21)) 26 3 (some 5)))) (x := (I_11 35 a3.toNatClampNeg)) rfl (if_neg hc_21) ?_
                          refine az_E.sn 1 (pc' := 125) (L' := [.ref 3, .int a1, .int a2, .int a3]) (S' := [.int (I_11 35 a3.toNatClampNeg)]) (σ' := (97, I_11, J, (az_u (az_u R 26 2 (some 21)) 26 3 (some 5)))) rfl ?_
                          have h := Option.some.inj h
                          subst h
                          exact az_E.ret (v := some (.int (I_11 35 a3.toNatClampNeg))) (σ' := (97, I_11, J, (az_u (az_u R 26 2 (some 21)) 26 3 (some 5)))) rfl (hQ _ hR_3_2 hR_3_3)
          · rw [if_neg hc_6] at h
            refine az_E.sn 1 (pc' := 22) (L' := [.ref 3, .int a1, .int a2, .int a3]) (S' := [.int (-1 : Int32)]) (σ' := (97, I, J, R)) rfl ?_
            have h := Option.some.inj h
            subst h
            exact az_E.ret (v := some (.int (-1 : Int32))) (σ' := (97, I, J, R)) rfl (hQ _ hR_3_2 hR_3_3)
set_option maxRecDepth 100000 in
set_option maxHeartbeats 4000000 in
theorem re_X_reach_134_21_16 {ex : az_X} {I : Nat → Nat → Int32} {J : Nat → Nat → Int64} {R : Nat → Nat → Option Nat} {v4 : Int32} {v5 : Int32} {v6 : Int32} (hR_3_2 : R 3 2 = some 21) (hR_3_3 : R 3 3 = some 16) {x : Int32 × (Nat → Nat → Int32)} (h : rs_X_reach_134 16 21 I v4 v5 v6 = some x) {Q : Option Value → az_S → Prop} (hQ : ∀ R' : Nat → Nat → Option Nat, R' 3 2 = some 21 → R' 3 3 = some 16 → Q (some (.int x.1)) (97, x.2, J, R')) : az_E az_F ex 6 94 134 [.retAddr 0, .retAddr 0, .retAddr 0, .retAddr 0, .int v4, .int v5, .int v6, .retAddr 0] [] (97, I, J, (az_u (az_u R 26 2 (some 21)) 26 3 (some 5))) Q := by
  unfold rs_X_reach_134 at h
  refine az_E.sn 1 (pc' := 136) (L' := [.retAddr 0, .retAddr 0, .retAddr 0, .retAddr 0, .int v4, .int v5, .int v6, .retAddr 0]) (S' := [.int v4]) (σ' := (97, I, J, (az_u (az_u R 26 2 (some 21)) 26 3 (some 5)))) rfl ?_
  refine az_E.br (c := v4 = 0) (tt := 139) (ff := 144) (L' := [.retAddr 0, .retAddr 0, .retAddr 0, .retAddr 0, .int v4, .int v5, .int v6, .retAddr 0]) (S' := []) (σ' := (97, I, J, (az_u (az_u R 26 2 (some 21)) 26 3 (some 5)))) rfl (fun hc_13 => ?_) (fun hc_13 => ?_)
  · rw [if_pos hc_13] at h
    refine az_E.sn 2 (pc' := 146) (L' := [.retAddr 0, .retAddr 0, .retAddr 0, .retAddr 0, .int v4, .int v5, .int v6, .retAddr 0]) (S' := [.int v5]) (σ' := (97, I, J, (az_u (az_u R 26 2 (some 21)) 26 3 (some 5)))) rfl ?_
    have h := Option.some.inj h
    subst h
    exact az_E.ret (v := some (.int v5)) (σ' := (97, I, J, (az_u (az_u R 26 2 (some 21)) 26 3 (some 5)))) rfl (hQ _ hR_3_2 hR_3_3)
  · rw [if_neg hc_13] at h
    refine az_E.sn 1 (pc' := 146) (L' := [.retAddr 0, .retAddr 0, .retAddr 0, .retAddr 0, .int v4, .int v5, .int v6, .retAddr 0]) (S' := [.int v6]) (σ' := (97, I, J, (az_u (az_u R 26 2 (some 21)) 26 3 (some 5)))) rfl ?_
    have h := Option.some.inj h
    subst h
    exact az_E.ret (v := some (.int v6)) (σ' := (97, I, J, (az_u (az_u R 26 2 (some 21)) 26 3 (some 5)))) rfl (hQ _ hR_3_2 hR_3_3)
set_option maxRecDepth 100000 in
set_option maxHeartbeats 4000000 in
theorem re_X_reach_71_b_21_16 {ex : az_X} {I : Nat → Nat → Int32} {J : Nat → Nat → Int64} {R : Nat → Nat → Option Nat} {v3 : Int32} {v4 : Int32} {v5 : Int32} {v6 : Int32} {v7 : Int32} (hR_3_2 : R 3 2 = some 21) (hR_3_3 : R 3 3 = some 16) {x : ((Int32 × Int32 × Int32) ⊕ (Int32 × (Nat → Nat → Int32)))} (h : rs_X_reach_71_b 16 21 I v3 v4 v5 v6 v7 = some x) {Q : Option Value → az_S → Prop} (hQ : Sum.elim (fun s => az_E az_F ex 6 94 71 [.ref 3, .retAddr 0, .retAddr 0, .int v3, .int v4, .int s.1, .int s.2.1, .int s.2.2] [] (97, I, J, (az_u (az_u R 26 2 (some 21)) 26 3 (some 5))) Q) (fun x => ∀ R' : Nat → Nat → Option Nat, R' 3 2 = some 21 → R' 3 3 = some 16 → Q (some (.int x.1)) (97, x.2, J, R')) x) : az_E az_F ex 6 94 71 [.ref 3, .retAddr 0, .retAddr 0, .int v3, .int v4, .int v5, .int v6, .int v7] [] (97, I, J, (az_u (az_u R 26 2 (some 21)) 26 3 (some 5))) Q := by
  unfold rs_X_reach_71_b at h
  refine az_E.sn 2 (pc' := 76) (L' := [.ref 3, .retAddr 0, .retAddr 0, .int v3, .int v4, .int v5, .int v6, .int v7]) (S' := [.int (144 : Int32), .int v7]) (σ' := (97, I, J, (az_u (az_u R 26 2 (some 21)) 26 3 (some 5)))) rfl ?_
  refine az_E.br (c := (144 : Int32) ≤ v7) (tt := 134) (ff := 79) (L' := [.ref 3, .retAddr 0, .retAddr 0, .int v3, .int v4, .int v5, .int v6, .int v7]) (S' := []) (σ' := (97, I, J, (az_u (az_u R 26 2 (some 21)) 26 3 (some 5)))) rfl (fun hc_12 => ?_) (fun hc_12 => ?_)
  · rw [if_pos hc_12] at h
    obtain ⟨x, hx, rfl⟩ := Option.map_eq_some_iff.mp h
    exact az_E.forget (L := [.retAddr 0, .retAddr 0, .retAddr 0, .retAddr 0, .int v4, .int v5, .int v6, .retAddr 0]) ⟨trivial, trivial, trivial, trivial, rfl, rfl, rfl, trivial, trivial⟩ (re_X_reach_134_21_16 (I := I) (J := J) (R := R) hR_3_2 hR_3_3 hx hQ)
  · rw [if_neg hc_12] at h
    refine az_E.sn 4 (pc' := 88) (L' := [.ref 3, .retAddr 0, .retAddr 0, .int v3, .int v4, .int v5, .int v6, .int v7]) (S' := [.int v7, .ref 33]) (σ' := (97, I, J, (az_u (az_u R 26 2 (some 21)) 26 3 (some 5)))) rfl ?_
    by_cases hc_14 : v7 < 0 ∨ 144 ≤ v7.toNatClampNeg
    · rw [if_pos hc_14] at h; cases h
    · rw [if_neg hc_14] at h
      refine az_E.oi (o := az_ai az_F ex (97, I, J, (az_u (az_u R 26 2 (some 21)) 26 3 (some 5))) 33 v7) (pc' := 89) (L' := [.ref 3, .retAddr 0, .retAddr 0, .int v3, .int v4, .int v5, .int v6, .int v7]) (S' := []) (σ' := (97, I, J, (az_u (az_u R 26 2 (some 21)) 26 3 (some 5)))) (x := (I 33 v7.toNatClampNeg)) rfl (if_neg hc_14) ?_
      refine az_E.sn 1 (pc' := 90) (L' := [.ref 3, .retAddr 0, .retAddr 0, .int v3, .int v4, .int v5, .int v6, .int v7]) (S' := [.int v3, .int (I 33 v7.toNatClampNeg)]) (σ' := (97, I, J, (az_u (az_u R 26 2 (some 21)) 26 3 (some 5)))) rfl ?_
      refine az_E.br (c := v3 < (I 33 v7.toNatClampNeg)) (tt := 128) (ff := 93) (L' := [.ref 3, .retAddr 0, .retAddr 0, .int v3, .int v4, .int v5, .int v6, .int v7]) (S' := []) (σ' := (97, I, J, (az_u (az_u R 26 2 (some 21)) 26 3 (some 5)))) rfl (fun hc_15 => ?_) (fun hc_15 => ?_)
      · rw [if_pos hc_15] at h
        refine az_E.sn 2 (pc' := 71) (L' := [.ref 3, .retAddr 0, .retAddr 0, .int v3, .int v4, .int v5, .int v6, .int (v7 + (1 : Int32))]) (S' := []) (σ' := (97, I, J, (az_u (az_u R 26 2 (some 21)) 26 3 (some 5)))) rfl ?_
        have h := Option.some.inj h
        subst h
        exact az_E.forget (L := [.ref 3, .retAddr 0, .retAddr 0, .int v3, .int v4, .int v5, .int v6, .int (v7 + (1 : Int32))]) ⟨rfl, trivial, trivial, rfl, rfl, rfl, rfl, rfl, trivial⟩ hQ
      · rw [if_neg hc_15] at h
        refine az_E.sn 5 (pc' := 105) (L' := [.ref 3, .retAddr 0, .retAddr 0, .int v3, .int v4, .int (v5 + (1 : Int32)), .int v6, .int v7]) (S' := [.int v7, .ref 33]) (σ' := (97, I, J, (az_u (az_u R 26 2 (some 21)) 26 3 (some 5)))) rfl ?_
        by_cases hc_16 : v7 < 0 ∨ 144 ≤ v7.toNatClampNeg
        · rw [if_pos hc_16] at h; cases h
        · rw [if_neg hc_16] at h
          refine az_E.oi (o := az_ai az_F ex (97, I, J, (az_u (az_u R 26 2 (some 21)) 26 3 (some 5))) 33 v7) (pc' := 106) (L' := [.ref 3, .retAddr 0, .retAddr 0, .int v3, .int v4, .int (v5 + (1 : Int32)), .int v6, .int v7]) (S' := []) (σ' := (97, I, J, (az_u (az_u R 26 2 (some 21)) 26 3 (some 5)))) (x := (I 33 v7.toNatClampNeg)) rfl (if_neg hc_16) ?_
          refine az_E.sn 4 (pc' := 115) (L' := [.ref 3, .retAddr 0, .retAddr 0, .int v3, .int v4, .int (v5 + (1 : Int32)), .int v6, .int v7]) (S' := [.int v6, .ref 33, .int (I 33 v7.toNatClampNeg)]) (σ' := (97, I, J, (az_u (az_u R 26 2 (some 21)) 26 3 (some 5)))) rfl ?_
          by_cases hc_17 : v6 < 0 ∨ 144 ≤ v6.toNatClampNeg
          · rw [if_pos hc_17] at h; cases h
          · rw [if_neg hc_17] at h
            refine az_E.oi (o := az_ai az_F ex (97, I, J, (az_u (az_u R 26 2 (some 21)) 26 3 (some 5))) 33 v6) (pc' := 116) (L' := [.ref 3, .retAddr 0, .retAddr 0, .int v3, .int v4, .int (v5 + (1 : Int32)), .int v6, .int v7]) (S' := [.int (I 33 v7.toNatClampNeg)]) (σ' := (97, I, J, (az_u (az_u R 26 2 (some 21)) 26 3 (some 5)))) (x := (I 33 v6.toNatClampNeg)) rfl (if_neg hc_17) ?_
            refine az_E.br (c := (I 33 v7.toNatClampNeg) ≤ (I 33 v6.toNatClampNeg)) (tt := 124) (ff := 119) (L' := [.ref 3, .retAddr 0, .retAddr 0, .int v3, .int v4, .int (v5 + (1 : Int32)), .int v6, .int v7]) (S' := []) (σ' := (97, I, J, (az_u (az_u R 26 2 (some 21)) 26 3 (some 5)))) rfl (fun hc_18 => ?_) (fun hc_18 => ?_)
            · rw [if_pos hc_18] at h
              refine az_E.sn 4 (pc' := 71) (L' := [.ref 3, .retAddr 0, .retAddr 0, .int v3, .int v4, .int (v5 + (1 : Int32)), .int v6, .int (v7 + (1 : Int32))]) (S' := []) (σ' := (97, I, J, (az_u (az_u R 26 2 (some 21)) 26 3 (some 5)))) rfl ?_
              have h := Option.some.inj h
              subst h
              exact az_E.forget (L := [.ref 3, .retAddr 0, .retAddr 0, .int v3, .int v4, .int (v5 + (1 : Int32)), .int v6, .int (v7 + (1 : Int32))]) ⟨rfl, trivial, trivial, rfl, rfl, rfl, rfl, rfl, trivial⟩ hQ
            · rw [if_neg hc_18] at h
              refine az_E.sn 5 (pc' := 71) (L' := [.ref 3, .retAddr 0, .retAddr 0, .int v3, .int v4, .int (v5 + (1 : Int32)), .int v7, .int (v7 + (1 : Int32))]) (S' := []) (σ' := (97, I, J, (az_u (az_u R 26 2 (some 21)) 26 3 (some 5)))) rfl ?_
              have h := Option.some.inj h
              subst h
              exact az_E.forget (L := [.ref 3, .retAddr 0, .retAddr 0, .int v3, .int v4, .int (v5 + (1 : Int32)), .int v7, .int (v7 + (1 : Int32))]) ⟨rfl, trivial, trivial, rfl, rfl, rfl, rfl, rfl, trivial⟩ hQ
set_option maxRecDepth 100000 in
set_option maxHeartbeats 4000000 in
theorem re_X_reach_71_21_16 {ex : az_X} {I : Nat → Nat → Int32} {J : Nat → Nat → Int64} {R : Nat → Nat → Option Nat} {v3 : Int32} {v4 : Int32} {v5 : Int32} {v6 : Int32} {v7 : Int32} (hR_3_2 : R 3 2 = some 21) (hR_3_3 : R 3 3 = some 16) {x : Int32 × (Nat → Nat → Int32)} (h : rs_X_reach_71 16 21 I v3 v4 v5 v6 v7 = some x) {Q : Option Value → az_S → Prop} (hQ : ∀ R' : Nat → Nat → Option Nat, R' 3 2 = some 21 → R' 3 3 = some 16 → Q (some (.int x.1)) (97, x.2, J, R')) : az_E az_F ex 6 94 71 [.ref 3, .retAddr 0, .retAddr 0, .int v3, .int v4, .int v5, .int v6, .int v7] [] (97, I, J, (az_u (az_u R 26 2 (some 21)) 26 3 (some 5))) Q := by
  unfold rs_X_reach_71 at h
  refine az_lp_E (G := fun s => az_E az_F ex 6 94 71 [.ref 3, .retAddr 0, .retAddr 0, .int v3, .int v4, .int s.1, .int s.2.1, .int s.2.2] [] (97, I, J, (az_u (az_u R 26 2 (some 21)) 26 3 (some 5))) Q) (H := fun x => ∀ R' : Nat → Nat → Option Nat, R' 3 2 = some 21 → R' 3 3 = some 16 → Q (some (.int x.1)) (97, x.2, J, R')) (fun s o hb ho => ?_) _ _ _ h hQ
  exact re_X_reach_71_b_21_16 hR_3_2 hR_3_3 hb ho
set_option maxRecDepth 100000 in
set_option maxHeartbeats 4000000 in
theorem re_X_reach_21_16 {ex : az_X} {I : Nat → Nat → Int32} {J : Nat → Nat → Int64} {R : Nat → Nat → Option Nat} {a1 : Int32} {a2 : Int32} {a3 : Int32} {a4 : Int32} (hR_3_2 : R 3 2 = some 21) (hR_3_3 : R 3 3 = some 16) {o : Int32 × (Nat → Nat → Int32)} (h : rs_X_reach 16 21 I a1 a2 a3 a4 = some o) {Q : Option Value → az_S → Prop} (hQ : ∀ R' : Nat → Nat → Option Nat, R' 3 2 = some 21 → R' 3 3 = some 16 → Q (some (.int o.1)) (97, o.2, J, R')) : az_E az_F ex 6 94 0 [.ref 3, .int a1, .int a2, .int a3, .int a4, .retAddr 0, .retAddr 0, .retAddr 0] [] (97, I, J, R) Q := by
  unfold rs_X_reach at h
  refine az_E.sn 1 (pc' := 1) (L' := [.ref 3, .int a1, .int a2, .int a3, .int a4, .retAddr 0, .retAddr 0, .retAddr 0]) (S' := [.int a1]) (σ' := (97, I, J, R)) rfl ?_
  refine az_E.call (d := 5) (k' := 133) (vs := [.int a1]) (pc' := 4) (S' := []) rfl ?_ (fun _ _ hq => hq)
  show az_E az_F ex 5 133 0 [.int a1] [] (97, I, J, R) _
  refine az_E.sn 3 (pc' := 5) (L' := [.int a1]) (S' := [.int (143 : Int32), .int (0 : Int32), .int a1]) (σ' := (97, I, J, R)) rfl ?_
  refine az_E.call (d := 4) (k' := 131) (vs := [.int a1, .int (0 : Int32), .int (143 : Int32)]) (pc' := 8) (S' := []) rfl ?_ (fun _ _ hq => hq)
  show az_E az_F ex 4 131 0 [.int a1, .int (0 : Int32), .int (143 : Int32)] [] (97, I, J, R) _
  refine az_E.sn 2 (pc' := 2) (L' := [.int a1, .int (0 : Int32), .int (143 : Int32)]) (S' := [.int (0 : Int32), .int a1]) (σ' := (97, I, J, R)) rfl ?_
  refine az_E.br (c := a1 < (0 : Int32)) (tt := 14) (ff := 5) (L' := [.int a1, .int (0 : Int32), .int (143 : Int32)]) (S' := []) (σ' := (97, I, J, R)) rfl (fun hc_1 => ?_) (fun hc_1 => ?_)
  · rw [if_pos hc_1] at h
    refine az_E.sn 1 (pc' := 15) (L' := [.int a1, .int (0 : Int32), .int (143 : Int32)]) (S' := [.int (0 : Int32)]) (σ' := (97, I, J, R)) rfl ?_
    refine az_E.ret (v := some (.int (0 : Int32))) (σ' := (97, I, J, R)) rfl ?_
    show az_E az_F ex 5 133 8 [.int a1] [.int (0 : Int32)] (97, I, J, R) _
    refine az_E.ret (v := some (.int (0 : Int32))) (σ' := (97, I, J, R)) rfl ?_
    show az_E az_F ex 6 94 4 [.ref 3, .int a1, .int a2, .int a3, .int a4, .retAddr 0, .retAddr 0, .retAddr 0] [.int (0 : Int32)] (97, I, J, R) _
    refine az_E.br (c := (0 : Int32) = 0) (tt := 34) (ff := 7) (L' := [.ref 3, .int a1, .int a2, .int a3, .int a4, .retAddr 0, .retAddr 0, .retAddr 0]) (S' := []) (σ' := (97, I, J, R)) rfl (fun _ => ?_) (fun hn => absurd (by decide) hn)
    refine az_E.sn 1 (pc' := 35) (L' := [.ref 3, .int a1, .int a2, .int a3, .int a4, .retAddr 0, .retAddr 0, .retAddr 0]) (S' := [.int (-1 : Int32)]) (σ' := (97, I, J, R)) rfl ?_
    have h := Option.some.inj h
    subst h
    exact az_E.ret (v := some (.int (-1 : Int32))) (σ' := (97, I, J, R)) rfl (hQ _ hR_3_2 hR_3_3)
  · rw [if_neg hc_1] at h
    refine az_E.sn 2 (pc' := 7) (L' := [.int a1, .int (0 : Int32), .int (143 : Int32)]) (S' := [.int (143 : Int32), .int a1]) (σ' := (97, I, J, R)) rfl ?_
    refine az_E.br (c := (143 : Int32) < a1) (tt := 14) (ff := 10) (L' := [.int a1, .int (0 : Int32), .int (143 : Int32)]) (S' := []) (σ' := (97, I, J, R)) rfl (fun hc_2 => ?_) (fun hc_2 => ?_)
    · rw [if_pos hc_2] at h
      refine az_E.sn 1 (pc' := 15) (L' := [.int a1, .int (0 : Int32), .int (143 : Int32)]) (S' := [.int (0 : Int32)]) (σ' := (97, I, J, R)) rfl ?_
      refine az_E.ret (v := some (.int (0 : Int32))) (σ' := (97, I, J, R)) rfl ?_
      show az_E az_F ex 5 133 8 [.int a1] [.int (0 : Int32)] (97, I, J, R) _
      refine az_E.ret (v := some (.int (0 : Int32))) (σ' := (97, I, J, R)) rfl ?_
      show az_E az_F ex 6 94 4 [.ref 3, .int a1, .int a2, .int a3, .int a4, .retAddr 0, .retAddr 0, .retAddr 0] [.int (0 : Int32)] (97, I, J, R) _
      refine az_E.br (c := (0 : Int32) = 0) (tt := 34) (ff := 7) (L' := [.ref 3, .int a1, .int a2, .int a3, .int a4, .retAddr 0, .retAddr 0, .retAddr 0]) (S' := []) (σ' := (97, I, J, R)) rfl (fun _ => ?_) (fun hn => absurd (by decide) hn)
      refine az_E.sn 1 (pc' := 35) (L' := [.ref 3, .int a1, .int a2, .int a3, .int a4, .retAddr 0, .retAddr 0, .retAddr 0]) (S' := [.int (-1 : Int32)]) (σ' := (97, I, J, R)) rfl ?_
      have h := Option.some.inj h
      subst h
      exact az_E.ret (v := some (.int (-1 : Int32))) (σ' := (97, I, J, R)) rfl (hQ _ hR_3_2 hR_3_3)
    · rw [if_neg hc_2] at h
      refine az_E.sn 2 (pc' := 15) (L' := [.int a1, .int (0 : Int32), .int (143 : Int32)]) (S' := [.int (1 : Int32)]) (σ' := (97, I, J, R)) rfl ?_
      refine az_E.ret (v := some (.int (1 : Int32))) (σ' := (97, I, J, R)) rfl ?_
      show az_E az_F ex 5 133 8 [.int a1] [.int (1 : Int32)] (97, I, J, R) _
      refine az_E.ret (v := some (.int (1 : Int32))) (σ' := (97, I, J, R)) rfl ?_
      show az_E az_F ex 6 94 4 [.ref 3, .int a1, .int a2, .int a3, .int a4, .retAddr 0, .retAddr 0, .retAddr 0] [.int (1 : Int32)] (97, I, J, R) _
      refine az_E.br (c := (1 : Int32) = 0) (tt := 34) (ff := 7) (L' := [.ref 3, .int a1, .int a2, .int a3, .int a4, .retAddr 0, .retAddr 0, .retAddr 0]) (S' := []) (σ' := (97, I, J, R)) rfl (fun hn => absurd hn (by decide)) (fun _ => ?_)
      refine az_E.sn 2 (pc' := 9) (L' := [.ref 3, .int a1, .int a2, .int a3, .int a4, .retAddr 0, .retAddr 0, .retAddr 0]) (S' := [.int a2, .ref 3]) (σ' := (97, I, J, R)) rfl ?_
      refine az_E.call (d := 5) (k' := 138) (vs := [.ref 3, .int a2]) (pc' := 12) (S' := []) rfl ?_ (fun _ _ hq => hq)
      show az_E az_F ex 5 138 0 [.ref 3, .int a2] [] (97, I, J, R) _
      refine az_E.sn 7 (pc' := 11) (L' := [.ref 3, .int a2]) (S' := [.int ((I 4 9) - (1 : Int32)), .int (0 : Int32), .int a2]) (σ' := (97, I, J, R)) rfl ?_
      refine az_E.call (d := 4) (k' := 131) (vs := [.int a2, .int (0 : Int32), .int ((I 4 9) - (1 : Int32))]) (pc' := 14) (S' := []) rfl ?_ (fun _ _ hq => hq)
      show az_E az_F ex 4 131 0 [.int a2, .int (0 : Int32), .int ((I 4 9) - (1 : Int32))] [] (97, I, J, R) _
      refine az_E.sn 2 (pc' := 2) (L' := [.int a2, .int (0 : Int32), .int ((I 4 9) - (1 : Int32))]) (S' := [.int (0 : Int32), .int a2]) (σ' := (97, I, J, R)) rfl ?_
      refine az_E.br (c := a2 < (0 : Int32)) (tt := 14) (ff := 5) (L' := [.int a2, .int (0 : Int32), .int ((I 4 9) - (1 : Int32))]) (S' := []) (σ' := (97, I, J, R)) rfl (fun hc_3 => ?_) (fun hc_3 => ?_)
      · rw [if_pos hc_3] at h
        refine az_E.sn 1 (pc' := 15) (L' := [.int a2, .int (0 : Int32), .int ((I 4 9) - (1 : Int32))]) (S' := [.int (0 : Int32)]) (σ' := (97, I, J, R)) rfl ?_
        refine az_E.ret (v := some (.int (0 : Int32))) (σ' := (97, I, J, R)) rfl ?_
        show az_E az_F ex 5 138 14 [.ref 3, .int a2] [.int (0 : Int32)] (97, I, J, R) _
        refine az_E.ret (v := some (.int (0 : Int32))) (σ' := (97, I, J, R)) rfl ?_
        show az_E az_F ex 6 94 12 [.ref 3, .int a1, .int a2, .int a3, .int a4, .retAddr 0, .retAddr 0, .retAddr 0] [.int (0 : Int32)] (97, I, J, R) _
        refine az_E.br (c := (0 : Int32) = 0) (tt := 34) (ff := 15) (L' := [.ref 3, .int a1, .int a2, .int a3, .int a4, .retAddr 0, .retAddr 0, .retAddr 0]) (S' := []) (σ' := (97, I, J, R)) rfl (fun _ => ?_) (fun hn => absurd (by decide) hn)
        refine az_E.sn 1 (pc' := 35) (L' := [.ref 3, .int a1, .int a2, .int a3, .int a4, .retAddr 0, .retAddr 0, .retAddr 0]) (S' := [.int (-1 : Int32)]) (σ' := (97, I, J, R)) rfl ?_
        have h := Option.some.inj h
        subst h
        exact az_E.ret (v := some (.int (-1 : Int32))) (σ' := (97, I, J, R)) rfl (hQ _ hR_3_2 hR_3_3)
      · rw [if_neg hc_3] at h
        refine az_E.sn 2 (pc' := 7) (L' := [.int a2, .int (0 : Int32), .int ((I 4 9) - (1 : Int32))]) (S' := [.int ((I 4 9) - (1 : Int32)), .int a2]) (σ' := (97, I, J, R)) rfl ?_
        refine az_E.br (c := ((I 4 9) - (1 : Int32)) < a2) (tt := 14) (ff := 10) (L' := [.int a2, .int (0 : Int32), .int ((I 4 9) - (1 : Int32))]) (S' := []) (σ' := (97, I, J, R)) rfl (fun hc_4 => ?_) (fun hc_4 => ?_)
        · rw [if_pos hc_4] at h
          refine az_E.sn 1 (pc' := 15) (L' := [.int a2, .int (0 : Int32), .int ((I 4 9) - (1 : Int32))]) (S' := [.int (0 : Int32)]) (σ' := (97, I, J, R)) rfl ?_
          refine az_E.ret (v := some (.int (0 : Int32))) (σ' := (97, I, J, R)) rfl ?_
          show az_E az_F ex 5 138 14 [.ref 3, .int a2] [.int (0 : Int32)] (97, I, J, R) _
          refine az_E.ret (v := some (.int (0 : Int32))) (σ' := (97, I, J, R)) rfl ?_
          show az_E az_F ex 6 94 12 [.ref 3, .int a1, .int a2, .int a3, .int a4, .retAddr 0, .retAddr 0, .retAddr 0] [.int (0 : Int32)] (97, I, J, R) _
          refine az_E.br (c := (0 : Int32) = 0) (tt := 34) (ff := 15) (L' := [.ref 3, .int a1, .int a2, .int a3, .int a4, .retAddr 0, .retAddr 0, .retAddr 0]) (S' := []) (σ' := (97, I, J, R)) rfl (fun _ => ?_) (fun hn => absurd (by decide) hn)
          refine az_E.sn 1 (pc' := 35) (L' := [.ref 3, .int a1, .int a2, .int a3, .int a4, .retAddr 0, .retAddr 0, .retAddr 0]) (S' := [.int (-1 : Int32)]) (σ' := (97, I, J, R)) rfl ?_
          have h := Option.some.inj h
          subst h
          exact az_E.ret (v := some (.int (-1 : Int32))) (σ' := (97, I, J, R)) rfl (hQ _ hR_3_2 hR_3_3)
        · rw [if_neg hc_4] at h
          refine az_E.sn 2 (pc' := 15) (L' := [.int a2, .int (0 : Int32), .int ((I 4 9) - (1 : Int32))]) (S' := [.int (1 : Int32)]) (σ' := (97, I, J, R)) rfl ?_
          refine az_E.ret (v := some (.int (1 : Int32))) (σ' := (97, I, J, R)) rfl ?_
          show az_E az_F ex 5 138 14 [.ref 3, .int a2] [.int (1 : Int32)] (97, I, J, R) _
          refine az_E.ret (v := some (.int (1 : Int32))) (σ' := (97, I, J, R)) rfl ?_
          show az_E az_F ex 6 94 12 [.ref 3, .int a1, .int a2, .int a3, .int a4, .retAddr 0, .retAddr 0, .retAddr 0] [.int (1 : Int32)] (97, I, J, R) _
          refine az_E.br (c := (1 : Int32) = 0) (tt := 34) (ff := 15) (L' := [.ref 3, .int a1, .int a2, .int a3, .int a4, .retAddr 0, .retAddr 0, .retAddr 0]) (S' := []) (σ' := (97, I, J, R)) rfl (fun hn => absurd hn (by decide)) (fun _ => ?_)
          refine az_E.sn 3 (pc' := 20) (L' := [.ref 3, .int a1, .int a2, .int a3, .int a4, .retAddr 0, .retAddr 0, .retAddr 0]) (S' := [.int (999 : Int32), .int (0 : Int32), .int a3]) (σ' := (97, I, J, R)) rfl ?_
          refine az_E.call (d := 5) (k' := 131) (vs := [.int a3, .int (0 : Int32), .int (999 : Int32)]) (pc' := 23) (S' := []) rfl ?_ (fun _ _ hq => hq)
          show az_E az_F ex 5 131 0 [.int a3, .int (0 : Int32), .int (999 : Int32)] [] (97, I, J, R) _
          refine az_E.sn 2 (pc' := 2) (L' := [.int a3, .int (0 : Int32), .int (999 : Int32)]) (S' := [.int (0 : Int32), .int a3]) (σ' := (97, I, J, R)) rfl ?_
          refine az_E.br (c := a3 < (0 : Int32)) (tt := 14) (ff := 5) (L' := [.int a3, .int (0 : Int32), .int (999 : Int32)]) (S' := []) (σ' := (97, I, J, R)) rfl (fun hc_5 => ?_) (fun hc_5 => ?_)
          · rw [if_pos hc_5] at h
            refine az_E.sn 1 (pc' := 15) (L' := [.int a3, .int (0 : Int32), .int (999 : Int32)]) (S' := [.int (0 : Int32)]) (σ' := (97, I, J, R)) rfl ?_
            refine az_E.ret (v := some (.int (0 : Int32))) (σ' := (97, I, J, R)) rfl ?_
            show az_E az_F ex 6 94 23 [.ref 3, .int a1, .int a2, .int a3, .int a4, .retAddr 0, .retAddr 0, .retAddr 0] [.int (0 : Int32)] (97, I, J, R) _
            refine az_E.br (c := (0 : Int32) = 0) (tt := 34) (ff := 26) (L' := [.ref 3, .int a1, .int a2, .int a3, .int a4, .retAddr 0, .retAddr 0, .retAddr 0]) (S' := []) (σ' := (97, I, J, R)) rfl (fun _ => ?_) (fun hn => absurd (by decide) hn)
            refine az_E.sn 1 (pc' := 35) (L' := [.ref 3, .int a1, .int a2, .int a3, .int a4, .retAddr 0, .retAddr 0, .retAddr 0]) (S' := [.int (-1 : Int32)]) (σ' := (97, I, J, R)) rfl ?_
            have h := Option.some.inj h
            subst h
            exact az_E.ret (v := some (.int (-1 : Int32))) (σ' := (97, I, J, R)) rfl (hQ _ hR_3_2 hR_3_3)
          · rw [if_neg hc_5] at h
            refine az_E.sn 2 (pc' := 7) (L' := [.int a3, .int (0 : Int32), .int (999 : Int32)]) (S' := [.int (999 : Int32), .int a3]) (σ' := (97, I, J, R)) rfl ?_
            refine az_E.br (c := (999 : Int32) < a3) (tt := 14) (ff := 10) (L' := [.int a3, .int (0 : Int32), .int (999 : Int32)]) (S' := []) (σ' := (97, I, J, R)) rfl (fun hc_6 => ?_) (fun hc_6 => ?_)
            · rw [if_pos hc_6] at h
              refine az_E.sn 1 (pc' := 15) (L' := [.int a3, .int (0 : Int32), .int (999 : Int32)]) (S' := [.int (0 : Int32)]) (σ' := (97, I, J, R)) rfl ?_
              refine az_E.ret (v := some (.int (0 : Int32))) (σ' := (97, I, J, R)) rfl ?_
              show az_E az_F ex 6 94 23 [.ref 3, .int a1, .int a2, .int a3, .int a4, .retAddr 0, .retAddr 0, .retAddr 0] [.int (0 : Int32)] (97, I, J, R) _
              refine az_E.br (c := (0 : Int32) = 0) (tt := 34) (ff := 26) (L' := [.ref 3, .int a1, .int a2, .int a3, .int a4, .retAddr 0, .retAddr 0, .retAddr 0]) (S' := []) (σ' := (97, I, J, R)) rfl (fun _ => ?_) (fun hn => absurd (by decide) hn)
              refine az_E.sn 1 (pc' := 35) (L' := [.ref 3, .int a1, .int a2, .int a3, .int a4, .retAddr 0, .retAddr 0, .retAddr 0]) (S' := [.int (-1 : Int32)]) (σ' := (97, I, J, R)) rfl ?_
              have h := Option.some.inj h
              subst h
              exact az_E.ret (v := some (.int (-1 : Int32))) (σ' := (97, I, J, R)) rfl (hQ _ hR_3_2 hR_3_3)
            · rw [if_neg hc_6] at h
              refine az_E.sn 2 (pc' := 15) (L' := [.int a3, .int (0 : Int32), .int (999 : Int32)]) (S' := [.int (1 : Int32)]) (σ' := (97, I, J, R)) rfl ?_
              refine az_E.ret (v := some (.int (1 : Int32))) (σ' := (97, I, J, R)) rfl ?_
              show az_E az_F ex 6 94 23 [.ref 3, .int a1, .int a2, .int a3, .int a4, .retAddr 0, .retAddr 0, .retAddr 0] [.int (1 : Int32)] (97, I, J, R) _
              refine az_E.br (c := (1 : Int32) = 0) (tt := 34) (ff := 26) (L' := [.ref 3, .int a1, .int a2, .int a3, .int a4, .retAddr 0, .retAddr 0, .retAddr 0]) (S' := []) (σ' := (97, I, J, R)) rfl (fun hn => absurd hn (by decide)) (fun _ => ?_)
              refine az_E.sn 1 (pc' := 28) (L' := [.ref 3, .int a1, .int a2, .int a3, .int a4, .retAddr 0, .retAddr 0, .retAddr 0]) (S' := [.int a4]) (σ' := (97, I, J, R)) rfl ?_
              refine az_E.call (d := 5) (k' := 132) (vs := [.int a4]) (pc' := 31) (S' := []) rfl ?_ (fun _ _ hq => hq)
              show az_E az_F ex 5 132 0 [.int a4] [] (97, I, J, R) _
              refine az_E.sn 1 (pc' := 1) (L' := [.int a4]) (S' := [.int a4]) (σ' := (97, I, J, R)) rfl ?_
              refine az_E.br (c := a4 = 0) (tt := 9) (ff := 4) (L' := [.int a4]) (S' := []) (σ' := (97, I, J, R)) rfl (fun hc_7 => ?_) (fun hc_7 => ?_)
              · rw [if_pos hc_7] at h
                refine az_E.sn 2 (pc' := 14) (L' := [.int a4]) (S' := [.int (1 : Int32)]) (σ' := (97, I, J, R)) rfl ?_
                refine az_E.ret (v := some (.int (1 : Int32))) (σ' := (97, I, J, R)) rfl ?_
                show az_E az_F ex 6 94 31 [.ref 3, .int a1, .int a2, .int a3, .int a4, .retAddr 0, .retAddr 0, .retAddr 0] [.int (1 : Int32)] (97, I, J, R) _
                refine az_E.br (c := (1 : Int32) = 0) (tt := 34) (ff := 36) (L' := [.ref 3, .int a1, .int a2, .int a3, .int a4, .retAddr 0, .retAddr 0, .retAddr 0]) (S' := []) (σ' := (97, I, J, R)) rfl (fun hn => absurd hn (by decide)) (fun _ => ?_)
                refine az_E.sn 2 (pc' := 38) (L' := [.ref 3, .int a1, .int a2, .int a3, .int a4, .retAddr 0, .retAddr 0, .retAddr 0]) (S' := [.int a2, .ref 3]) (σ' := (97, I, J, R)) rfl ?_
                cases hx_9 : rs_X_setPace 21 I a2 with
                | none => rw [hx_9] at h; cases h
                | some I_8 =>
                  rw [hx_9] at h
                  dsimp only at h
                  refine az_E.call (d := 5) (k' := 144) (vs := [.ref 3, .int a2]) (pc' := 41) (S' := []) (Q1 := fun v s => v = none ∧ s = (97, I_8, J, (az_u (az_u R 26 2 (some 21)) 26 3 (some 5)))) rfl (az_E.deep (by omega) (re_X_setPace_21 (J := J) (R := R) hR_3_2 hx_9 ⟨rfl, rfl⟩)) (fun v s hq => ?_)
                  obtain ⟨rfl, rfl⟩ := hq
                  show az_E az_F ex 6 94 41 [.ref 3, .int a1, .int a2, .int a3, .int a4, .retAddr 0, .retAddr 0, .retAddr 0] [] (97, I_8, J, (az_u (az_u R 26 2 (some 21)) 26 3 (some 5))) _
                  refine az_E.sn 10 (pc' := 59) (L' := [.ref 3, .int a1, .int a2, .int a3, .int a4, .retAddr 0, .retAddr 0, .retAddr 0]) (S' := [.ref 33, .int (-1 : Int32), .int (0 : Int32), .int a1, .ref 26, .ref 32]) (σ' := (97, I_8, J, (az_u (az_u R 26 2 (some 21)) 26 3 (some 5)))) rfl ?_
                  cases hx_11 : rs_Fi_spread 26 33 I_8 a1 (0 : Int32) (-1 : Int32) with
                  | none => rw [hx_11] at h; cases h
                  | some I_10 =>
                    rw [hx_11] at h
                    dsimp only at h
                    refine az_E.call (d := 5) (k' := 17) (vs := [.ref 32, .ref 26, .int a1, .int (0 : Int32), .int (-1 : Int32), .ref 33]) (pc' := 62) (S' := []) (Q1 := fun v s => v = none ∧ s = (97, I_10, J, (az_u (az_u R 26 2 (some 21)) 26 3 (some 5)))) rfl (az_E.deep (by omega) (re_Fi_spread_26_33_5 (J := J) (R := (az_u (az_u R 26 2 (some 21)) 26 3 (some 5))) rfl hx_11 ⟨rfl, rfl⟩)) (fun v s hq => ?_)
                    obtain ⟨rfl, rfl⟩ := hq
                    show az_E az_F ex 6 94 62 [.ref 3, .int a1, .int a2, .int a3, .int a4, .retAddr 0, .retAddr 0, .retAddr 0] [] (97, I_10, J, (az_u (az_u R 26 2 (some 21)) 26 3 (some 5))) _
                    refine az_E.sn 6 (pc' := 71) (L' := [.ref 3, .int a1, .int a2, .int a3, .int a4, .int (0 : Int32), .int a1, .int (0 : Int32)]) (S' := []) (σ' := (97, I_10, J, (az_u (az_u R 26 2 (some 21)) 26 3 (some 5)))) rfl ?_
                    exact az_E.forget (L := [.ref 3, .retAddr 0, .retAddr 0, .int a3, .int a4, .int (0 : Int32), .int a1, .int (0 : Int32)]) ⟨rfl, trivial, trivial, rfl, rfl, rfl, rfl, rfl, trivial⟩ (re_X_reach_71_21_16 (I := I_10) (J := J) (R := R) hR_3_2 hR_3_3 h hQ)
              · rw [if_neg hc_7] at h
                refine az_E.sn 2 (pc' := 6) (L' := [.int a4]) (S' := [.int (1 : Int32), .int a4]) (σ' := (97, I, J, R)) rfl ?_
                refine az_E.br (c := a4 = (1 : Int32)) (tt := 9) (ff := 13) (L' := [.int a4]) (S' := []) (σ' := (97, I, J, R)) rfl (fun hc_19 => ?_) (fun hc_19 => ?_)
                · rw [if_pos hc_19] at h
                  refine az_E.sn 2 (pc' := 14) (L' := [.int a4]) (S' := [.int (1 : Int32)]) (σ' := (97, I, J, R)) rfl ?_
                  refine az_E.ret (v := some (.int (1 : Int32))) (σ' := (97, I, J, R)) rfl ?_
                  show az_E az_F ex 6 94 31 [.ref 3, .int a1, .int a2, .int a3, .int a4, .retAddr 0, .retAddr 0, .retAddr 0] [.int (1 : Int32)] (97, I, J, R) _
                  refine az_E.br (c := (1 : Int32) = 0) (tt := 34) (ff := 36) (L' := [.ref 3, .int a1, .int a2, .int a3, .int a4, .retAddr 0, .retAddr 0, .retAddr 0]) (S' := []) (σ' := (97, I, J, R)) rfl (fun hn => absurd hn (by decide)) (fun _ => ?_)
                  refine az_E.sn 2 (pc' := 38) (L' := [.ref 3, .int a1, .int a2, .int a3, .int a4, .retAddr 0, .retAddr 0, .retAddr 0]) (S' := [.int a2, .ref 3]) (σ' := (97, I, J, R)) rfl ?_
                  cases hx_21 : rs_X_setPace 21 I a2 with
                  | none => rw [hx_21] at h; cases h
                  | some I_20 =>
                    rw [hx_21] at h
                    dsimp only at h
                    refine az_E.call (d := 5) (k' := 144) (vs := [.ref 3, .int a2]) (pc' := 41) (S' := []) (Q1 := fun v s => v = none ∧ s = (97, I_20, J, (az_u (az_u R 26 2 (some 21)) 26 3 (some 5)))) rfl (az_E.deep (by omega) (re_X_setPace_21 (J := J) (R := R) hR_3_2 hx_21 ⟨rfl, rfl⟩)) (fun v s hq => ?_)
                    obtain ⟨rfl, rfl⟩ := hq
                    show az_E az_F ex 6 94 41 [.ref 3, .int a1, .int a2, .int a3, .int a4, .retAddr 0, .retAddr 0, .retAddr 0] [] (97, I_20, J, (az_u (az_u R 26 2 (some 21)) 26 3 (some 5))) _
                    refine az_E.sn 10 (pc' := 59) (L' := [.ref 3, .int a1, .int a2, .int a3, .int a4, .retAddr 0, .retAddr 0, .retAddr 0]) (S' := [.ref 33, .int (-1 : Int32), .int (0 : Int32), .int a1, .ref 26, .ref 32]) (σ' := (97, I_20, J, (az_u (az_u R 26 2 (some 21)) 26 3 (some 5)))) rfl ?_
                    cases hx_23 : rs_Fi_spread 26 33 I_20 a1 (0 : Int32) (-1 : Int32) with
                    | none => rw [hx_23] at h; cases h
                    | some I_22 =>
                      rw [hx_23] at h
                      dsimp only at h
                      refine az_E.call (d := 5) (k' := 17) (vs := [.ref 32, .ref 26, .int a1, .int (0 : Int32), .int (-1 : Int32), .ref 33]) (pc' := 62) (S' := []) (Q1 := fun v s => v = none ∧ s = (97, I_22, J, (az_u (az_u R 26 2 (some 21)) 26 3 (some 5)))) rfl (az_E.deep (by omega) (re_Fi_spread_26_33_5 (J := J) (R := (az_u (az_u R 26 2 (some 21)) 26 3 (some 5))) rfl hx_23 ⟨rfl, rfl⟩)) (fun v s hq => ?_)
                      obtain ⟨rfl, rfl⟩ := hq
                      show az_E az_F ex 6 94 62 [.ref 3, .int a1, .int a2, .int a3, .int a4, .retAddr 0, .retAddr 0, .retAddr 0] [] (97, I_22, J, (az_u (az_u R 26 2 (some 21)) 26 3 (some 5))) _
                      refine az_E.sn 6 (pc' := 71) (L' := [.ref 3, .int a1, .int a2, .int a3, .int a4, .int (0 : Int32), .int a1, .int (0 : Int32)]) (S' := []) (σ' := (97, I_22, J, (az_u (az_u R 26 2 (some 21)) 26 3 (some 5)))) rfl ?_
                      exact az_E.forget (L := [.ref 3, .retAddr 0, .retAddr 0, .int a3, .int a4, .int (0 : Int32), .int a1, .int (0 : Int32)]) ⟨rfl, trivial, trivial, rfl, rfl, rfl, rfl, rfl, trivial⟩ (re_X_reach_71_21_16 (I := I_22) (J := J) (R := R) hR_3_2 hR_3_3 h hQ)
                · rw [if_neg hc_19] at h
                  refine az_E.sn 1 (pc' := 14) (L' := [.int a4]) (S' := [.int (0 : Int32)]) (σ' := (97, I, J, R)) rfl ?_
                  refine az_E.ret (v := some (.int (0 : Int32))) (σ' := (97, I, J, R)) rfl ?_
                  show az_E az_F ex 6 94 31 [.ref 3, .int a1, .int a2, .int a3, .int a4, .retAddr 0, .retAddr 0, .retAddr 0] [.int (0 : Int32)] (97, I, J, R) _
                  refine az_E.br (c := (0 : Int32) = 0) (tt := 34) (ff := 36) (L' := [.ref 3, .int a1, .int a2, .int a3, .int a4, .retAddr 0, .retAddr 0, .retAddr 0]) (S' := []) (σ' := (97, I, J, R)) rfl (fun _ => ?_) (fun hn => absurd (by decide) hn)
                  refine az_E.sn 1 (pc' := 35) (L' := [.ref 3, .int a1, .int a2, .int a3, .int a4, .retAddr 0, .retAddr 0, .retAddr 0]) (S' := [.int (-1 : Int32)]) (σ' := (97, I, J, R)) rfl ?_
                  have h := Option.some.inj h
                  subst h
                  exact az_E.ret (v := some (.int (-1 : Int32))) (σ' := (97, I, J, R)) rfl (hQ _ hR_3_2 hR_3_3)
set_option maxRecDepth 100000 in
set_option maxHeartbeats 4000000 in
theorem re_Pa_fill_2_b_29_21 {ex : az_X} {I : Nat → Nat → Int32} {J : Nat → Nat → Int64} {R : Nat → Nat → Option Nat} {v1 : Int32} (hR_29_2 : R 29 2 = some 21) {x : ((Int32 × (Nat → Nat → Int32)) ⊕ ((Nat → Nat → Int32)))} (h : rs_Pa_fill_2_b 29 21 v1 I = some x) {Q : Option Value → az_S → Prop} (hQ : Sum.elim (fun s => az_E az_F ex 3 50 2 [.ref 29, .int s.1, .retAddr 0] [] (97, s.2, J, R) Q) (fun x => Q none (97, x, J, R)) x) : az_E az_F ex 3 50 2 [.ref 29, .int v1, .retAddr 0] [] (97, I, J, R) Q := by
  unfold rs_Pa_fill_2_b at h
  refine az_E.sn 2 (pc' := 5) (L' := [.ref 29, .int v1, .retAddr 0]) (S' := [.int (100 : Int32), .int v1]) (σ' := (97, I, J, R)) rfl ?_
  refine az_E.br (c := (100 : Int32) ≤ v1) (tt := 71) (ff := 8) (L' := [.ref 29, .int v1, .retAddr 0]) (S' := []) (σ' := (97, I, J, R)) rfl (fun hc_1 => ?_) (fun hc_1 => ?_)
  · rw [if_pos hc_1] at h
    have h := Option.some.inj h
    subst h
    exact az_E.ret (v := none) (σ' := (97, I, J, R)) rfl hQ
  · rw [if_neg hc_1] at h
    refine az_E.sn 1 (pc' := 9) (L' := [.ref 29, .int v1, .retAddr 0]) (S' := [.ref 29]) (σ' := (97, I, J, R)) rfl ?_
    refine az_E.ov (pc' := 12) (L' := [.ref 29, .int v1, .retAddr 0]) (S' := []) (σ' := (97, I, J, R)) (x := .ref 21) rfl (congrArg (fun z => some (va_rf z)) hR_29_2) ?_
    refine az_E.sn 4 (pc' := 20) (L' := [.ref 29, .int v1, .retAddr 0]) (S' := [.int v1, .ref (29 + 2)]) (σ' := (97, I, J, R)) rfl ?_
    by_cases hc_2 : v1 < 0 ∨ 100 ≤ v1.toNatClampNeg
    · rw [if_pos hc_2] at h; cases h
    · rw [if_neg hc_2] at h
      refine az_E.oi (o := az_ai az_F ex (97, I, J, R) (29 + 2) v1) (pc' := 21) (L' := [.ref 29, .int v1, .retAddr 0]) (S' := []) (σ' := (97, I, J, R)) (x := (I (29 + 2) v1.toNatClampNeg)) rfl (if_neg hc_2) ?_
      refine az_E.br (c := (I (29 + 2) v1.toNatClampNeg) = 0) (tt := 65) (ff := 24) (L' := [.ref 29, .int v1, .retAddr 0]) (S' := []) (σ' := (97, I, J, R)) rfl (fun hc_3 => ?_) (fun hc_3 => ?_)
      · rw [if_pos hc_3] at h
        refine az_E.sn 2 (pc' := 2) (L' := [.ref 29, .int (v1 + (1 : Int32)), .retAddr 0]) (S' := []) (σ' := (97, I, J, R)) rfl ?_
        have h := Option.some.inj h
        subst h
        exact az_E.forget (L := [.ref 29, .int (v1 + (1 : Int32)), .retAddr 0]) ⟨rfl, rfl, trivial, trivial⟩ hQ
      · rw [if_neg hc_3] at h
        refine az_E.sn 2 (pc' := 27) (L' := [.ref 29, .int v1, .retAddr 0]) (S' := [.int (10 : Int32), .int v1]) (σ' := (97, I, J, R)) rfl ?_
        have hd_4 : ¬ ((10 : Int32) = 0) := by decide
        refine az_E.dv (c := (10 : Int32) = 0) (pc' := 28) (L' := [.ref 29, .int v1, .retAddr 0]) (S' := [.int (v1 - v1 / (10 : Int32) * (10 : Int32))]) (σ' := (97, I, J, R)) rfl hd_4 ?_
        refine az_E.sn 5 (pc' := 35) (L' := [.ref 29, .int v1, .int (v1 - v1 / (10 : Int32) * (10 : Int32))]) (S' := [.ref 29, .int v1, .ref (29 + 1)]) (σ' := (97, I, J, R)) rfl ?_
        refine az_E.ov (pc' := 38) (L' := [.ref 29, .int v1, .int (v1 - v1 / (10 : Int32) * (10 : Int32))]) (S' := [.int v1, .ref (29 + 1)]) (σ' := (97, I, J, R)) (x := .ref 21) rfl (congrArg (fun z => some (va_rf z)) hR_29_2) ?_
        refine az_E.sn 3 (pc' := 42) (L' := [.ref 29, .int v1, .int (v1 - v1 / (10 : Int32) * (10 : Int32))]) (S' := [.int (10 : Int32), .int v1, .int (v1 - v1 / (10 : Int32) * (10 : Int32)), .ref 21, .int v1, .ref (29 + 1)]) (σ' := (97, I, J, R)) rfl ?_
        have hd_5 : ¬ ((10 : Int32) = 0) := by decide
        refine az_E.dv (c := (10 : Int32) = 0) (pc' := 43) (L' := [.ref 29, .int v1, .int (v1 - v1 / (10 : Int32) * (10 : Int32))]) (S' := [.int (v1 / (10 : Int32)), .int (v1 - v1 / (10 : Int32) * (10 : Int32)), .ref 21, .int v1, .ref (29 + 1)]) (σ' := (97, I, J, R)) rfl hd_5 ?_
        refine az_E.sn 10 (pc' := 61) (L' := [.ref 29, .int v1, .int (v1 - v1 / (10 : Int32) * (10 : Int32))]) (S' := [.int (v1 - v1 / (10 : Int32) * (10 : Int32)), .int (I 29 7), .int (I 29 6), .int (I 29 5), .int (I 29 4), .int ((v1 - v1 / (10 : Int32) * (10 : Int32)) - (v1 / (10 : Int32))), .ref 21, .int v1, .ref (29 + 1)]) (σ' := (97, I, J, R)) rfl ?_
        cases hx_8 : rs_La_minutes 21 I ((v1 - v1 / (10 : Int32) * (10 : Int32)) - (v1 / (10 : Int32))) (I 29 4) (I 29 5) (I 29 6) (I 29 7) (v1 - v1 / (10 : Int32) * (10 : Int32)) with
        | none => rw [hx_8] at h; cases h
        | some o =>
          rw [hx_8] at h
          obtain ⟨x_6, I_7⟩ := o
          dsimp only at h
          refine az_E.call (d := 2) (k' := 30) (vs := [.ref 21, .int ((v1 - v1 / (10 : Int32) * (10 : Int32)) - (v1 / (10 : Int32))), .int (I 29 4), .int (I 29 5), .int (I 29 6), .int (I 29 7), .int (v1 - v1 / (10 : Int32) * (10 : Int32))]) (pc' := 64) (S' := [.int v1, .ref (29 + 1)]) (Q1 := fun v s => v = some (.int x_6) ∧ s = (97, I_7, J, R)) rfl (az_E.deep (by omega) (re_La_minutes_21 (J := J) (R := R)  hx_8 ⟨rfl, rfl⟩)) (fun v s hq => ?_)
          obtain ⟨rfl, rfl⟩ := hq
          show az_E az_F ex 3 50 64 [.ref 29, .int v1, .int (v1 - v1 / (10 : Int32) * (10 : Int32))] [.int x_6, .int v1, .ref (29 + 1)] (97, I_7, J, R) _
          by_cases hc_9 : v1 < 0 ∨ 100 ≤ v1.toNatClampNeg
          · rw [if_pos hc_9] at h; cases h
          · rw [if_neg hc_9] at h
            refine az_E.o (o := az_si az_F (97, I_7, J, R) (29 + 1) v1 x_6) (pc' := 65) (L' := [.ref 29, .int v1, .int (v1 - v1 / (10 : Int32) * (10 : Int32))]) (S' := []) (x := (97, (az_u I_7 (29 + 1) v1.toNatClampNeg x_6), J, R)) rfl (if_neg hc_9) ?_
            refine az_E.sn 2 (pc' := 2) (L' := [.ref 29, .int (v1 + (1 : Int32)), .int (v1 - v1 / (10 : Int32) * (10 : Int32))]) (S' := []) (σ' := (97, (az_u I_7 (29 + 1) v1.toNatClampNeg x_6), J, R)) rfl ?_
            have h := Option.some.inj h
            subst h
            exact az_E.forget (L := [.ref 29, .int (v1 + (1 : Int32)), .retAddr 0]) ⟨rfl, rfl, trivial, trivial⟩ hQ
set_option maxRecDepth 100000 in
set_option maxHeartbeats 4000000 in
theorem re_Pa_fill_2_29_21 {ex : az_X} {I : Nat → Nat → Int32} {J : Nat → Nat → Int64} {R : Nat → Nat → Option Nat} {v1 : Int32} (hR_29_2 : R 29 2 = some 21) {x : (Nat → Nat → Int32)} (h : rs_Pa_fill_2 29 21 I v1 = some x) {Q : Option Value → az_S → Prop} (hQ : Q none (97, x, J, R)) : az_E az_F ex 3 50 2 [.ref 29, .int v1, .retAddr 0] [] (97, I, J, R) Q := by
  unfold rs_Pa_fill_2 at h
  refine az_lp_E (G := fun s => az_E az_F ex 3 50 2 [.ref 29, .int s.1, .retAddr 0] [] (97, s.2, J, R) Q) (H := fun x => Q none (97, x, J, R)) (fun s o hb ho => ?_) _ _ _ h hQ
  exact re_Pa_fill_2_b_29_21 hR_29_2 hb ho
set_option maxRecDepth 100000 in
set_option maxHeartbeats 4000000 in
theorem re_Pa_fill_29_21 {ex : az_X} {I : Nat → Nat → Int32} {J : Nat → Nat → Int64} {R : Nat → Nat → Option Nat} (hR_29_2 : R 29 2 = some 21) {o : (Nat → Nat → Int32)} (h : rs_Pa_fill 29 21 I = some o) {Q : Option Value → az_S → Prop} (hQ : Q none (97, o, J, R)) : az_E az_F ex 3 50 0 [.ref 29, .retAddr 0, .retAddr 0] [] (97, I, J, R) Q := by
  unfold rs_Pa_fill at h
  refine az_E.sn 2 (pc' := 2) (L' := [.ref 29, .int (0 : Int32), .retAddr 0]) (S' := []) (σ' := (97, I, J, R)) rfl ?_
  exact az_E.forget (L := [.ref 29, .int (0 : Int32), .retAddr 0]) ⟨rfl, rfl, trivial, trivial⟩ (re_Pa_fill_2_29_21 (I := I) (J := J) (R := R) hR_29_2 h hQ)
set_option maxRecDepth 100000 in
set_option maxHeartbeats 4000000 in
theorem re_Pa_become_29_21 {ex : az_X} {I : Nat → Nat → Int32} {J : Nat → Nat → Int64} {R : Nat → Nat → Option Nat} {a3 : Int32} {a4 : Int32} {a5 : Int32} {o : (Nat → Nat → Int32)} (h : rs_Pa_become 29 21 I a3 a4 a5 = some o) {Q : Option Value → az_S → Prop} (hQ : Q none (97, o, J, (az_u (az_u R 29 2 (some 21)) 29 3 (some 5)))) : az_E az_F ex 4 43 0 [.ref 29, .ref 21, .ref 4, .int a3, .int a4, .int a5] [] (97, I, J, R) Q := by
  unfold rs_Pa_become at h
  refine az_E.sn 23 (pc' := 43) (L' := [.ref 29, .ref 21, .ref 4, .int a3, .int a4, .int a5]) (S' := [.ref 5, .ref 29]) (σ' := (97, (az_u (az_u (az_u (az_u I 29 7 (I 4 10)) 29 4 a3) 29 5 a4) 29 6 a5), J, (az_u (az_u R 29 2 (some 21)) 29 3 (some 5)))) rfl ?_
  cases hx_2 : rs_Pa_lookForPairs 29 (az_u (az_u (az_u (az_u I 29 7 (I 4 10)) 29 4 a3) 29 5 a4) 29 6 a5) with
  | none => rw [hx_2] at h; cases h
  | some I_1 =>
    rw [hx_2] at h
    dsimp only at h
    refine az_E.call (d := 3) (k' := 48) (vs := [.ref 29, .ref 5]) (pc' := 46) (S' := []) (Q1 := fun v s => v = none ∧ s = (97, I_1, J, (az_u (az_u R 29 2 (some 21)) 29 3 (some 5)))) rfl (az_E.deep (by omega) (re_Pa_lookForPairs_29 (J := J) (R := (az_u (az_u R 29 2 (some 21)) 29 3 (some 5)))  hx_2 ⟨rfl, rfl⟩)) (fun v s hq => ?_)
    obtain ⟨rfl, rfl⟩ := hq
    show az_E az_F ex 4 43 46 [.ref 29, .ref 21, .ref 4, .int a3, .int a4, .int a5] [] (97, I_1, J, (az_u (az_u R 29 2 (some 21)) 29 3 (some 5))) _
    refine az_E.sn 1 (pc' := 47) (L' := [.ref 29, .ref 21, .ref 4, .int a3, .int a4, .int a5]) (S' := [.ref 29]) (σ' := (97, I_1, J, (az_u (az_u R 29 2 (some 21)) 29 3 (some 5)))) rfl ?_
    cases hx_4 : rs_Pa_fill 29 21 I_1 with
    | none => rw [hx_4] at h; cases h
    | some I_3 =>
      rw [hx_4] at h
      dsimp only at h
      refine az_E.call (d := 3) (k' := 50) (vs := [.ref 29]) (pc' := 50) (S' := []) (Q1 := fun v s => v = none ∧ s = (97, I_3, J, (az_u (az_u R 29 2 (some 21)) 29 3 (some 5)))) rfl (az_E.deep (by omega) (re_Pa_fill_29_21 (J := J) (R := (az_u (az_u R 29 2 (some 21)) 29 3 (some 5))) rfl hx_4 ⟨rfl, rfl⟩)) (fun v s hq => ?_)
      obtain ⟨rfl, rfl⟩ := hq
      show az_E az_F ex 4 43 50 [.ref 29, .ref 21, .ref 4, .int a3, .int a4, .int a5] [] (97, I_3, J, (az_u (az_u R 29 2 (some 21)) 29 3 (some 5))) _
      have h := Option.some.inj h
      subst h
      exact az_E.ret (v := none) (σ' := (97, I_3, J, (az_u (az_u R 29 2 (some 21)) 29 3 (some 5)))) rfl hQ
set_option maxRecDepth 100000 in
set_option maxHeartbeats 4000000 in
theorem re_X_minutesWith_21 {ex : az_X} {I : Nat → Nat → Int32} {J : Nat → Nat → Int64} {R : Nat → Nat → Option Nat} {a1 : Int32} {a2 : Int32} (hR_3_2 : R 3 2 = some 21) {o : Int32 × (Nat → Nat → Int32)} (h : rs_X_minutesWith 21 I a1 a2 = some o) {Q : Option Value → az_S → Prop} (hQ : Q (some (.int o.1)) (97, o.2, J, (az_u (az_u R 29 2 (some 21)) 29 3 (some 5)))) : az_E az_F ex 5 147 0 [.ref 3, .int a1, .int a2] [] (97, I, J, R) Q := by
  unfold rs_X_minutesWith at h
  refine az_E.sn 3 (pc' := 5) (L' := [.ref 3, .int a1, .int a2]) (S' := [.ref 3, .ref 29]) (σ' := (97, I, J, R)) rfl ?_
  refine az_E.ov (pc' := 8) (L' := [.ref 3, .int a1, .int a2]) (S' := [.ref 29]) (σ' := (97, I, J, R)) (x := .ref 21) rfl (congrArg (fun z => some (va_rf z)) hR_3_2) ?_
  refine az_E.sn 6 (pc' := 20) (L' := [.ref 3, .int a1, .int a2]) (S' := [.int a2, .ref 8, .ref 4, .ref 21, .ref 29]) (σ' := (97, I, J, R)) rfl ?_
  by_cases hc_1 : a2 < 0 ∨ 6 ≤ a2.toNatClampNeg
  · rw [if_pos hc_1] at h; cases h
  · rw [if_neg hc_1] at h
    refine az_E.oi (o := az_ai az_F ex (97, I, J, R) 8 a2) (pc' := 21) (L' := [.ref 3, .int a1, .int a2]) (S' := [.ref 4, .ref 21, .ref 29]) (σ' := (97, I, J, R)) (x := (I 8 a2.toNatClampNeg)) rfl (if_neg hc_1) ?_
    refine az_E.sn 4 (pc' := 29) (L' := [.ref 3, .int a1, .int a2]) (S' := [.int a2, .ref 9, .int (I 8 a2.toNatClampNeg), .ref 4, .ref 21, .ref 29]) (σ' := (97, I, J, R)) rfl ?_
    by_cases hc_2 : a2 < 0 ∨ 6 ≤ a2.toNatClampNeg
    · rw [if_pos hc_2] at h; cases h
    · rw [if_neg hc_2] at h
      refine az_E.oi (o := az_ai az_F ex (97, I, J, R) 9 a2) (pc' := 30) (L' := [.ref 3, .int a1, .int a2]) (S' := [.int (I 8 a2.toNatClampNeg), .ref 4, .ref 21, .ref 29]) (σ' := (97, I, J, R)) (x := (I 9 a2.toNatClampNeg)) rfl (if_neg hc_2) ?_
      refine az_E.sn 4 (pc' := 38) (L' := [.ref 3, .int a1, .int a2]) (S' := [.int a2, .ref 10, .int (I 9 a2.toNatClampNeg), .int (I 8 a2.toNatClampNeg), .ref 4, .ref 21, .ref 29]) (σ' := (97, I, J, R)) rfl ?_
      by_cases hc_3 : a2 < 0 ∨ 6 ≤ a2.toNatClampNeg
      · rw [if_pos hc_3] at h; cases h
      · rw [if_neg hc_3] at h
        refine az_E.oi (o := az_ai az_F ex (97, I, J, R) 10 a2) (pc' := 39) (L' := [.ref 3, .int a1, .int a2]) (S' := [.int (I 9 a2.toNatClampNeg), .int (I 8 a2.toNatClampNeg), .ref 4, .ref 21, .ref 29]) (σ' := (97, I, J, R)) (x := (I 10 a2.toNatClampNeg)) rfl (if_neg hc_3) ?_
        cases hx_5 : rs_Pa_become 29 21 I (I 8 a2.toNatClampNeg) (I 9 a2.toNatClampNeg) (I 10 a2.toNatClampNeg) with
        | none => rw [hx_5] at h; cases h
        | some I_4 =>
          rw [hx_5] at h
          dsimp only at h
          refine az_E.call (d := 4) (k' := 43) (vs := [.ref 29, .ref 21, .ref 4, .int (I 8 a2.toNatClampNeg), .int (I 9 a2.toNatClampNeg), .int (I 10 a2.toNatClampNeg)]) (pc' := 42) (S' := []) (Q1 := fun v s => v = none ∧ s = (97, I_4, J, (az_u (az_u R 29 2 (some 21)) 29 3 (some 5)))) rfl (az_E.deep (by omega) (re_Pa_become_29_21 (J := J) (R := R)  hx_5 ⟨rfl, rfl⟩)) (fun v s hq => ?_)
          obtain ⟨rfl, rfl⟩ := hq
          show az_E az_F ex 5 147 42 [.ref 3, .int a1, .int a2] [] (97, I_4, J, (az_u (az_u R 29 2 (some 21)) 29 3 (some 5))) _
          refine az_E.sn 4 (pc' := 50) (L' := [.ref 3, .int a1, .int a2]) (S' := [.ref 26, .ref 29]) (σ' := (97, I_4, J, (az_u (az_u R 29 2 (some 21)) 29 3 (some 5)))) rfl ?_
          cases hx_7 : rs_Pa_slowTo 29 26 I_4 with
          | none => rw [hx_7] at h; cases h
          | some I_6 =>
            rw [hx_7] at h
            dsimp only at h
            refine az_E.call (d := 4) (k' := 51) (vs := [.ref 29, .ref 26]) (pc' := 53) (S' := []) (Q1 := fun v s => v = none ∧ s = (97, I_6, J, (az_u (az_u R 29 2 (some 21)) 29 3 (some 5)))) rfl (az_E.deep (by omega) (re_Pa_slowTo_29_26 (J := J) (R := (az_u (az_u R 29 2 (some 21)) 29 3 (some 5)))  hx_7 ⟨rfl, rfl⟩)) (fun v s hq => ?_)
            obtain ⟨rfl, rfl⟩ := hq
            show az_E az_F ex 5 147 53 [.ref 3, .int a1, .int a2] [] (97, I_6, J, (az_u (az_u R 29 2 (some 21)) 29 3 (some 5))) _
            refine az_E.sn 5 (pc' := 62) (L' := [.ref 3, .int a1, .int a2]) (S' := [.int a1, .ref 29, .ref 32]) (σ' := (97, I_6, J, (az_u (az_u R 29 2 (some 21)) 29 3 (some 5)))) rfl ?_
            refine az_E.call (d := 4) (k' := 135) (vs := [.int a1]) (pc' := 65) (S' := [.ref 29, .ref 32]) rfl ?_ (fun _ _ hq => hq)
            show az_E az_F ex 4 135 0 [.int a1] [] (97, I_6, J, (az_u (az_u R 29 2 (some 21)) 29 3 (some 5))) _
            refine az_E.sn 2 (pc' := 4) (L' := [.int a1]) (S' := [.int (1000 : Int32), .int a1]) (σ' := (97, I_6, J, (az_u (az_u R 29 2 (some 21)) 29 3 (some 5)))) rfl ?_
            have hd_8 : ¬ ((1000 : Int32) = 0) := by decide
            refine az_E.dv (c := (1000 : Int32) = 0) (pc' := 5) (L' := [.int a1]) (S' := [.int (a1 / (1000 : Int32))]) (σ' := (97, I_6, J, (az_u (az_u R 29 2 (some 21)) 29 3 (some 5)))) rfl hd_8 ?_
            refine az_E.ret (v := some (.int (a1 / (1000 : Int32)))) (σ' := (97, I_6, J, (az_u (az_u R 29 2 (some 21)) 29 3 (some 5)))) rfl ?_
            show az_E az_F ex 5 147 65 [.ref 3, .int a1, .int a2] [.int (a1 / (1000 : Int32)), .ref 29, .ref 32] (97, I_6, J, (az_u (az_u R 29 2 (some 21)) 29 3 (some 5))) _
            refine az_E.sn 1 (pc' := 66) (L' := [.ref 3, .int a1, .int a2]) (S' := [.int a1, .int (a1 / (1000 : Int32)), .ref 29, .ref 32]) (σ' := (97, I_6, J, (az_u (az_u R 29 2 (some 21)) 29 3 (some 5)))) rfl ?_
            refine az_E.call (d := 4) (k' := 136) (vs := [.int a1]) (pc' := 69) (S' := [.int (a1 / (1000 : Int32)), .ref 29, .ref 32]) rfl ?_ (fun _ _ hq => hq)
            show az_E az_F ex 4 136 0 [.int a1] [] (97, I_6, J, (az_u (az_u R 29 2 (some 21)) 29 3 (some 5))) _
            refine az_E.sn 2 (pc' := 4) (L' := [.int a1]) (S' := [.int (1000 : Int32), .int a1]) (σ' := (97, I_6, J, (az_u (az_u R 29 2 (some 21)) 29 3 (some 5)))) rfl ?_
            have hd_9 : ¬ ((1000 : Int32) = 0) := by decide
            refine az_E.dv (c := (1000 : Int32) = 0) (pc' := 5) (L' := [.int a1]) (S' := [.int (a1 - a1 / (1000 : Int32) * (1000 : Int32))]) (σ' := (97, I_6, J, (az_u (az_u R 29 2 (some 21)) 29 3 (some 5)))) rfl hd_9 ?_
            refine az_E.ret (v := some (.int (a1 - a1 / (1000 : Int32) * (1000 : Int32)))) (σ' := (97, I_6, J, (az_u (az_u R 29 2 (some 21)) 29 3 (some 5)))) rfl ?_
            show az_E az_F ex 5 147 69 [.ref 3, .int a1, .int a2] [.int (a1 - a1 / (1000 : Int32) * (1000 : Int32)), .int (a1 / (1000 : Int32)), .ref 29, .ref 32] (97, I_6, J, (az_u (az_u R 29 2 (some 21)) 29 3 (some 5))) _
            cases hx_12 : rs_Fi_minutes 29 I_6 (a1 / (1000 : Int32)) (a1 - a1 / (1000 : Int32) * (1000 : Int32)) with
            | none => rw [hx_12] at h; cases h
            | some o =>
              rw [hx_12] at h
              obtain ⟨x_10, I_11⟩ := o
              dsimp only at h
              refine az_E.call (d := 4) (k' := 16) (vs := [.ref 32, .ref 29, .int (a1 / (1000 : Int32)), .int (a1 - a1 / (1000 : Int32) * (1000 : Int32))]) (pc' := 72) (S' := []) (Q1 := fun v s => v = some (.int x_10) ∧ s = (97, I_11, J, (az_u (az_u R 29 2 (some 21)) 29 3 (some 5)))) rfl (az_E.deep (by omega) (re_Fi_minutes_29_5 (J := J) (R := (az_u (az_u R 29 2 (some 21)) 29 3 (some 5))) rfl hx_12 ⟨rfl, rfl⟩)) (fun v s hq => ?_)
              obtain ⟨rfl, rfl⟩ := hq
              show az_E az_F ex 5 147 72 [.ref 3, .int a1, .int a2] [.int x_10] (97, I_11, J, (az_u (az_u R 29 2 (some 21)) 29 3 (some 5))) _
              have h := Option.some.inj h
              subst h
              exact az_E.ret (v := some (.int x_10)) (σ' := (97, I_11, J, (az_u (az_u R 29 2 (some 21)) 29 3 (some 5)))) rfl hQ
set_option maxRecDepth 100000 in
set_option maxHeartbeats 4000000 in
theorem re_X_together_21_16 {ex : az_X} {I : Nat → Nat → Int32} {J : Nat → Nat → Int64} {R : Nat → Nat → Option Nat} {a1 : Int32} {a2 : Int32} (hR_3_2 : R 3 2 = some 21) (hR_3_3 : R 3 3 = some 16) {o : Int32 × (Nat → Nat → Int32)} (h : rs_X_together 16 21 I a1 a2 = some o) {Q : Option Value → az_S → Prop} (hQ : ∀ R' : Nat → Nat → Option Nat, R' 3 2 = some 21 → R' 3 3 = some 16 → Q (some (.int o.1)) (97, o.2, J, R')) : az_E az_F ex 6 95 0 [.ref 3, .int a1, .int a2] [] (97, I, J, R) Q := by
  unfold rs_X_together at h
  refine az_E.sn 1 (pc' := 1) (L' := [.ref 3, .int a1, .int a2]) (S' := [.int a1]) (σ' := (97, I, J, R)) rfl ?_
  cases hx_2 : rs_X_isFromTo a1 with
  | none => rw [hx_2] at h; cases h
  | some x_1 =>
    rw [hx_2] at h
    dsimp only at h
    refine az_E.call (d := 5) (k' := 134) (vs := [.int a1]) (pc' := 4) (S' := []) (Q1 := fun v s => v = some (.int x_1) ∧ s = (97, I, J, R)) rfl (az_E.deep (by omega) (re_X_isFromTo (J := J) (R := R)  hx_2 ⟨rfl, rfl⟩)) (fun v s hq => ?_)
    obtain ⟨rfl, rfl⟩ := hq
    show az_E az_F ex 6 95 4 [.ref 3, .int a1, .int a2] [.int x_1] (97, I, J, R) _
    refine az_E.br (c := x_1 = 0) (tt := 15) (ff := 7) (L' := [.ref 3, .int a1, .int a2]) (S' := []) (σ' := (97, I, J, R)) rfl (fun hc_3 => ?_) (fun hc_3 => ?_)
    · rw [if_pos hc_3] at h
      refine az_E.sn 1 (pc' := 16) (L' := [.ref 3, .int a1, .int a2]) (S' := [.int (-1 : Int32)]) (σ' := (97, I, J, R)) rfl ?_
      have h := Option.some.inj h
      subst h
      exact az_E.ret (v := some (.int (-1 : Int32))) (σ' := (97, I, J, R)) rfl (hQ _ hR_3_2 hR_3_3)
    · rw [if_neg hc_3] at h
      refine az_E.sn 2 (pc' := 9) (L' := [.ref 3, .int a1, .int a2]) (S' := [.int a2, .ref 3]) (σ' := (97, I, J, R)) rfl ?_
      cases hx_5 : rs_X_areTwoWalkers I a2 with
      | none => rw [hx_5] at h; cases h
      | some x_4 =>
        rw [hx_5] at h
        dsimp only at h
        refine az_E.call (d := 5) (k' := 140) (vs := [.ref 3, .int a2]) (pc' := 12) (S' := []) (Q1 := fun v s => v = some (.int x_4) ∧ s = (97, I, J, R)) rfl (az_E.deep (by omega) (re_X_areTwoWalkers (J := J) (R := R)  hx_5 ⟨rfl, rfl⟩)) (fun v s hq => ?_)
        obtain ⟨rfl, rfl⟩ := hq
        show az_E az_F ex 6 95 12 [.ref 3, .int a1, .int a2] [.int x_4] (97, I, J, R) _
        refine az_E.br (c := x_4 = 0) (tt := 15) (ff := 17) (L' := [.ref 3, .int a1, .int a2]) (S' := []) (σ' := (97, I, J, R)) rfl (fun hc_6 => ?_) (fun hc_6 => ?_)
        · rw [if_pos hc_6] at h
          refine az_E.sn 1 (pc' := 16) (L' := [.ref 3, .int a1, .int a2]) (S' := [.int (-1 : Int32)]) (σ' := (97, I, J, R)) rfl ?_
          have h := Option.some.inj h
          subst h
          exact az_E.ret (v := some (.int (-1 : Int32))) (σ' := (97, I, J, R)) rfl (hQ _ hR_3_2 hR_3_3)
        · rw [if_neg hc_6] at h
          refine az_E.sn 3 (pc' := 21) (L' := [.ref 3, .int a1, .int a2]) (S' := [.int (10 : Int32), .int a2, .ref 3]) (σ' := (97, I, J, R)) rfl ?_
          have hd_7 : ¬ ((10 : Int32) = 0) := by decide
          refine az_E.dv (c := (10 : Int32) = 0) (pc' := 22) (L' := [.ref 3, .int a1, .int a2]) (S' := [.int (a2 / (10 : Int32)), .ref 3]) (σ' := (97, I, J, R)) rfl hd_7 ?_
          cases hx_9 : rs_X_setPace 21 I (a2 / (10 : Int32)) with
          | none => rw [hx_9] at h; cases h
          | some I_8 =>
            rw [hx_9] at h
            dsimp only at h
            refine az_E.call (d := 5) (k' := 144) (vs := [.ref 3, .int (a2 / (10 : Int32))]) (pc' := 25) (S' := []) (Q1 := fun v s => v = none ∧ s = (97, I_8, J, (az_u (az_u R 26 2 (some 21)) 26 3 (some 5)))) rfl (az_E.deep (by omega) (re_X_setPace_21 (J := J) (R := R) hR_3_2 hx_9 ⟨rfl, rfl⟩)) (fun v s hq => ?_)
            obtain ⟨rfl, rfl⟩ := hq
            show az_E az_F ex 6 95 25 [.ref 3, .int a1, .int a2] [] (97, I_8, J, (az_u (az_u R 26 2 (some 21)) 26 3 (some 5))) _
            refine az_E.sn 4 (pc' := 30) (L' := [.ref 3, .int a1, .int a2]) (S' := [.int (10 : Int32), .int a2, .int a1, .ref 3]) (σ' := (97, I_8, J, (az_u (az_u R 26 2 (some 21)) 26 3 (some 5)))) rfl ?_
            have hd_10 : ¬ ((10 : Int32) = 0) := by decide
            refine az_E.dv (c := (10 : Int32) = 0) (pc' := 31) (L' := [.ref 3, .int a1, .int a2]) (S' := [.int (a2 - a2 / (10 : Int32) * (10 : Int32)), .int a1, .ref 3]) (σ' := (97, I_8, J, (az_u (az_u R 26 2 (some 21)) 26 3 (some 5)))) rfl hd_10 ?_
            cases hx_13 : rs_X_minutesWith 21 I_8 a1 (a2 - a2 / (10 : Int32) * (10 : Int32)) with
            | none => rw [hx_13] at h; cases h
            | some o =>
              rw [hx_13] at h
              obtain ⟨x_11, I_12⟩ := o
              dsimp only at h
              refine az_E.call (d := 5) (k' := 147) (vs := [.ref 3, .int a1, .int (a2 - a2 / (10 : Int32) * (10 : Int32))]) (pc' := 34) (S' := []) (Q1 := fun v s => v = some (.int x_11) ∧ s = (97, I_12, J, (az_u (az_u (az_u (az_u R 26 2 (some 21)) 26 3 (some 5)) 29 2 (some 21)) 29 3 (some 5)))) rfl (az_E.deep (by omega) (re_X_minutesWith_21 (J := J) (R := (az_u (az_u R 26 2 (some 21)) 26 3 (some 5))) hR_3_2 hx_13 ⟨rfl, rfl⟩)) (fun v s hq => ?_)
              obtain ⟨rfl, rfl⟩ := hq
              show az_E az_F ex 6 95 34 [.ref 3, .int a1, .int a2] [.int x_11] (97, I_12, J, (az_u (az_u (az_u (az_u R 26 2 (some 21)) 26 3 (some 5)) 29 2 (some 21)) 29 3 (some 5))) _
              have h := Option.some.inj h
              subst h
              exact az_E.ret (v := some (.int x_11)) (σ' := (97, I_12, J, (az_u (az_u (az_u (az_u R 26 2 (some 21)) 26 3 (some 5)) 29 2 (some 21)) 29 3 (some 5)))) rfl (hQ _ hR_3_2 hR_3_3)
set_option maxRecDepth 100000 in
set_option maxHeartbeats 4000000 in
theorem re_X_withWhom_31_b_21_16 {ex : az_X} {I : Nat → Nat → Int32} {J : Nat → Nat → Int64} {R : Nat → Nat → Option Nat} {v1 : Int32} {v2 : Int32} {v3 : Int32} {v4 : Int32} {v5 : Int32} (hR_3_2 : R 3 2 = some 21) (hR_3_3 : R 3 3 = some 16) {x : ((Int32 × Int32 × Int32 × (Nat → Nat → Int32)) ⊕ (Int32 × (Nat → Nat → Int32)))} (h : rs_X_withWhom_31_b 16 21 v1 v2 v3 v4 v5 I = some x) {Q : Option Value → az_S → Prop} (hQ : Sum.elim (fun s => ∀ R : Nat → Nat → Option Nat, R 3 2 = some 21 → R 3 3 = some 16 → az_E az_F ex 6 96 31 [.ref 3, .int v1, .int v2, .int s.1, .int s.2.1, .int s.2.2.1, .retAddr 0] [] (97, s.2.2.2, J, R) Q) (fun x => ∀ R' : Nat → Nat → Option Nat, R' 3 2 = some 21 → R' 3 3 = some 16 → Q (some (.int x.1)) (97, x.2, J, R')) x) : az_E az_F ex 6 96 31 [.ref 3, .int v1, .int v2, .int v3, .int v4, .int v5, .retAddr 0] [] (97, I, J, R) Q := by
  unfold rs_X_withWhom_31_b at h
  refine az_E.sn 4 (pc' := 40) (L' := [.ref 3, .int v1, .int v2, .int v3, .int v4, .int v5, .retAddr 0]) (S' := [.int (I 4 9), .int v5]) (σ' := (97, I, J, R)) rfl ?_
  refine az_E.br (c := (I 4 9) ≤ v5) (tt := 84) (ff := 43) (L' := [.ref 3, .int v1, .int v2, .int v3, .int v4, .int v5, .retAddr 0]) (S' := []) (σ' := (97, I, J, R)) rfl (fun hc_8 => ?_) (fun hc_8 => ?_)
  · rw [if_pos hc_8] at h
    refine az_E.sn 1 (pc' := 85) (L' := [.ref 3, .int v1, .int v2, .int v3, .int v4, .int v5, .retAddr 0]) (S' := [.int v3]) (σ' := (97, I, J, R)) rfl ?_
    have h := Option.some.inj h
    subst h
    try simp only [Sum.elim_inl, Sum.elim_inr] at hQ
    exact az_E.ret (v := some (.int v3)) (σ' := (97, I, J, R)) rfl (hQ _ hR_3_2 hR_3_3)
  · rw [if_neg hc_8] at h
    refine az_E.sn 2 (pc' := 46) (L' := [.ref 3, .int v1, .int v2, .int v3, .int v4, .int v5, .retAddr 0]) (S' := [.int v2, .int v5]) (σ' := (97, I, J, R)) rfl ?_
    refine az_E.br (c := v5 = v2) (tt := 78) (ff := 49) (L' := [.ref 3, .int v1, .int v2, .int v3, .int v4, .int v5, .retAddr 0]) (S' := []) (σ' := (97, I, J, R)) rfl (fun hc_9 => ?_) (fun hc_9 => ?_)
    · rw [if_pos hc_9] at h
      refine az_E.sn 2 (pc' := 31) (L' := [.ref 3, .int v1, .int v2, .int v3, .int v4, .int (v5 + (1 : Int32)), .retAddr 0]) (S' := []) (σ' := (97, I, J, R)) rfl ?_
      have h := Option.some.inj h
      subst h
      simp only [Sum.elim_inl, Sum.elim_inr] at hQ
      exact az_E.forget (L := [.ref 3, .int v1, .int v2, .int v3, .int v4, .int (v5 + (1 : Int32)), .retAddr 0]) ⟨rfl, rfl, rfl, rfl, rfl, rfl, trivial, trivial⟩ (hQ R hR_3_2 hR_3_3)
    · rw [if_neg hc_9] at h
      refine az_E.sn 3 (pc' := 53) (L' := [.ref 3, .int v1, .int v2, .int v3, .int v4, .int v5, .retAddr 0]) (S' := [.int v5, .int v1, .ref 3]) (σ' := (97, I, J, R)) rfl ?_
      cases hx_12 : rs_X_minutesWith 21 I v1 v5 with
      | none => rw [hx_12] at h; cases h
      | some o =>
        rw [hx_12] at h
        obtain ⟨x_10, I_11⟩ := o
        dsimp only at h
        refine az_E.call (d := 5) (k' := 147) (vs := [.ref 3, .int v1, .int v5]) (pc' := 56) (S' := []) (Q1 := fun v s => v = some (.int x_10) ∧ s = (97, I_11, J, (az_u (az_u R 29 2 (some 21)) 29 3 (some 5)))) rfl (az_E.deep (by omega) (re_X_minutesWith_21 (J := J) (R := R) hR_3_2 hx_12 ⟨rfl, rfl⟩)) (fun v s hq => ?_)
        obtain ⟨rfl, rfl⟩ := hq
        show az_E az_F ex 6 96 56 [.ref 3, .int v1, .int v2, .int v3, .int v4, .int v5, .retAddr 0] [.int x_10] (97, I_11, J, (az_u (az_u R 29 2 (some 21)) 29 3 (some 5))) _
        refine az_E.sn 3 (pc' := 61) (L' := [.ref 3, .int v1, .int v2, .int v3, .int v4, .int v5, .int x_10]) (S' := [.int (-2 : Int32), .int v3]) (σ' := (97, I_11, J, (az_u (az_u R 29 2 (some 21)) 29 3 (some 5)))) rfl ?_
        refine az_E.br (c := v3 = (-2 : Int32)) (tt := 71) (ff := 64) (L' := [.ref 3, .int v1, .int v2, .int v3, .int v4, .int v5, .int x_10]) (S' := []) (σ' := (97, I_11, J, (az_u (az_u R 29 2 (some 21)) 29 3 (some 5)))) rfl (fun hc_13 => ?_) (fun hc_13 => ?_)
        · rw [if_pos hc_13] at h
          refine az_E.sn 6 (pc' := 31) (L' := [.ref 3, .int v1, .int v2, .int v5, .int x_10, .int (v5 + (1 : Int32)), .int x_10]) (S' := []) (σ' := (97, I_11, J, (az_u (az_u R 29 2 (some 21)) 29 3 (some 5)))) rfl ?_
          have h := Option.some.inj h
          subst h
          simp only [Sum.elim_inl, Sum.elim_inr] at hQ
          exact az_E.forget (L := [.ref 3, .int v1, .int v2, .int v5, .int x_10, .int (v5 + (1 : Int32)), .retAddr 0]) ⟨rfl, rfl, rfl, rfl, rfl, rfl, trivial, trivial⟩ (hQ (az_u (az_u R 29 2 (some 21)) 29 3 (some 5)) hR_3_2 hR_3_3)
        · rw [if_neg hc_13] at h
          refine az_E.sn 2 (pc' := 68) (L' := [.ref 3, .int v1, .int v2, .int v3, .int v4, .int v5, .int x_10]) (S' := [.int v4, .int x_10]) (σ' := (97, I_11, J, (az_u (az_u R 29 2 (some 21)) 29 3 (some 5)))) rfl ?_
          refine az_E.br (c := v4 ≤ x_10) (tt := 78) (ff := 71) (L' := [.ref 3, .int v1, .int v2, .int v3, .int v4, .int v5, .int x_10]) (S' := []) (σ' := (97, I_11, J, (az_u (az_u R 29 2 (some 21)) 29 3 (some 5)))) rfl (fun hc_14 => ?_) (fun hc_14 => ?_)
          · rw [if_pos hc_14] at h
            refine az_E.sn 2 (pc' := 31) (L' := [.ref 3, .int v1, .int v2, .int v3, .int v4, .int (v5 + (1 : Int32)), .int x_10]) (S' := []) (σ' := (97, I_11, J, (az_u (az_u R 29 2 (some 21)) 29 3 (some 5)))) rfl ?_
            have h := Option.some.inj h
            subst h
            simp only [Sum.elim_inl, Sum.elim_inr] at hQ
            exact az_E.forget (L := [.ref 3, .int v1, .int v2, .int v3, .int v4, .int (v5 + (1 : Int32)), .retAddr 0]) ⟨rfl, rfl, rfl, rfl, rfl, rfl, trivial, trivial⟩ (hQ (az_u (az_u R 29 2 (some 21)) 29 3 (some 5)) hR_3_2 hR_3_3)
          · rw [if_neg hc_14] at h
            refine az_E.sn 6 (pc' := 31) (L' := [.ref 3, .int v1, .int v2, .int v5, .int x_10, .int (v5 + (1 : Int32)), .int x_10]) (S' := []) (σ' := (97, I_11, J, (az_u (az_u R 29 2 (some 21)) 29 3 (some 5)))) rfl ?_
            have h := Option.some.inj h
            subst h
            simp only [Sum.elim_inl, Sum.elim_inr] at hQ
            exact az_E.forget (L := [.ref 3, .int v1, .int v2, .int v5, .int x_10, .int (v5 + (1 : Int32)), .retAddr 0]) ⟨rfl, rfl, rfl, rfl, rfl, rfl, trivial, trivial⟩ (hQ (az_u (az_u R 29 2 (some 21)) 29 3 (some 5)) hR_3_2 hR_3_3)
set_option maxRecDepth 100000 in
set_option maxHeartbeats 4000000 in
theorem re_X_withWhom_31_21_16 {ex : az_X} {I : Nat → Nat → Int32} {J : Nat → Nat → Int64} {R : Nat → Nat → Option Nat} {v1 : Int32} {v2 : Int32} {v3 : Int32} {v4 : Int32} {v5 : Int32} (hR_3_2 : R 3 2 = some 21) (hR_3_3 : R 3 3 = some 16) {x : Int32 × (Nat → Nat → Int32)} (h : rs_X_withWhom_31 16 21 I v1 v2 v3 v4 v5 = some x) {Q : Option Value → az_S → Prop} (hQ : ∀ R' : Nat → Nat → Option Nat, R' 3 2 = some 21 → R' 3 3 = some 16 → Q (some (.int x.1)) (97, x.2, J, R')) : az_E az_F ex 6 96 31 [.ref 3, .int v1, .int v2, .int v3, .int v4, .int v5, .retAddr 0] [] (97, I, J, R) Q := by
  unfold rs_X_withWhom_31 at h
  refine az_lp_E (G := fun s => ∀ R : Nat → Nat → Option Nat, R 3 2 = some 21 → R 3 3 = some 16 → az_E az_F ex 6 96 31 [.ref 3, .int v1, .int v2, .int s.1, .int s.2.1, .int s.2.2.1, .retAddr 0] [] (97, s.2.2.2, J, R) Q) (H := fun x => ∀ R' : Nat → Nat → Option Nat, R' 3 2 = some 21 → R' 3 3 = some 16 → Q (some (.int x.1)) (97, x.2, J, R')) (fun s o hb ho => fun R hR_3_2 hR_3_3 => ?_) _ _ _ h hQ R hR_3_2 hR_3_3
  exact re_X_withWhom_31_b_21_16 hR_3_2 hR_3_3 hb ho
set_option maxRecDepth 100000 in
set_option maxHeartbeats 4000000 in
theorem re_X_withWhom_21_16 {ex : az_X} {I : Nat → Nat → Int32} {J : Nat → Nat → Int64} {R : Nat → Nat → Option Nat} {a1 : Int32} {a2 : Int32} (hR_3_2 : R 3 2 = some 21) (hR_3_3 : R 3 3 = some 16) {o : Int32 × (Nat → Nat → Int32)} (h : rs_X_withWhom 16 21 I a1 a2 = some o) {Q : Option Value → az_S → Prop} (hQ : ∀ R' : Nat → Nat → Option Nat, R' 3 2 = some 21 → R' 3 3 = some 16 → Q (some (.int o.1)) (97, o.2, J, R')) : az_E az_F ex 6 96 0 [.ref 3, .int a1, .int a2, .retAddr 0, .retAddr 0, .retAddr 0, .retAddr 0] [] (97, I, J, R) Q := by
  unfold rs_X_withWhom at h
  refine az_E.sn 1 (pc' := 1) (L' := [.ref 3, .int a1, .int a2, .retAddr 0, .retAddr 0, .retAddr 0, .retAddr 0]) (S' := [.int a1]) (σ' := (97, I, J, R)) rfl ?_
  cases hx_2 : rs_X_isFromTo a1 with
  | none => rw [hx_2] at h; cases h
  | some x_1 =>
    rw [hx_2] at h
    dsimp only at h
    refine az_E.call (d := 5) (k' := 134) (vs := [.int a1]) (pc' := 4) (S' := []) (Q1 := fun v s => v = some (.int x_1) ∧ s = (97, I, J, R)) rfl (az_E.deep (by omega) (re_X_isFromTo (J := J) (R := R)  hx_2 ⟨rfl, rfl⟩)) (fun v s hq => ?_)
    obtain ⟨rfl, rfl⟩ := hq
    show az_E az_F ex 6 96 4 [.ref 3, .int a1, .int a2, .retAddr 0, .retAddr 0, .retAddr 0, .retAddr 0] [.int x_1] (97, I, J, R) _
    refine az_E.br (c := x_1 = 0) (tt := 15) (ff := 7) (L' := [.ref 3, .int a1, .int a2, .retAddr 0, .retAddr 0, .retAddr 0, .retAddr 0]) (S' := []) (σ' := (97, I, J, R)) rfl (fun hc_3 => ?_) (fun hc_3 => ?_)
    · rw [if_pos hc_3] at h
      refine az_E.sn 1 (pc' := 16) (L' := [.ref 3, .int a1, .int a2, .retAddr 0, .retAddr 0, .retAddr 0, .retAddr 0]) (S' := [.int (-1 : Int32)]) (σ' := (97, I, J, R)) rfl ?_
      have h := Option.some.inj h
      subst h
      exact az_E.ret (v := some (.int (-1 : Int32))) (σ' := (97, I, J, R)) rfl (hQ _ hR_3_2 hR_3_3)
    · rw [if_neg hc_3] at h
      refine az_E.sn 2 (pc' := 9) (L' := [.ref 3, .int a1, .int a2, .retAddr 0, .retAddr 0, .retAddr 0, .retAddr 0]) (S' := [.int a2, .ref 3]) (σ' := (97, I, J, R)) rfl ?_
      refine az_E.call (d := 5) (k' := 138) (vs := [.ref 3, .int a2]) (pc' := 12) (S' := []) rfl ?_ (fun _ _ hq => hq)
      show az_E az_F ex 5 138 0 [.ref 3, .int a2] [] (97, I, J, R) _
      refine az_E.sn 7 (pc' := 11) (L' := [.ref 3, .int a2]) (S' := [.int ((I 4 9) - (1 : Int32)), .int (0 : Int32), .int a2]) (σ' := (97, I, J, R)) rfl ?_
      refine az_E.call (d := 4) (k' := 131) (vs := [.int a2, .int (0 : Int32), .int ((I 4 9) - (1 : Int32))]) (pc' := 14) (S' := []) rfl ?_ (fun _ _ hq => hq)
      show az_E az_F ex 4 131 0 [.int a2, .int (0 : Int32), .int ((I 4 9) - (1 : Int32))] [] (97, I, J, R) _
      refine az_E.sn 2 (pc' := 2) (L' := [.int a2, .int (0 : Int32), .int ((I 4 9) - (1 : Int32))]) (S' := [.int (0 : Int32), .int a2]) (σ' := (97, I, J, R)) rfl ?_
      refine az_E.br (c := a2 < (0 : Int32)) (tt := 14) (ff := 5) (L' := [.int a2, .int (0 : Int32), .int ((I 4 9) - (1 : Int32))]) (S' := []) (σ' := (97, I, J, R)) rfl (fun hc_4 => ?_) (fun hc_4 => ?_)
      · rw [if_pos hc_4] at h
        refine az_E.sn 1 (pc' := 15) (L' := [.int a2, .int (0 : Int32), .int ((I 4 9) - (1 : Int32))]) (S' := [.int (0 : Int32)]) (σ' := (97, I, J, R)) rfl ?_
        refine az_E.ret (v := some (.int (0 : Int32))) (σ' := (97, I, J, R)) rfl ?_
        show az_E az_F ex 5 138 14 [.ref 3, .int a2] [.int (0 : Int32)] (97, I, J, R) _
        refine az_E.ret (v := some (.int (0 : Int32))) (σ' := (97, I, J, R)) rfl ?_
        show az_E az_F ex 6 96 12 [.ref 3, .int a1, .int a2, .retAddr 0, .retAddr 0, .retAddr 0, .retAddr 0] [.int (0 : Int32)] (97, I, J, R) _
        refine az_E.br (c := (0 : Int32) = 0) (tt := 15) (ff := 17) (L' := [.ref 3, .int a1, .int a2, .retAddr 0, .retAddr 0, .retAddr 0, .retAddr 0]) (S' := []) (σ' := (97, I, J, R)) rfl (fun _ => ?_) (fun hn => absurd (by decide) hn)
        refine az_E.sn 1 (pc' := 16) (L' := [.ref 3, .int a1, .int a2, .retAddr 0, .retAddr 0, .retAddr 0, .retAddr 0]) (S' := [.int (-1 : Int32)]) (σ' := (97, I, J, R)) rfl ?_
        have h := Option.some.inj h
        subst h
        exact az_E.ret (v := some (.int (-1 : Int32))) (σ' := (97, I, J, R)) rfl (hQ _ hR_3_2 hR_3_3)
      · rw [if_neg hc_4] at h
        refine az_E.sn 2 (pc' := 7) (L' := [.int a2, .int (0 : Int32), .int ((I 4 9) - (1 : Int32))]) (S' := [.int ((I 4 9) - (1 : Int32)), .int a2]) (σ' := (97, I, J, R)) rfl ?_
        refine az_E.br (c := ((I 4 9) - (1 : Int32)) < a2) (tt := 14) (ff := 10) (L' := [.int a2, .int (0 : Int32), .int ((I 4 9) - (1 : Int32))]) (S' := []) (σ' := (97, I, J, R)) rfl (fun hc_5 => ?_) (fun hc_5 => ?_)
        · rw [if_pos hc_5] at h
          refine az_E.sn 1 (pc' := 15) (L' := [.int a2, .int (0 : Int32), .int ((I 4 9) - (1 : Int32))]) (S' := [.int (0 : Int32)]) (σ' := (97, I, J, R)) rfl ?_
          refine az_E.ret (v := some (.int (0 : Int32))) (σ' := (97, I, J, R)) rfl ?_
          show az_E az_F ex 5 138 14 [.ref 3, .int a2] [.int (0 : Int32)] (97, I, J, R) _
          refine az_E.ret (v := some (.int (0 : Int32))) (σ' := (97, I, J, R)) rfl ?_
          show az_E az_F ex 6 96 12 [.ref 3, .int a1, .int a2, .retAddr 0, .retAddr 0, .retAddr 0, .retAddr 0] [.int (0 : Int32)] (97, I, J, R) _
          refine az_E.br (c := (0 : Int32) = 0) (tt := 15) (ff := 17) (L' := [.ref 3, .int a1, .int a2, .retAddr 0, .retAddr 0, .retAddr 0, .retAddr 0]) (S' := []) (σ' := (97, I, J, R)) rfl (fun _ => ?_) (fun hn => absurd (by decide) hn)
          refine az_E.sn 1 (pc' := 16) (L' := [.ref 3, .int a1, .int a2, .retAddr 0, .retAddr 0, .retAddr 0, .retAddr 0]) (S' := [.int (-1 : Int32)]) (σ' := (97, I, J, R)) rfl ?_
          have h := Option.some.inj h
          subst h
          exact az_E.ret (v := some (.int (-1 : Int32))) (σ' := (97, I, J, R)) rfl (hQ _ hR_3_2 hR_3_3)
        · rw [if_neg hc_5] at h
          refine az_E.sn 2 (pc' := 15) (L' := [.int a2, .int (0 : Int32), .int ((I 4 9) - (1 : Int32))]) (S' := [.int (1 : Int32)]) (σ' := (97, I, J, R)) rfl ?_
          refine az_E.ret (v := some (.int (1 : Int32))) (σ' := (97, I, J, R)) rfl ?_
          show az_E az_F ex 5 138 14 [.ref 3, .int a2] [.int (1 : Int32)] (97, I, J, R) _
          refine az_E.ret (v := some (.int (1 : Int32))) (σ' := (97, I, J, R)) rfl ?_
          show az_E az_F ex 6 96 12 [.ref 3, .int a1, .int a2, .retAddr 0, .retAddr 0, .retAddr 0, .retAddr 0] [.int (1 : Int32)] (97, I, J, R) _
          refine az_E.br (c := (1 : Int32) = 0) (tt := 15) (ff := 17) (L' := [.ref 3, .int a1, .int a2, .retAddr 0, .retAddr 0, .retAddr 0, .retAddr 0]) (S' := []) (σ' := (97, I, J, R)) rfl (fun hn => absurd hn (by decide)) (fun _ => ?_)
          refine az_E.sn 2 (pc' := 19) (L' := [.ref 3, .int a1, .int a2, .retAddr 0, .retAddr 0, .retAddr 0, .retAddr 0]) (S' := [.int a2, .ref 3]) (σ' := (97, I, J, R)) rfl ?_
          cases hx_7 : rs_X_setPace 21 I a2 with
          | none => rw [hx_7] at h; cases h
          | some I_6 =>
            rw [hx_7] at h
            dsimp only at h
            refine az_E.call (d := 5) (k' := 144) (vs := [.ref 3, .int a2]) (pc' := 22) (S' := []) (Q1 := fun v s => v = none ∧ s = (97, I_6, J, (az_u (az_u R 26 2 (some 21)) 26 3 (some 5)))) rfl (az_E.deep (by omega) (re_X_setPace_21 (J := J) (R := R) hR_3_2 hx_7 ⟨rfl, rfl⟩)) (fun v s hq => ?_)
            obtain ⟨rfl, rfl⟩ := hq
            show az_E az_F ex 6 96 22 [.ref 3, .int a1, .int a2, .retAddr 0, .retAddr 0, .retAddr 0, .retAddr 0] [] (97, I_6, J, (az_u (az_u R 26 2 (some 21)) 26 3 (some 5))) _
            refine az_E.sn 6 (pc' := 31) (L' := [.ref 3, .int a1, .int a2, .int (-2 : Int32), .int (0 : Int32), .int (0 : Int32), .retAddr 0]) (S' := []) (σ' := (97, I_6, J, (az_u (az_u R 26 2 (some 21)) 26 3 (some 5)))) rfl ?_
            exact az_E.forget (L := [.ref 3, .int a1, .int a2, .int (-2 : Int32), .int (0 : Int32), .int (0 : Int32), .retAddr 0]) ⟨rfl, rfl, rfl, rfl, rfl, rfl, trivial, trivial⟩ (re_X_withWhom_31_21_16 (I := I_6) (J := J) (R := (az_u (az_u R 26 2 (some 21)) 26 3 (some 5))) hR_3_2 hR_3_3 h hQ)
set_option maxRecDepth 100000 in
set_option maxHeartbeats 4000000 in
theorem re_X_meet_171_21_16 {ex : az_X} {I : Nat → Nat → Int32} {J : Nat → Nat → Int64} {R : Nat → Nat → Option Nat} {v3 : Int32} {v4 : Int32} {v5 : Int32} (hR_3_2 : R 3 2 = some 21) (hR_3_3 : R 3 3 = some 16) {x : Int32 × (Nat → Nat → Int32)} (h : rs_X_meet_171 16 21 I v3 v4 v5 = some x) {Q : Option Value → az_S → Prop} (hQ : ∀ R' : Nat → Nat → Option Nat, R' 3 2 = some 21 → R' 3 3 = some 16 → Q (some (.int x.1)) (97, x.2, J, R')) : az_E az_F ex 6 97 171 [.retAddr 0, .retAddr 0, .retAddr 0, .int v3, .int v4, .int v5, .retAddr 0, .retAddr 0] [] (97, I, J, (az_u (az_u (az_u (az_u R 26 2 (some 21)) 26 3 (some 5)) 26 2 (some 21)) 26 3 (some 5))) Q := by
  unfold rs_X_meet_171 at h
  refine az_E.sn 1 (pc' := 172) (L' := [.retAddr 0, .retAddr 0, .retAddr 0, .int v3, .int v4, .int v5, .retAddr 0, .retAddr 0]) (S' := [.int v3]) (σ' := (97, I, J, (az_u (az_u (az_u (az_u R 26 2 (some 21)) 26 3 (some 5)) 26 2 (some 21)) 26 3 (some 5)))) rfl ?_
  refine az_E.br (c := v3 = 0) (tt := 175) (ff := 180) (L' := [.retAddr 0, .retAddr 0, .retAddr 0, .int v3, .int v4, .int v5, .retAddr 0, .retAddr 0]) (S' := []) (σ' := (97, I, J, (az_u (az_u (az_u (az_u R 26 2 (some 21)) 26 3 (some 5)) 26 2 (some 21)) 26 3 (some 5)))) rfl (fun hc_23 => ?_) (fun hc_23 => ?_)
  · rw [if_pos hc_23] at h
    refine az_E.sn 2 (pc' := 182) (L' := [.retAddr 0, .retAddr 0, .retAddr 0, .int v3, .int v4, .int v5, .retAddr 0, .retAddr 0]) (S' := [.int v4]) (σ' := (97, I, J, (az_u (az_u (az_u (az_u R 26 2 (some 21)) 26 3 (some 5)) 26 2 (some 21)) 26 3 (some 5)))) rfl ?_
    have h := Option.some.inj h
    subst h
    exact az_E.ret (v := some (.int v4)) (σ' := (97, I, J, (az_u (az_u (az_u (az_u R 26 2 (some 21)) 26 3 (some 5)) 26 2 (some 21)) 26 3 (some 5)))) rfl (hQ _ hR_3_2 hR_3_3)
  · rw [if_neg hc_23] at h
    refine az_E.sn 1 (pc' := 182) (L' := [.retAddr 0, .retAddr 0, .retAddr 0, .int v3, .int v4, .int v5, .retAddr 0, .retAddr 0]) (S' := [.int v5]) (σ' := (97, I, J, (az_u (az_u (az_u (az_u R 26 2 (some 21)) 26 3 (some 5)) 26 2 (some 21)) 26 3 (some 5)))) rfl ?_
    have h := Option.some.inj h
    subst h
    exact az_E.ret (v := some (.int v5)) (σ' := (97, I, J, (az_u (az_u (az_u (az_u R 26 2 (some 21)) 26 3 (some 5)) 26 2 (some 21)) 26 3 (some 5)))) rfl (hQ _ hR_3_2 hR_3_3)
set_option maxRecDepth 100000 in
set_option maxHeartbeats 4000000 in
theorem re_X_meet_117_b_21_16 {ex : az_X} {I : Nat → Nat → Int32} {J : Nat → Nat → Int64} {R : Nat → Nat → Option Nat} {v3 : Int32} {v4 : Int32} {v5 : Int32} {v6 : Int32} (hR_3_2 : R 3 2 = some 21) (hR_3_3 : R 3 3 = some 16) {x : ((Int32 × Int32 × Int32) ⊕ (Int32 × (Nat → Nat → Int32)))} (h : rs_X_meet_117_b 16 21 I v3 v4 v5 v6 = some x) {Q : Option Value → az_S → Prop} (hQ : Sum.elim (fun s => az_E az_F ex 6 97 117 [.ref 3, .retAddr 0, .retAddr 0, .int v3, .int s.1, .int s.2.1, .int s.2.2, .retAddr 0] [] (97, I, J, (az_u (az_u (az_u (az_u R 26 2 (some 21)) 26 3 (some 5)) 26 2 (some 21)) 26 3 (some 5))) Q) (fun x => ∀ R' : Nat → Nat → Option Nat, R' 3 2 = some 21 → R' 3 3 = some 16 → Q (some (.int x.1)) (97, x.2, J, R')) x) : az_E az_F ex 6 97 117 [.ref 3, .retAddr 0, .retAddr 0, .int v3, .int v4, .int v5, .int v6, .retAddr 0] [] (97, I, J, (az_u (az_u (az_u (az_u R 26 2 (some 21)) 26 3 (some 5)) 26 2 (some 21)) 26 3 (some 5))) Q := by
  unfold rs_X_meet_117_b at h
  refine az_E.sn 2 (pc' := 122) (L' := [.ref 3, .retAddr 0, .retAddr 0, .int v3, .int v4, .int v5, .int v6, .retAddr 0]) (S' := [.int (144 : Int32), .int v6]) (σ' := (97, I, J, (az_u (az_u (az_u (az_u R 26 2 (some 21)) 26 3 (some 5)) 26 2 (some 21)) 26 3 (some 5)))) rfl ?_
  refine az_E.br (c := (144 : Int32) ≤ v6) (tt := 171) (ff := 125) (L' := [.ref 3, .retAddr 0, .retAddr 0, .int v3, .int v4, .int v5, .int v6, .retAddr 0]) (S' := []) (σ' := (97, I, J, (az_u (az_u (az_u (az_u R 26 2 (some 21)) 26 3 (some 5)) 26 2 (some 21)) 26 3 (some 5)))) rfl (fun hc_22 => ?_) (fun hc_22 => ?_)
  · rw [if_pos hc_22] at h
    obtain ⟨x, hx, rfl⟩ := Option.map_eq_some_iff.mp h
    exact az_E.forget (L := [.retAddr 0, .retAddr 0, .retAddr 0, .int v3, .int v4, .int v5, .retAddr 0, .retAddr 0]) ⟨trivial, trivial, trivial, rfl, rfl, rfl, trivial, trivial, trivial⟩ (re_X_meet_171_21_16 (I := I) (J := J) (R := R) hR_3_2 hR_3_3 hx hQ)
  · rw [if_neg hc_22] at h
    refine az_E.sn 4 (pc' := 134) (L' := [.ref 3, .retAddr 0, .retAddr 0, .int v3, .int v4, .int v5, .int v6, .retAddr 0]) (S' := [.int v6, .ref 33]) (σ' := (97, I, J, (az_u (az_u (az_u (az_u R 26 2 (some 21)) 26 3 (some 5)) 26 2 (some 21)) 26 3 (some 5)))) rfl ?_
    by_cases hc_24 : v6 < 0 ∨ 144 ≤ v6.toNatClampNeg
    · rw [if_pos hc_24] at h; cases h
    · rw [if_neg hc_24] at h
      refine az_E.oi (o := az_ai az_F ex (97, I, J, (az_u (az_u (az_u (az_u R 26 2 (some 21)) 26 3 (some 5)) 26 2 (some 21)) 26 3 (some 5))) 33 v6) (pc' := 135) (L' := [.ref 3, .retAddr 0, .retAddr 0, .int v3, .int v4, .int v5, .int v6, .retAddr 0]) (S' := []) (σ' := (97, I, J, (az_u (az_u (az_u (az_u R 26 2 (some 21)) 26 3 (some 5)) 26 2 (some 21)) 26 3 (some 5)))) (x := (I 33 v6.toNatClampNeg)) rfl (if_neg hc_24) ?_
      refine az_E.sn 4 (pc' := 144) (L' := [.ref 3, .retAddr 0, .retAddr 0, .int v3, .int v4, .int v5, .int v6, .retAddr 0]) (S' := [.int v6, .ref 34, .int (I 33 v6.toNatClampNeg)]) (σ' := (97, I, J, (az_u (az_u (az_u (az_u R 26 2 (some 21)) 26 3 (some 5)) 26 2 (some 21)) 26 3 (some 5)))) rfl ?_
      by_cases hc_25 : v6 < 0 ∨ 144 ≤ v6.toNatClampNeg
      · rw [if_pos hc_25] at h; cases h
      · rw [if_neg hc_25] at h
        refine az_E.oi (o := az_ai az_F ex (97, I, J, (az_u (az_u (az_u (az_u R 26 2 (some 21)) 26 3 (some 5)) 26 2 (some 21)) 26 3 (some 5))) 34 v6) (pc' := 145) (L' := [.ref 3, .retAddr 0, .retAddr 0, .int v3, .int v4, .int v5, .int v6, .retAddr 0]) (S' := [.int (I 33 v6.toNatClampNeg)]) (σ' := (97, I, J, (az_u (az_u (az_u (az_u R 26 2 (some 21)) 26 3 (some 5)) 26 2 (some 21)) 26 3 (some 5)))) (x := (I 34 v6.toNatClampNeg)) rfl (if_neg hc_25) ?_
        refine az_E.sn 4 (pc' := 154) (L' := [.ref 3, .retAddr 0, .retAddr 0, .int v3, .int v4, .int v5, .int v6, .int (if (I 33 v6.toNatClampNeg) < (I 34 v6.toNatClampNeg) then (I 34 v6.toNatClampNeg) else (I 33 v6.toNatClampNeg))]) (S' := [.int v5, .int (if (I 33 v6.toNatClampNeg) < (I 34 v6.toNatClampNeg) then (I 34 v6.toNatClampNeg) else (I 33 v6.toNatClampNeg))]) (σ' := (97, I, J, (az_u (az_u (az_u (az_u R 26 2 (some 21)) 26 3 (some 5)) 26 2 (some 21)) 26 3 (some 5)))) rfl ?_
        refine az_E.br (c := v5 ≤ (if (I 33 v6.toNatClampNeg) < (I 34 v6.toNatClampNeg) then (I 34 v6.toNatClampNeg) else (I 33 v6.toNatClampNeg))) (tt := 165) (ff := 157) (L' := [.ref 3, .retAddr 0, .retAddr 0, .int v3, .int v4, .int v5, .int v6, .int (if (I 33 v6.toNatClampNeg) < (I 34 v6.toNatClampNeg) then (I 34 v6.toNatClampNeg) else (I 33 v6.toNatClampNeg))]) (S' := []) (σ' := (97, I, J, (az_u (az_u (az_u (az_u R 26 2 (some 21)) 26 3 (some 5)) 26 2 (some 21)) 26 3 (some 5)))) rfl (fun hc_26 => ?_) (fun hc_26 => ?_)
        · rw [if_pos hc_26] at h
          refine az_E.sn 2 (pc' := 117) (L' := [.ref 3, .retAddr 0, .retAddr 0, .int v3, .int v4, .int v5, .int (v6 + (1 : Int32)), .int (if (I 33 v6.toNatClampNeg) < (I 34 v6.toNatClampNeg) then (I 34 v6.toNatClampNeg) else (I 33 v6.toNatClampNeg))]) (S' := []) (σ' := (97, I, J, (az_u (az_u (az_u (az_u R 26 2 (some 21)) 26 3 (some 5)) 26 2 (some 21)) 26 3 (some 5)))) rfl ?_
          have h := Option.some.inj h
          subst h
          exact az_E.forget (L := [.ref 3, .retAddr 0, .retAddr 0, .int v3, .int v4, .int v5, .int (v6 + (1 : Int32)), .retAddr 0]) ⟨rfl, trivial, trivial, rfl, rfl, rfl, rfl, trivial, trivial⟩ hQ
        · rw [if_neg hc_26] at h
          refine az_E.sn 6 (pc' := 117) (L' := [.ref 3, .retAddr 0, .retAddr 0, .int v3, .int v6, .int (if (I 33 v6.toNatClampNeg) < (I 34 v6.toNatClampNeg) then (I 34 v6.toNatClampNeg) else (I 33 v6.toNatClampNeg)), .int (v6 + (1 : Int32)), .int (if (I 33 v6.toNatClampNeg) < (I 34 v6.toNatClampNeg) then (I 34 v6.toNatClampNeg) else (I 33 v6.toNatClampNeg))]) (S' := []) (σ' := (97, I, J, (az_u (az_u (az_u (az_u R 26 2 (some 21)) 26 3 (some 5)) 26 2 (some 21)) 26 3 (some 5)))) rfl ?_
          have h := Option.some.inj h
          subst h
          exact az_E.forget (L := [.ref 3, .retAddr 0, .retAddr 0, .int v3, .int v6, .int (if (I 33 v6.toNatClampNeg) < (I 34 v6.toNatClampNeg) then (I 34 v6.toNatClampNeg) else (I 33 v6.toNatClampNeg)), .int (v6 + (1 : Int32)), .retAddr 0]) ⟨rfl, trivial, trivial, rfl, rfl, rfl, rfl, trivial, trivial⟩ hQ
set_option maxRecDepth 100000 in
set_option maxHeartbeats 4000000 in
theorem re_X_meet_117_21_16 {ex : az_X} {I : Nat → Nat → Int32} {J : Nat → Nat → Int64} {R : Nat → Nat → Option Nat} {v3 : Int32} {v4 : Int32} {v5 : Int32} {v6 : Int32} (hR_3_2 : R 3 2 = some 21) (hR_3_3 : R 3 3 = some 16) {x : Int32 × (Nat → Nat → Int32)} (h : rs_X_meet_117 16 21 I v3 v4 v5 v6 = some x) {Q : Option Value → az_S → Prop} (hQ : ∀ R' : Nat → Nat → Option Nat, R' 3 2 = some 21 → R' 3 3 = some 16 → Q (some (.int x.1)) (97, x.2, J, R')) : az_E az_F ex 6 97 117 [.ref 3, .retAddr 0, .retAddr 0, .int v3, .int v4, .int v5, .int v6, .retAddr 0] [] (97, I, J, (az_u (az_u (az_u (az_u R 26 2 (some 21)) 26 3 (some 5)) 26 2 (some 21)) 26 3 (some 5))) Q := by
  unfold rs_X_meet_117 at h
  refine az_lp_E (G := fun s => az_E az_F ex 6 97 117 [.ref 3, .retAddr 0, .retAddr 0, .int v3, .int s.1, .int s.2.1, .int s.2.2, .retAddr 0] [] (97, I, J, (az_u (az_u (az_u (az_u R 26 2 (some 21)) 26 3 (some 5)) 26 2 (some 21)) 26 3 (some 5))) Q) (H := fun x => ∀ R' : Nat → Nat → Option Nat, R' 3 2 = some 21 → R' 3 3 = some 16 → Q (some (.int x.1)) (97, x.2, J, R')) (fun s o hb ho => ?_) _ _ _ h hQ
  exact re_X_meet_117_b_21_16 hR_3_2 hR_3_3 hb ho
set_option maxRecDepth 100000 in
set_option maxHeartbeats 4000000 in
theorem re_X_meet_21_16 {ex : az_X} {I : Nat → Nat → Int32} {J : Nat → Nat → Int64} {R : Nat → Nat → Option Nat} {a1 : Int32} {a2 : Int32} {a3 : Int32} (hR_3_2 : R 3 2 = some 21) (hR_3_3 : R 3 3 = some 16) {o : Int32 × (Nat → Nat → Int32)} (h : rs_X_meet 16 21 I a1 a2 a3 = some o) {Q : Option Value → az_S → Prop} (hQ : ∀ R' : Nat → Nat → Option Nat, R' 3 2 = some 21 → R' 3 3 = some 16 → Q (some (.int o.1)) (97, o.2, J, R')) : az_E az_F ex 6 97 0 [.ref 3, .int a1, .int a2, .int a3, .retAddr 0, .retAddr 0, .retAddr 0, .retAddr 0] [] (97, I, J, R) Q := by
  unfold rs_X_meet at h
  refine az_E.sn 1 (pc' := 1) (L' := [.ref 3, .int a1, .int a2, .int a3, .retAddr 0, .retAddr 0, .retAddr 0, .retAddr 0]) (S' := [.int a1]) (σ' := (97, I, J, R)) rfl ?_
  cases hx_2 : rs_X_isFromTo a1 with
  | none => rw [hx_2] at h; cases h
  | some x_1 =>
    rw [hx_2] at h
    dsimp only at h
    refine az_E.call (d := 5) (k' := 134) (vs := [.int a1]) (pc' := 4) (S' := []) (Q1 := fun v s => v = some (.int x_1) ∧ s = (97, I, J, R)) rfl (az_E.deep (by omega) (re_X_isFromTo (J := J) (R := R)  hx_2 ⟨rfl, rfl⟩)) (fun v s hq => ?_)
    obtain ⟨rfl, rfl⟩ := hq
    show az_E az_F ex 6 97 4 [.ref 3, .int a1, .int a2, .int a3, .retAddr 0, .retAddr 0, .retAddr 0, .retAddr 0] [.int x_1] (97, I, J, R) _
    refine az_E.br (c := x_1 = 0) (tt := 22) (ff := 7) (L' := [.ref 3, .int a1, .int a2, .int a3, .retAddr 0, .retAddr 0, .retAddr 0, .retAddr 0]) (S' := []) (σ' := (97, I, J, R)) rfl (fun hc_3 => ?_) (fun hc_3 => ?_)
    · rw [if_pos hc_3] at h
      refine az_E.sn 1 (pc' := 23) (L' := [.ref 3, .int a1, .int a2, .int a3, .retAddr 0, .retAddr 0, .retAddr 0, .retAddr 0]) (S' := [.int (-1 : Int32)]) (σ' := (97, I, J, R)) rfl ?_
      have h := Option.some.inj h
      subst h
      exact az_E.ret (v := some (.int (-1 : Int32))) (σ' := (97, I, J, R)) rfl (hQ _ hR_3_2 hR_3_3)
    · rw [if_neg hc_3] at h
      refine az_E.sn 2 (pc' := 9) (L' := [.ref 3, .int a1, .int a2, .int a3, .retAddr 0, .retAddr 0, .retAddr 0, .retAddr 0]) (S' := [.int a2, .ref 3]) (σ' := (97, I, J, R)) rfl ?_
      cases hx_5 : rs_X_areTwoWalkers I a2 with
      | none => rw [hx_5] at h; cases h
      | some x_4 =>
        rw [hx_5] at h
        dsimp only at h
        refine az_E.call (d := 5) (k' := 140) (vs := [.ref 3, .int a2]) (pc' := 12) (S' := []) (Q1 := fun v s => v = some (.int x_4) ∧ s = (97, I, J, R)) rfl (az_E.deep (by omega) (re_X_areTwoWalkers (J := J) (R := R)  hx_5 ⟨rfl, rfl⟩)) (fun v s hq => ?_)
        obtain ⟨rfl, rfl⟩ := hq
        show az_E az_F ex 6 97 12 [.ref 3, .int a1, .int a2, .int a3, .retAddr 0, .retAddr 0, .retAddr 0, .retAddr 0] [.int x_4] (97, I, J, R) _
        refine az_E.br (c := x_4 = 0) (tt := 22) (ff := 15) (L' := [.ref 3, .int a1, .int a2, .int a3, .retAddr 0, .retAddr 0, .retAddr 0, .retAddr 0]) (S' := []) (σ' := (97, I, J, R)) rfl (fun hc_6 => ?_) (fun hc_6 => ?_)
        · rw [if_pos hc_6] at h
          refine az_E.sn 1 (pc' := 23) (L' := [.ref 3, .int a1, .int a2, .int a3, .retAddr 0, .retAddr 0, .retAddr 0, .retAddr 0]) (S' := [.int (-1 : Int32)]) (σ' := (97, I, J, R)) rfl ?_
          have h := Option.some.inj h
          subst h
          exact az_E.ret (v := some (.int (-1 : Int32))) (σ' := (97, I, J, R)) rfl (hQ _ hR_3_2 hR_3_3)
        · rw [if_neg hc_6] at h
          refine az_E.sn 1 (pc' := 16) (L' := [.ref 3, .int a1, .int a2, .int a3, .retAddr 0, .retAddr 0, .retAddr 0, .retAddr 0]) (S' := [.int a3]) (σ' := (97, I, J, R)) rfl ?_
          refine az_E.call (d := 5) (k' := 132) (vs := [.int a3]) (pc' := 19) (S' := []) rfl ?_ (fun _ _ hq => hq)
          show az_E az_F ex 5 132 0 [.int a3] [] (97, I, J, R) _
          refine az_E.sn 1 (pc' := 1) (L' := [.int a3]) (S' := [.int a3]) (σ' := (97, I, J, R)) rfl ?_
          refine az_E.br (c := a3 = 0) (tt := 9) (ff := 4) (L' := [.int a3]) (S' := []) (σ' := (97, I, J, R)) rfl (fun hc_7 => ?_) (fun hc_7 => ?_)
          · rw [if_pos hc_7] at h
            refine az_E.sn 2 (pc' := 14) (L' := [.int a3]) (S' := [.int (1 : Int32)]) (σ' := (97, I, J, R)) rfl ?_
            refine az_E.ret (v := some (.int (1 : Int32))) (σ' := (97, I, J, R)) rfl ?_
            show az_E az_F ex 6 97 19 [.ref 3, .int a1, .int a2, .int a3, .retAddr 0, .retAddr 0, .retAddr 0, .retAddr 0] [.int (1 : Int32)] (97, I, J, R) _
            refine az_E.br (c := (1 : Int32) = 0) (tt := 22) (ff := 24) (L' := [.ref 3, .int a1, .int a2, .int a3, .retAddr 0, .retAddr 0, .retAddr 0, .retAddr 0]) (S' := []) (σ' := (97, I, J, R)) rfl (fun hn => absurd hn (by decide)) (fun _ => ?_)
            refine az_E.sn 3 (pc' := 28) (L' := [.ref 3, .int a1, .int a2, .int a3, .retAddr 0, .retAddr 0, .retAddr 0, .retAddr 0]) (S' := [.int (10 : Int32), .int a2, .ref 3]) (σ' := (97, I, J, R)) rfl ?_
            have hd_8 : ¬ ((10 : Int32) = 0) := by decide
            refine az_E.dv (c := (10 : Int32) = 0) (pc' := 29) (L' := [.ref 3, .int a1, .int a2, .int a3, .retAddr 0, .retAddr 0, .retAddr 0, .retAddr 0]) (S' := [.int (a2 / (10 : Int32)), .ref 3]) (σ' := (97, I, J, R)) rfl hd_8 ?_
            cases hx_10 : rs_X_setPace 21 I (a2 / (10 : Int32)) with
            | none => rw [hx_10] at h; cases h
            | some I_9 =>
              rw [hx_10] at h
              dsimp only at h
              refine az_E.call (d := 5) (k' := 144) (vs := [.ref 3, .int (a2 / (10 : Int32))]) (pc' := 32) (S' := []) (Q1 := fun v s => v = none ∧ s = (97, I_9, J, (az_u (az_u R 26 2 (some 21)) 26 3 (some 5)))) rfl (az_E.deep (by omega) (re_X_setPace_21 (J := J) (R := R) hR_3_2 hx_10 ⟨rfl, rfl⟩)) (fun v s hq => ?_)
              obtain ⟨rfl, rfl⟩ := hq
              show az_E az_F ex 6 97 32 [.ref 3, .int a1, .int a2, .int a3, .retAddr 0, .retAddr 0, .retAddr 0, .retAddr 0] [] (97, I_9, J, (az_u (az_u R 26 2 (some 21)) 26 3 (some 5))) _
              refine az_E.sn 5 (pc' := 41) (L' := [.ref 3, .int a1, .int a2, .int a3, .retAddr 0, .retAddr 0, .retAddr 0, .retAddr 0]) (S' := [.int a1, .ref 26, .ref 32]) (σ' := (97, I_9, J, (az_u (az_u R 26 2 (some 21)) 26 3 (some 5)))) rfl ?_
              refine az_E.call (d := 5) (k' := 135) (vs := [.int a1]) (pc' := 44) (S' := [.ref 26, .ref 32]) rfl ?_ (fun _ _ hq => hq)
              show az_E az_F ex 5 135 0 [.int a1] [] (97, I_9, J, (az_u (az_u R 26 2 (some 21)) 26 3 (some 5))) _
              refine az_E.sn 2 (pc' := 4) (L' := [.int a1]) (S' := [.int (1000 : Int32), .int a1]) (σ' := (97, I_9, J, (az_u (az_u R 26 2 (some 21)) 26 3 (some 5)))) rfl ?_
              have hd_11 : ¬ ((1000 : Int32) = 0) := by decide
              refine az_E.dv (c := (1000 : Int32) = 0) (pc' := 5) (L' := [.int a1]) (S' := [.int (a1 / (1000 : Int32))]) (σ' := (97, I_9, J, (az_u (az_u R 26 2 (some 21)) 26 3 (some 5)))) rfl hd_11 ?_
              refine az_E.ret (v := some (.int (a1 / (1000 : Int32)))) (σ' := (97, I_9, J, (az_u (az_u R 26 2 (some 21)) 26 3 (some 5)))) rfl ?_
              show az_E az_F ex 6 97 44 [.ref 3, .int a1, .int a2, .int a3, .retAddr 0, .retAddr 0, .retAddr 0, .retAddr 0] [.int (a1 / (1000 : Int32)), .ref 26, .ref 32] (97, I_9, J, (az_u (az_u R 26 2 (some 21)) 26 3 (some 5))) _
              refine az_E.sn 5 (pc' := 53) (L' := [.ref 3, .int a1, .int a2, .int a3, .retAddr 0, .retAddr 0, .retAddr 0, .retAddr 0]) (S' := [.ref 33, .int (-1 : Int32), .int (0 : Int32), .int (a1 / (1000 : Int32)), .ref 26, .ref 32]) (σ' := (97, I_9, J, (az_u (az_u R 26 2 (some 21)) 26 3 (some 5)))) rfl ?_
              cases hx_13 : rs_Fi_spread 26 33 I_9 (a1 / (1000 : Int32)) (0 : Int32) (-1 : Int32) with
              | none => rw [hx_13] at h; cases h
              | some I_12 =>
                rw [hx_13] at h
                dsimp only at h
                refine az_E.call (d := 5) (k' := 17) (vs := [.ref 32, .ref 26, .int (a1 / (1000 : Int32)), .int (0 : Int32), .int (-1 : Int32), .ref 33]) (pc' := 56) (S' := []) (Q1 := fun v s => v = none ∧ s = (97, I_12, J, (az_u (az_u R 26 2 (some 21)) 26 3 (some 5)))) rfl (az_E.deep (by omega) (re_Fi_spread_26_33_5 (J := J) (R := (az_u (az_u R 26 2 (some 21)) 26 3 (some 5))) rfl hx_13 ⟨rfl, rfl⟩)) (fun v s hq => ?_)
                obtain ⟨rfl, rfl⟩ := hq
                show az_E az_F ex 6 97 56 [.ref 3, .int a1, .int a2, .int a3, .retAddr 0, .retAddr 0, .retAddr 0, .retAddr 0] [] (97, I_12, J, (az_u (az_u R 26 2 (some 21)) 26 3 (some 5))) _
                refine az_E.sn 3 (pc' := 60) (L' := [.ref 3, .int a1, .int a2, .int a3, .retAddr 0, .retAddr 0, .retAddr 0, .retAddr 0]) (S' := [.int (10 : Int32), .int a2, .ref 3]) (σ' := (97, I_12, J, (az_u (az_u R 26 2 (some 21)) 26 3 (some 5)))) rfl ?_
                have hd_14 : ¬ ((10 : Int32) = 0) := by decide
                refine az_E.dv (c := (10 : Int32) = 0) (pc' := 61) (L' := [.ref 3, .int a1, .int a2, .int a3, .retAddr 0, .retAddr 0, .retAddr 0, .retAddr 0]) (S' := [.int (a2 - a2 / (10 : Int32) * (10 : Int32)), .ref 3]) (σ' := (97, I_12, J, (az_u (az_u R 26 2 (some 21)) 26 3 (some 5)))) rfl hd_14 ?_
                cases hx_16 : rs_X_setPace 21 I_12 (a2 - a2 / (10 : Int32) * (10 : Int32)) with
                | none => rw [hx_16] at h; cases h
                | some I_15 =>
                  rw [hx_16] at h
                  dsimp only at h
                  refine az_E.call (d := 5) (k' := 144) (vs := [.ref 3, .int (a2 - a2 / (10 : Int32) * (10 : Int32))]) (pc' := 64) (S' := []) (Q1 := fun v s => v = none ∧ s = (97, I_15, J, (az_u (az_u (az_u (az_u R 26 2 (some 21)) 26 3 (some 5)) 26 2 (some 21)) 26 3 (some 5)))) rfl (az_E.deep (by omega) (re_X_setPace_21 (J := J) (R := (az_u (az_u R 26 2 (some 21)) 26 3 (some 5))) hR_3_2 hx_16 ⟨rfl, rfl⟩)) (fun v s hq => ?_)
                  obtain ⟨rfl, rfl⟩ := hq
                  show az_E az_F ex 6 97 64 [.ref 3, .int a1, .int a2, .int a3, .retAddr 0, .retAddr 0, .retAddr 0, .retAddr 0] [] (97, I_15, J, (az_u (az_u (az_u (az_u R 26 2 (some 21)) 26 3 (some 5)) 26 2 (some 21)) 26 3 (some 5))) _
                  refine az_E.sn 5 (pc' := 73) (L' := [.ref 3, .int a1, .int a2, .int a3, .retAddr 0, .retAddr 0, .retAddr 0, .retAddr 0]) (S' := [.int a1, .ref 26, .ref 32]) (σ' := (97, I_15, J, (az_u (az_u (az_u (az_u R 26 2 (some 21)) 26 3 (some 5)) 26 2 (some 21)) 26 3 (some 5)))) rfl ?_
                  refine az_E.call (d := 5) (k' := 136) (vs := [.int a1]) (pc' := 76) (S' := [.ref 26, .ref 32]) rfl ?_ (fun _ _ hq => hq)
                  show az_E az_F ex 5 136 0 [.int a1] [] (97, I_15, J, (az_u (az_u (az_u (az_u R 26 2 (some 21)) 26 3 (some 5)) 26 2 (some 21)) 26 3 (some 5))) _
                  refine az_E.sn 2 (pc' := 4) (L' := [.int a1]) (S' := [.int (1000 : Int32), .int a1]) (σ' := (97, I_15, J, (az_u (az_u (az_u (az_u R 26 2 (some 21)) 26 3 (some 5)) 26 2 (some 21)) 26 3 (some 5)))) rfl ?_
                  have hd_17 : ¬ ((1000 : Int32) = 0) := by decide
                  refine az_E.dv (c := (1000 : Int32) = 0) (pc' := 5) (L' := [.int a1]) (S' := [.int (a1 - a1 / (1000 : Int32) * (1000 : Int32))]) (σ' := (97, I_15, J, (az_u (az_u (az_u (az_u R 26 2 (some 21)) 26 3 (some 5)) 26 2 (some 21)) 26 3 (some 5)))) rfl hd_17 ?_
                  refine az_E.ret (v := some (.int (a1 - a1 / (1000 : Int32) * (1000 : Int32)))) (σ' := (97, I_15, J, (az_u (az_u (az_u (az_u R 26 2 (some 21)) 26 3 (some 5)) 26 2 (some 21)) 26 3 (some 5)))) rfl ?_
                  show az_E az_F ex 6 97 76 [.ref 3, .int a1, .int a2, .int a3, .retAddr 0, .retAddr 0, .retAddr 0, .retAddr 0] [.int (a1 - a1 / (1000 : Int32) * (1000 : Int32)), .ref 26, .ref 32] (97, I_15, J, (az_u (az_u (az_u (az_u R 26 2 (some 21)) 26 3 (some 5)) 26 2 (some 21)) 26 3 (some 5))) _
                  refine az_E.sn 5 (pc' := 85) (L' := [.ref 3, .int a1, .int a2, .int a3, .retAddr 0, .retAddr 0, .retAddr 0, .retAddr 0]) (S' := [.ref 34, .int (-1 : Int32), .int (0 : Int32), .int (a1 - a1 / (1000 : Int32) * (1000 : Int32)), .ref 26, .ref 32]) (σ' := (97, I_15, J, (az_u (az_u (az_u (az_u R 26 2 (some 21)) 26 3 (some 5)) 26 2 (some 21)) 26 3 (some 5)))) rfl ?_
                  cases hx_19 : rs_Fi_spread 26 34 I_15 (a1 - a1 / (1000 : Int32) * (1000 : Int32)) (0 : Int32) (-1 : Int32) with
                  | none => rw [hx_19] at h; cases h
                  | some I_18 =>
                    rw [hx_19] at h
                    dsimp only at h
                    refine az_E.call (d := 5) (k' := 17) (vs := [.ref 32, .ref 26, .int (a1 - a1 / (1000 : Int32) * (1000 : Int32)), .int (0 : Int32), .int (-1 : Int32), .ref 34]) (pc' := 88) (S' := []) (Q1 := fun v s => v = none ∧ s = (97, I_18, J, (az_u (az_u (az_u (az_u R 26 2 (some 21)) 26 3 (some 5)) 26 2 (some 21)) 26 3 (some 5)))) rfl (az_E.deep (by omega) (re_Fi_spread_26_34_5 (J := J) (R := (az_u (az_u (az_u (az_u R 26 2 (some 21)) 26 3 (some 5)) 26 2 (some 21)) 26 3 (some 5))) rfl hx_19 ⟨rfl, rfl⟩)) (fun v s hq => ?_)
                    obtain ⟨rfl, rfl⟩ := hq
                    show az_E az_F ex 6 97 88 [.ref 3, .int a1, .int a2, .int a3, .retAddr 0, .retAddr 0, .retAddr 0, .retAddr 0] [] (97, I_18, J, (az_u (az_u (az_u (az_u R 26 2 (some 21)) 26 3 (some 5)) 26 2 (some 21)) 26 3 (some 5))) _
                    refine az_E.sn 6 (pc' := 99) (L' := [.ref 3, .int a1, .int a2, .int a3, .int (0 : Int32), .retAddr 0, .retAddr 0, .retAddr 0]) (S' := [.int (0 : Int32), .ref 33]) (σ' := (97, I_18, J, (az_u (az_u (az_u (az_u R 26 2 (some 21)) 26 3 (some 5)) 26 2 (some 21)) 26 3 (some 5)))) rfl ?_
                    refine az_E.oi (o := az_ai az_F ex (97, I_18, J, (az_u (az_u (az_u (az_u R 26 2 (some 21)) 26 3 (some 5)) 26 2 (some 21)) 26 3 (some 5))) 33 (0 : Int32)) (pc' := 100) (L' := [.ref 3, .int a1, .int a2, .int a3, .int (0 : Int32), .retAddr 0, .retAddr 0, .retAddr 0]) (S' := []) (σ' := (97, I_18, J, (az_u (az_u (az_u (az_u R 26 2 (some 21)) 26 3 (some 5)) 26 2 (some 21)) 26 3 (some 5)))) (x := (I_18 33 0)) rfl rfl ?_
                    refine az_E.sn 4 (pc' := 108) (L' := [.ref 3, .int a1, .int a2, .int a3, .int (0 : Int32), .retAddr 0, .retAddr 0, .retAddr 0]) (S' := [.int (0 : Int32), .ref 34, .int (I_18 33 0)]) (σ' := (97, I_18, J, (az_u (az_u (az_u (az_u R 26 2 (some 21)) 26 3 (some 5)) 26 2 (some 21)) 26 3 (some 5)))) rfl ?_
                    refine az_E.oi (o := az_ai az_F ex (97, I_18, J, (az_u (az_u (az_u (az_u R 26 2 (some 21)) 26 3 (some 5)) 26 2 (some 21)) 26 3 (some 5))) 34 (0 : Int32)) (pc' := 109) (L' := [.ref 3, .int a1, .int a2, .int a3, .int (0 : Int32), .retAddr 0, .retAddr 0, .retAddr 0]) (S' := [.int (I_18 33 0)]) (σ' := (97, I_18, J, (az_u (az_u (az_u (az_u R 26 2 (some 21)) 26 3 (some 5)) 26 2 (some 21)) 26 3 (some 5)))) (x := (I_18 34 0)) rfl rfl ?_
                    refine az_E.sn 4 (pc' := 117) (L' := [.ref 3, .int a1, .int a2, .int a3, .int (0 : Int32), .int (if (I_18 33 0) < (I_18 34 0) then (I_18 34 0) else (I_18 33 0)), .int (1 : Int32), .retAddr 0]) (S' := []) (σ' := (97, I_18, J, (az_u (az_u (az_u (az_u R 26 2 (some 21)) 26 3 (some 5)) 26 2 (some 21)) 26 3 (some 5)))) rfl ?_
                    exact az_E.forget (L := [.ref 3, .retAddr 0, .retAddr 0, .int a3, .int (0 : Int32), .int (if (I_18 33 0) < (I_18 34 0) then (I_18 34 0) else (I_18 33 0)), .int (1 : Int32), .retAddr 0]) ⟨rfl, trivial, trivial, rfl, rfl, rfl, rfl, trivial, trivial⟩ (re_X_meet_117_21_16 (I := I_18) (J := J) (R := R) hR_3_2 hR_3_3 h hQ)
          · rw [if_neg hc_7] at h
            refine az_E.sn 2 (pc' := 6) (L' := [.int a3]) (S' := [.int (1 : Int32), .int a3]) (σ' := (97, I, J, R)) rfl ?_
            refine az_E.br (c := a3 = (1 : Int32)) (tt := 9) (ff := 13) (L' := [.int a3]) (S' := []) (σ' := (97, I, J, R)) rfl (fun hc_27 => ?_) (fun hc_27 => ?_)
            · rw [if_pos hc_27] at h
              refine az_E.sn 2 (pc' := 14) (L' := [.int a3]) (S' := [.int (1 : Int32)]) (σ' := (97, I, J, R)) rfl ?_
              refine az_E.ret (v := some (.int (1 : Int32))) (σ' := (97, I, J, R)) rfl ?_
              show az_E az_F ex 6 97 19 [.ref 3, .int a1, .int a2, .int a3, .retAddr 0, .retAddr 0, .retAddr 0, .retAddr 0] [.int (1 : Int32)] (97, I, J, R) _
              refine az_E.br (c := (1 : Int32) = 0) (tt := 22) (ff := 24) (L' := [.ref 3, .int a1, .int a2, .int a3, .retAddr 0, .retAddr 0, .retAddr 0, .retAddr 0]) (S' := []) (σ' := (97, I, J, R)) rfl (fun hn => absurd hn (by decide)) (fun _ => ?_)
              refine az_E.sn 3 (pc' := 28) (L' := [.ref 3, .int a1, .int a2, .int a3, .retAddr 0, .retAddr 0, .retAddr 0, .retAddr 0]) (S' := [.int (10 : Int32), .int a2, .ref 3]) (σ' := (97, I, J, R)) rfl ?_
              have hd_28 : ¬ ((10 : Int32) = 0) := by decide
              refine az_E.dv (c := (10 : Int32) = 0) (pc' := 29) (L' := [.ref 3, .int a1, .int a2, .int a3, .retAddr 0, .retAddr 0, .retAddr 0, .retAddr 0]) (S' := [.int (a2 / (10 : Int32)), .ref 3]) (σ' := (97, I, J, R)) rfl hd_28 ?_
              cases hx_30 : rs_X_setPace 21 I (a2 / (10 : Int32)) with
              | none => rw [hx_30] at h; cases h
              | some I_29 =>
                rw [hx_30] at h
                dsimp only at h
                refine az_E.call (d := 5) (k' := 144) (vs := [.ref 3, .int (a2 / (10 : Int32))]) (pc' := 32) (S' := []) (Q1 := fun v s => v = none ∧ s = (97, I_29, J, (az_u (az_u R 26 2 (some 21)) 26 3 (some 5)))) rfl (az_E.deep (by omega) (re_X_setPace_21 (J := J) (R := R) hR_3_2 hx_30 ⟨rfl, rfl⟩)) (fun v s hq => ?_)
                obtain ⟨rfl, rfl⟩ := hq
                show az_E az_F ex 6 97 32 [.ref 3, .int a1, .int a2, .int a3, .retAddr 0, .retAddr 0, .retAddr 0, .retAddr 0] [] (97, I_29, J, (az_u (az_u R 26 2 (some 21)) 26 3 (some 5))) _
                refine az_E.sn 5 (pc' := 41) (L' := [.ref 3, .int a1, .int a2, .int a3, .retAddr 0, .retAddr 0, .retAddr 0, .retAddr 0]) (S' := [.int a1, .ref 26, .ref 32]) (σ' := (97, I_29, J, (az_u (az_u R 26 2 (some 21)) 26 3 (some 5)))) rfl ?_
                refine az_E.call (d := 5) (k' := 135) (vs := [.int a1]) (pc' := 44) (S' := [.ref 26, .ref 32]) rfl ?_ (fun _ _ hq => hq)
                show az_E az_F ex 5 135 0 [.int a1] [] (97, I_29, J, (az_u (az_u R 26 2 (some 21)) 26 3 (some 5))) _
                refine az_E.sn 2 (pc' := 4) (L' := [.int a1]) (S' := [.int (1000 : Int32), .int a1]) (σ' := (97, I_29, J, (az_u (az_u R 26 2 (some 21)) 26 3 (some 5)))) rfl ?_
                have hd_31 : ¬ ((1000 : Int32) = 0) := by decide
                refine az_E.dv (c := (1000 : Int32) = 0) (pc' := 5) (L' := [.int a1]) (S' := [.int (a1 / (1000 : Int32))]) (σ' := (97, I_29, J, (az_u (az_u R 26 2 (some 21)) 26 3 (some 5)))) rfl hd_31 ?_
                refine az_E.ret (v := some (.int (a1 / (1000 : Int32)))) (σ' := (97, I_29, J, (az_u (az_u R 26 2 (some 21)) 26 3 (some 5)))) rfl ?_
                show az_E az_F ex 6 97 44 [.ref 3, .int a1, .int a2, .int a3, .retAddr 0, .retAddr 0, .retAddr 0, .retAddr 0] [.int (a1 / (1000 : Int32)), .ref 26, .ref 32] (97, I_29, J, (az_u (az_u R 26 2 (some 21)) 26 3 (some 5))) _
                refine az_E.sn 5 (pc' := 53) (L' := [.ref 3, .int a1, .int a2, .int a3, .retAddr 0, .retAddr 0, .retAddr 0, .retAddr 0]) (S' := [.ref 33, .int (-1 : Int32), .int (0 : Int32), .int (a1 / (1000 : Int32)), .ref 26, .ref 32]) (σ' := (97, I_29, J, (az_u (az_u R 26 2 (some 21)) 26 3 (some 5)))) rfl ?_
                cases hx_33 : rs_Fi_spread 26 33 I_29 (a1 / (1000 : Int32)) (0 : Int32) (-1 : Int32) with
                | none => rw [hx_33] at h; cases h
                | some I_32 =>
                  rw [hx_33] at h
                  dsimp only at h
                  refine az_E.call (d := 5) (k' := 17) (vs := [.ref 32, .ref 26, .int (a1 / (1000 : Int32)), .int (0 : Int32), .int (-1 : Int32), .ref 33]) (pc' := 56) (S' := []) (Q1 := fun v s => v = none ∧ s = (97, I_32, J, (az_u (az_u R 26 2 (some 21)) 26 3 (some 5)))) rfl (az_E.deep (by omega) (re_Fi_spread_26_33_5 (J := J) (R := (az_u (az_u R 26 2 (some 21)) 26 3 (some 5))) rfl hx_33 ⟨rfl, rfl⟩)) (fun v s hq => ?_)
                  obtain ⟨rfl, rfl⟩ := hq
                  show az_E az_F ex 6 97 56 [.ref 3, .int a1, .int a2, .int a3, .retAddr 0, .retAddr 0, .retAddr 0, .retAddr 0] [] (97, I_32, J, (az_u (az_u R 26 2 (some 21)) 26 3 (some 5))) _
                  refine az_E.sn 3 (pc' := 60) (L' := [.ref 3, .int a1, .int a2, .int a3, .retAddr 0, .retAddr 0, .retAddr 0, .retAddr 0]) (S' := [.int (10 : Int32), .int a2, .ref 3]) (σ' := (97, I_32, J, (az_u (az_u R 26 2 (some 21)) 26 3 (some 5)))) rfl ?_
                  have hd_34 : ¬ ((10 : Int32) = 0) := by decide
                  refine az_E.dv (c := (10 : Int32) = 0) (pc' := 61) (L' := [.ref 3, .int a1, .int a2, .int a3, .retAddr 0, .retAddr 0, .retAddr 0, .retAddr 0]) (S' := [.int (a2 - a2 / (10 : Int32) * (10 : Int32)), .ref 3]) (σ' := (97, I_32, J, (az_u (az_u R 26 2 (some 21)) 26 3 (some 5)))) rfl hd_34 ?_
                  cases hx_36 : rs_X_setPace 21 I_32 (a2 - a2 / (10 : Int32) * (10 : Int32)) with
                  | none => rw [hx_36] at h; cases h
                  | some I_35 =>
                    rw [hx_36] at h
                    dsimp only at h
                    refine az_E.call (d := 5) (k' := 144) (vs := [.ref 3, .int (a2 - a2 / (10 : Int32) * (10 : Int32))]) (pc' := 64) (S' := []) (Q1 := fun v s => v = none ∧ s = (97, I_35, J, (az_u (az_u (az_u (az_u R 26 2 (some 21)) 26 3 (some 5)) 26 2 (some 21)) 26 3 (some 5)))) rfl (az_E.deep (by omega) (re_X_setPace_21 (J := J) (R := (az_u (az_u R 26 2 (some 21)) 26 3 (some 5))) hR_3_2 hx_36 ⟨rfl, rfl⟩)) (fun v s hq => ?_)
                    obtain ⟨rfl, rfl⟩ := hq
                    show az_E az_F ex 6 97 64 [.ref 3, .int a1, .int a2, .int a3, .retAddr 0, .retAddr 0, .retAddr 0, .retAddr 0] [] (97, I_35, J, (az_u (az_u (az_u (az_u R 26 2 (some 21)) 26 3 (some 5)) 26 2 (some 21)) 26 3 (some 5))) _
                    refine az_E.sn 5 (pc' := 73) (L' := [.ref 3, .int a1, .int a2, .int a3, .retAddr 0, .retAddr 0, .retAddr 0, .retAddr 0]) (S' := [.int a1, .ref 26, .ref 32]) (σ' := (97, I_35, J, (az_u (az_u (az_u (az_u R 26 2 (some 21)) 26 3 (some 5)) 26 2 (some 21)) 26 3 (some 5)))) rfl ?_
                    refine az_E.call (d := 5) (k' := 136) (vs := [.int a1]) (pc' := 76) (S' := [.ref 26, .ref 32]) rfl ?_ (fun _ _ hq => hq)
                    show az_E az_F ex 5 136 0 [.int a1] [] (97, I_35, J, (az_u (az_u (az_u (az_u R 26 2 (some 21)) 26 3 (some 5)) 26 2 (some 21)) 26 3 (some 5))) _
                    refine az_E.sn 2 (pc' := 4) (L' := [.int a1]) (S' := [.int (1000 : Int32), .int a1]) (σ' := (97, I_35, J, (az_u (az_u (az_u (az_u R 26 2 (some 21)) 26 3 (some 5)) 26 2 (some 21)) 26 3 (some 5)))) rfl ?_
                    have hd_37 : ¬ ((1000 : Int32) = 0) := by decide
                    refine az_E.dv (c := (1000 : Int32) = 0) (pc' := 5) (L' := [.int a1]) (S' := [.int (a1 - a1 / (1000 : Int32) * (1000 : Int32))]) (σ' := (97, I_35, J, (az_u (az_u (az_u (az_u R 26 2 (some 21)) 26 3 (some 5)) 26 2 (some 21)) 26 3 (some 5)))) rfl hd_37 ?_
                    refine az_E.ret (v := some (.int (a1 - a1 / (1000 : Int32) * (1000 : Int32)))) (σ' := (97, I_35, J, (az_u (az_u (az_u (az_u R 26 2 (some 21)) 26 3 (some 5)) 26 2 (some 21)) 26 3 (some 5)))) rfl ?_
                    show az_E az_F ex 6 97 76 [.ref 3, .int a1, .int a2, .int a3, .retAddr 0, .retAddr 0, .retAddr 0, .retAddr 0] [.int (a1 - a1 / (1000 : Int32) * (1000 : Int32)), .ref 26, .ref 32] (97, I_35, J, (az_u (az_u (az_u (az_u R 26 2 (some 21)) 26 3 (some 5)) 26 2 (some 21)) 26 3 (some 5))) _
                    refine az_E.sn 5 (pc' := 85) (L' := [.ref 3, .int a1, .int a2, .int a3, .retAddr 0, .retAddr 0, .retAddr 0, .retAddr 0]) (S' := [.ref 34, .int (-1 : Int32), .int (0 : Int32), .int (a1 - a1 / (1000 : Int32) * (1000 : Int32)), .ref 26, .ref 32]) (σ' := (97, I_35, J, (az_u (az_u (az_u (az_u R 26 2 (some 21)) 26 3 (some 5)) 26 2 (some 21)) 26 3 (some 5)))) rfl ?_
                    cases hx_39 : rs_Fi_spread 26 34 I_35 (a1 - a1 / (1000 : Int32) * (1000 : Int32)) (0 : Int32) (-1 : Int32) with
                    | none => rw [hx_39] at h; cases h
                    | some I_38 =>
                      rw [hx_39] at h
                      dsimp only at h
                      refine az_E.call (d := 5) (k' := 17) (vs := [.ref 32, .ref 26, .int (a1 - a1 / (1000 : Int32) * (1000 : Int32)), .int (0 : Int32), .int (-1 : Int32), .ref 34]) (pc' := 88) (S' := []) (Q1 := fun v s => v = none ∧ s = (97, I_38, J, (az_u (az_u (az_u (az_u R 26 2 (some 21)) 26 3 (some 5)) 26 2 (some 21)) 26 3 (some 5)))) rfl (az_E.deep (by omega) (re_Fi_spread_26_34_5 (J := J) (R := (az_u (az_u (az_u (az_u R 26 2 (some 21)) 26 3 (some 5)) 26 2 (some 21)) 26 3 (some 5))) rfl hx_39 ⟨rfl, rfl⟩)) (fun v s hq => ?_)
                      obtain ⟨rfl, rfl⟩ := hq
                      show az_E az_F ex 6 97 88 [.ref 3, .int a1, .int a2, .int a3, .retAddr 0, .retAddr 0, .retAddr 0, .retAddr 0] [] (97, I_38, J, (az_u (az_u (az_u (az_u R 26 2 (some 21)) 26 3 (some 5)) 26 2 (some 21)) 26 3 (some 5))) _
                      refine az_E.sn 6 (pc' := 99) (L' := [.ref 3, .int a1, .int a2, .int a3, .int (0 : Int32), .retAddr 0, .retAddr 0, .retAddr 0]) (S' := [.int (0 : Int32), .ref 33]) (σ' := (97, I_38, J, (az_u (az_u (az_u (az_u R 26 2 (some 21)) 26 3 (some 5)) 26 2 (some 21)) 26 3 (some 5)))) rfl ?_
                      refine az_E.oi (o := az_ai az_F ex (97, I_38, J, (az_u (az_u (az_u (az_u R 26 2 (some 21)) 26 3 (some 5)) 26 2 (some 21)) 26 3 (some 5))) 33 (0 : Int32)) (pc' := 100) (L' := [.ref 3, .int a1, .int a2, .int a3, .int (0 : Int32), .retAddr 0, .retAddr 0, .retAddr 0]) (S' := []) (σ' := (97, I_38, J, (az_u (az_u (az_u (az_u R 26 2 (some 21)) 26 3 (some 5)) 26 2 (some 21)) 26 3 (some 5)))) (x := (I_38 33 0)) rfl rfl ?_
                      refine az_E.sn 4 (pc' := 108) (L' := [.ref 3, .int a1, .int a2, .int a3, .int (0 : Int32), .retAddr 0, .retAddr 0, .retAddr 0]) (S' := [.int (0 : Int32), .ref 34, .int (I_38 33 0)]) (σ' := (97, I_38, J, (az_u (az_u (az_u (az_u R 26 2 (some 21)) 26 3 (some 5)) 26 2 (some 21)) 26 3 (some 5)))) rfl ?_
                      refine az_E.oi (o := az_ai az_F ex (97, I_38, J, (az_u (az_u (az_u (az_u R 26 2 (some 21)) 26 3 (some 5)) 26 2 (some 21)) 26 3 (some 5))) 34 (0 : Int32)) (pc' := 109) (L' := [.ref 3, .int a1, .int a2, .int a3, .int (0 : Int32), .retAddr 0, .retAddr 0, .retAddr 0]) (S' := [.int (I_38 33 0)]) (σ' := (97, I_38, J, (az_u (az_u (az_u (az_u R 26 2 (some 21)) 26 3 (some 5)) 26 2 (some 21)) 26 3 (some 5)))) (x := (I_38 34 0)) rfl rfl ?_
                      refine az_E.sn 4 (pc' := 117) (L' := [.ref 3, .int a1, .int a2, .int a3, .int (0 : Int32), .int (if (I_38 33 0) < (I_38 34 0) then (I_38 34 0) else (I_38 33 0)), .int (1 : Int32), .retAddr 0]) (S' := []) (σ' := (97, I_38, J, (az_u (az_u (az_u (az_u R 26 2 (some 21)) 26 3 (some 5)) 26 2 (some 21)) 26 3 (some 5)))) rfl ?_
                      exact az_E.forget (L := [.ref 3, .retAddr 0, .retAddr 0, .int a3, .int (0 : Int32), .int (if (I_38 33 0) < (I_38 34 0) then (I_38 34 0) else (I_38 33 0)), .int (1 : Int32), .retAddr 0]) ⟨rfl, trivial, trivial, rfl, rfl, rfl, rfl, trivial, trivial⟩ (re_X_meet_117_21_16 (I := I_38) (J := J) (R := R) hR_3_2 hR_3_3 h hQ)
            · rw [if_neg hc_27] at h
              refine az_E.sn 1 (pc' := 14) (L' := [.int a3]) (S' := [.int (0 : Int32)]) (σ' := (97, I, J, R)) rfl ?_
              refine az_E.ret (v := some (.int (0 : Int32))) (σ' := (97, I, J, R)) rfl ?_
              show az_E az_F ex 6 97 19 [.ref 3, .int a1, .int a2, .int a3, .retAddr 0, .retAddr 0, .retAddr 0, .retAddr 0] [.int (0 : Int32)] (97, I, J, R) _
              refine az_E.br (c := (0 : Int32) = 0) (tt := 22) (ff := 24) (L' := [.ref 3, .int a1, .int a2, .int a3, .retAddr 0, .retAddr 0, .retAddr 0, .retAddr 0]) (S' := []) (σ' := (97, I, J, R)) rfl (fun _ => ?_) (fun hn => absurd (by decide) hn)
              refine az_E.sn 1 (pc' := 23) (L' := [.ref 3, .int a1, .int a2, .int a3, .retAddr 0, .retAddr 0, .retAddr 0, .retAddr 0]) (S' := [.int (-1 : Int32)]) (σ' := (97, I, J, R)) rfl ?_
              have h := Option.some.inj h
              subst h
              exact az_E.ret (v := some (.int (-1 : Int32))) (σ' := (97, I, J, R)) rfl (hQ _ hR_3_2 hR_3_3)
set_option maxRecDepth 100000 in
set_option maxHeartbeats 4000000 in
theorem re_Pa_withLoad_26_21 {ex : az_X} {I : Nat → Nat → Int32} {J : Nat → Nat → Int64} {R : Nat → Nat → Option Nat} {a1 : Int32} (hR_26_2 : R 26 2 = some 21) {o : (Nat → Nat → Int32)} (h : rs_Pa_withLoad 26 21 I a1 = some o) {Q : Option Value → az_S → Prop} (hQ : Q none (97, o, J, R)) : az_E az_F ex 4 45 0 [.ref 26, .int a1] [] (97, I, J, R) Q := by
  unfold rs_Pa_withLoad at h
  refine az_E.sn 4 (pc' := 6) (L' := [.ref 26, .int a1]) (S' := [.ref 26]) (σ' := (97, (az_u I 26 5 a1), J, R)) rfl ?_
  cases hx_2 : rs_Pa_fill 26 21 (az_u I 26 5 a1) with
  | none => rw [hx_2] at h; cases h
  | some I_1 =>
    rw [hx_2] at h
    dsimp only at h
    refine az_E.call (d := 3) (k' := 50) (vs := [.ref 26]) (pc' := 9) (S' := []) (Q1 := fun v s => v = none ∧ s = (97, I_1, J, R)) rfl (az_E.deep (by omega) (re_Pa_fill_26_21 (J := J) (R := R) hR_26_2 hx_2 ⟨rfl, rfl⟩)) (fun v s hq => ?_)
    obtain ⟨rfl, rfl⟩ := hq
    show az_E az_F ex 4 45 9 [.ref 26, .int a1] [] (97, I_1, J, R) _
    have h := Option.some.inj h
    subst h
    exact az_E.ret (v := none) (σ' := (97, I_1, J, R)) rfl hQ
set_option maxRecDepth 100000 in
set_option maxHeartbeats 4000000 in
theorem re_X_carry_37_b_21_16 {ex : az_X} {I : Nat → Nat → Int32} {J : Nat → Nat → Int64} {R : Nat → Nat → Option Nat} {v1 : Int32} {v3 : Int32} {v4 : Int32} (hR_3_2 : R 3 2 = some 21) (hR_3_3 : R 3 3 = some 16) {x : ((Int32 × (Nat → Nat → Int32)) ⊕ (Int32 × (Nat → Nat → Int32)))} (h : rs_X_carry_37_b 16 21 v1 v3 v4 I = some x) {Q : Option Value → az_S → Prop} (hQ : Sum.elim (fun s => az_E az_F ex 6 98 37 [.ref 3, .int v1, .retAddr 0, .int v3, .int s.1] [] (97, s.2, J, (az_u (az_u R 26 2 (some 21)) 26 3 (some 5))) Q) (fun x => ∀ R' : Nat → Nat → Option Nat, R' 3 2 = some 21 → R' 3 3 = some 16 → Q (some (.int x.1)) (97, x.2, J, R')) x) : az_E az_F ex 6 98 37 [.ref 3, .int v1, .retAddr 0, .int v3, .int v4] [] (97, I, J, (az_u (az_u R 26 2 (some 21)) 26 3 (some 5))) Q := by
  unfold rs_X_carry_37_b at h
  refine az_E.sn 1 (pc' := 39) (L' := [.ref 3, .int v1, .retAddr 0, .int v3, .int v4]) (S' := [.int v4]) (σ' := (97, I, J, (az_u (az_u R 26 2 (some 21)) 26 3 (some 5)))) rfl ?_
  refine az_E.br (c := v4 < 0) (tt := 83) (ff := 42) (L' := [.ref 3, .int v1, .retAddr 0, .int v3, .int v4]) (S' := []) (σ' := (97, I, J, (az_u (az_u R 26 2 (some 21)) 26 3 (some 5)))) rfl (fun hc_10 => ?_) (fun hc_10 => ?_)
  · rw [if_pos hc_10] at h
    refine az_E.sn 1 (pc' := 85) (L' := [.ref 3, .int v1, .retAddr 0, .int v3, .int v4]) (S' := [.int (-2 : Int32)]) (σ' := (97, I, J, (az_u (az_u R 26 2 (some 21)) 26 3 (some 5)))) rfl ?_
    have h := Option.some.inj h
    subst h
    try simp only [Sum.elim_inl, Sum.elim_inr] at hQ
    exact az_E.ret (v := some (.int (-2 : Int32))) (σ' := (97, I, J, (az_u (az_u R 26 2 (some 21)) 26 3 (some 5)))) rfl (hQ _ hR_3_2 hR_3_3)
  · rw [if_neg hc_10] at h
    refine az_E.sn 3 (pc' := 48) (L' := [.ref 3, .int v1, .retAddr 0, .int v3, .int v4]) (S' := [.int v4, .ref 26]) (σ' := (97, I, J, (az_u (az_u R 26 2 (some 21)) 26 3 (some 5)))) rfl ?_
    cases hx_12 : rs_Pa_withLoad 26 21 I v4 with
    | none => rw [hx_12] at h; cases h
    | some I_11 =>
      rw [hx_12] at h
      dsimp only at h
      refine az_E.call (d := 5) (k' := 45) (vs := [.ref 26, .int v4]) (pc' := 51) (S' := []) (Q1 := fun v s => v = none ∧ s = (97, I_11, J, (az_u (az_u R 26 2 (some 21)) 26 3 (some 5)))) rfl (az_E.deep (by omega) (re_Pa_withLoad_26_21 (J := J) (R := (az_u (az_u R 26 2 (some 21)) 26 3 (some 5))) rfl hx_12 ⟨rfl, rfl⟩)) (fun v s hq => ?_)
      obtain ⟨rfl, rfl⟩ := hq
      show az_E az_F ex 6 98 51 [.ref 3, .int v1, .retAddr 0, .int v3, .int v4] [] (97, I_11, J, (az_u (az_u R 26 2 (some 21)) 26 3 (some 5))) _
      refine az_E.sn 5 (pc' := 60) (L' := [.ref 3, .int v1, .retAddr 0, .int v3, .int v4]) (S' := [.int v1, .ref 26, .ref 32]) (σ' := (97, I_11, J, (az_u (az_u R 26 2 (some 21)) 26 3 (some 5)))) rfl ?_
      refine az_E.call (d := 5) (k' := 135) (vs := [.int v1]) (pc' := 63) (S' := [.ref 26, .ref 32]) rfl ?_ (fun _ _ hq => hq)
      show az_E az_F ex 5 135 0 [.int v1] [] (97, I_11, J, (az_u (az_u R 26 2 (some 21)) 26 3 (some 5))) _
      refine az_E.sn 2 (pc' := 4) (L' := [.int v1]) (S' := [.int (1000 : Int32), .int v1]) (σ' := (97, I_11, J, (az_u (az_u R 26 2 (some 21)) 26 3 (some 5)))) rfl ?_
      have hd_13 : ¬ ((1000 : Int32) = 0) := by decide
      refine az_E.dv (c := (1000 : Int32) = 0) (pc' := 5) (L' := [.int v1]) (S' := [.int (v1 / (1000 : Int32))]) (σ' := (97, I_11, J, (az_u (az_u R 26 2 (some 21)) 26 3 (some 5)))) rfl hd_13 ?_
      refine az_E.ret (v := some (.int (v1 / (1000 : Int32)))) (σ' := (97, I_11, J, (az_u (az_u R 26 2 (some 21)) 26 3 (some 5)))) rfl ?_
      show az_E az_F ex 6 98 63 [.ref 3, .int v1, .retAddr 0, .int v3, .int v4] [.int (v1 / (1000 : Int32)), .ref 26, .ref 32] (97, I_11, J, (az_u (az_u R 26 2 (some 21)) 26 3 (some 5))) _
      refine az_E.sn 1 (pc' := 64) (L' := [.ref 3, .int v1, .retAddr 0, .int v3, .int v4]) (S' := [.int v1, .int (v1 / (1000 : Int32)), .ref 26, .ref 32]) (σ' := (97, I_11, J, (az_u (az_u R 26 2 (some 21)) 26 3 (some 5)))) rfl ?_
      refine az_E.call (d := 5) (k' := 136) (vs := [.int v1]) (pc' := 67) (S' := [.int (v1 / (1000 : Int32)), .ref 26, .ref 32]) rfl ?_ (fun _ _ hq => hq)
      show az_E az_F ex 5 136 0 [.int v1] [] (97, I_11, J, (az_u (az_u R 26 2 (some 21)) 26 3 (some 5))) _
      refine az_E.sn 2 (pc' := 4) (L' := [.int v1]) (S' := [.int (1000 : Int32), .int v1]) (σ' := (97, I_11, J, (az_u (az_u R 26 2 (some 21)) 26 3 (some 5)))) rfl ?_
      have hd_14 : ¬ ((1000 : Int32) = 0) := by decide
      refine az_E.dv (c := (1000 : Int32) = 0) (pc' := 5) (L' := [.int v1]) (S' := [.int (v1 - v1 / (1000 : Int32) * (1000 : Int32))]) (σ' := (97, I_11, J, (az_u (az_u R 26 2 (some 21)) 26 3 (some 5)))) rfl hd_14 ?_
      refine az_E.ret (v := some (.int (v1 - v1 / (1000 : Int32) * (1000 : Int32)))) (σ' := (97, I_11, J, (az_u (az_u R 26 2 (some 21)) 26 3 (some 5)))) rfl ?_
      show az_E az_F ex 6 98 67 [.ref 3, .int v1, .retAddr 0, .int v3, .int v4] [.int (v1 - v1 / (1000 : Int32) * (1000 : Int32)), .int (v1 / (1000 : Int32)), .ref 26, .ref 32] (97, I_11, J, (az_u (az_u R 26 2 (some 21)) 26 3 (some 5))) _
      cases hx_17 : rs_Fi_minutes 26 I_11 (v1 / (1000 : Int32)) (v1 - v1 / (1000 : Int32) * (1000 : Int32)) with
      | none => rw [hx_17] at h; cases h
      | some o =>
        rw [hx_17] at h
        obtain ⟨x_15, I_16⟩ := o
        dsimp only at h
        refine az_E.call (d := 5) (k' := 16) (vs := [.ref 32, .ref 26, .int (v1 / (1000 : Int32)), .int (v1 - v1 / (1000 : Int32) * (1000 : Int32))]) (pc' := 70) (S' := []) (Q1 := fun v s => v = some (.int x_15) ∧ s = (97, I_16, J, (az_u (az_u R 26 2 (some 21)) 26 3 (some 5)))) rfl (az_E.deep (by omega) (re_Fi_minutes_26_5 (J := J) (R := (az_u (az_u R 26 2 (some 21)) 26 3 (some 5))) rfl hx_17 ⟨rfl, rfl⟩)) (fun v s hq => ?_)
        obtain ⟨rfl, rfl⟩ := hq
        show az_E az_F ex 6 98 70 [.ref 3, .int v1, .retAddr 0, .int v3, .int v4] [.int x_15] (97, I_16, J, (az_u (az_u R 26 2 (some 21)) 26 3 (some 5))) _
        refine az_E.sn 1 (pc' := 71) (L' := [.ref 3, .int v1, .retAddr 0, .int v3, .int v4]) (S' := [.int v3, .int x_15]) (σ' := (97, I_16, J, (az_u (az_u R 26 2 (some 21)) 26 3 (some 5)))) rfl ?_
        refine az_E.br (c := v3 < x_15) (tt := 77) (ff := 74) (L' := [.ref 3, .int v1, .retAddr 0, .int v3, .int v4]) (S' := []) (σ' := (97, I_16, J, (az_u (az_u R 26 2 (some 21)) 26 3 (some 5)))) rfl (fun hc_18 => ?_) (fun hc_18 => ?_)
        · rw [if_pos hc_18] at h
          refine az_E.sn 2 (pc' := 37) (L' := [.ref 3, .int v1, .retAddr 0, .int v3, .int (v4 + (-1 : Int32))]) (S' := []) (σ' := (97, I_16, J, (az_u (az_u R 26 2 (some 21)) 26 3 (some 5)))) rfl ?_
          have h := Option.some.inj h
          subst h
          exact az_E.forget (L := [.ref 3, .int v1, .retAddr 0, .int v3, .int (v4 + (-1 : Int32))]) ⟨rfl, rfl, trivial, rfl, rfl, trivial⟩ hQ
        · rw [if_neg hc_18] at h
          refine az_E.sn 1 (pc' := 76) (L' := [.ref 3, .int v1, .retAddr 0, .int v3, .int v4]) (S' := [.int v4]) (σ' := (97, I_16, J, (az_u (az_u R 26 2 (some 21)) 26 3 (some 5)))) rfl ?_
          have h := Option.some.inj h
          subst h
          try simp only [Sum.elim_inl, Sum.elim_inr] at hQ
          exact az_E.ret (v := some (.int v4)) (σ' := (97, I_16, J, (az_u (az_u R 26 2 (some 21)) 26 3 (some 5)))) rfl (hQ _ hR_3_2 hR_3_3)
set_option maxRecDepth 100000 in
set_option maxHeartbeats 4000000 in
theorem re_X_carry_37_21_16 {ex : az_X} {I : Nat → Nat → Int32} {J : Nat → Nat → Int64} {R : Nat → Nat → Option Nat} {v1 : Int32} {v3 : Int32} {v4 : Int32} (hR_3_2 : R 3 2 = some 21) (hR_3_3 : R 3 3 = some 16) {x : Int32 × (Nat → Nat → Int32)} (h : rs_X_carry_37 16 21 I v1 v3 v4 = some x) {Q : Option Value → az_S → Prop} (hQ : ∀ R' : Nat → Nat → Option Nat, R' 3 2 = some 21 → R' 3 3 = some 16 → Q (some (.int x.1)) (97, x.2, J, R')) : az_E az_F ex 6 98 37 [.ref 3, .int v1, .retAddr 0, .int v3, .int v4] [] (97, I, J, (az_u (az_u R 26 2 (some 21)) 26 3 (some 5))) Q := by
  unfold rs_X_carry_37 at h
  refine az_lp_E (G := fun s => az_E az_F ex 6 98 37 [.ref 3, .int v1, .retAddr 0, .int v3, .int s.1] [] (97, s.2, J, (az_u (az_u R 26 2 (some 21)) 26 3 (some 5))) Q) (H := fun x => ∀ R' : Nat → Nat → Option Nat, R' 3 2 = some 21 → R' 3 3 = some 16 → Q (some (.int x.1)) (97, x.2, J, R')) (fun s o hb ho => ?_) _ _ _ h hQ
  exact re_X_carry_37_b_21_16 hR_3_2 hR_3_3 hb ho
set_option maxRecDepth 100000 in
set_option maxHeartbeats 4000000 in
theorem re_X_carry_21_16 {ex : az_X} {I : Nat → Nat → Int32} {J : Nat → Nat → Int64} {R : Nat → Nat → Option Nat} {a1 : Int32} {a2 : Int32} {a3 : Int32} (hR_3_2 : R 3 2 = some 21) (hR_3_3 : R 3 3 = some 16) {o : Int32 × (Nat → Nat → Int32)} (h : rs_X_carry 16 21 I a1 a2 a3 = some o) {Q : Option Value → az_S → Prop} (hQ : ∀ R' : Nat → Nat → Option Nat, R' 3 2 = some 21 → R' 3 3 = some 16 → Q (some (.int o.1)) (97, o.2, J, R')) : az_E az_F ex 6 98 0 [.ref 3, .int a1, .int a2, .int a3, .retAddr 0] [] (97, I, J, R) Q := by
  unfold rs_X_carry at h
  refine az_E.sn 1 (pc' := 1) (L' := [.ref 3, .int a1, .int a2, .int a3, .retAddr 0]) (S' := [.int a1]) (σ' := (97, I, J, R)) rfl ?_
  cases hx_2 : rs_X_isFromTo a1 with
  | none => rw [hx_2] at h; cases h
  | some x_1 =>
    rw [hx_2] at h
    dsimp only at h
    refine az_E.call (d := 5) (k' := 134) (vs := [.int a1]) (pc' := 4) (S' := []) (Q1 := fun v s => v = some (.int x_1) ∧ s = (97, I, J, R)) rfl (az_E.deep (by omega) (re_X_isFromTo (J := J) (R := R)  hx_2 ⟨rfl, rfl⟩)) (fun v s hq => ?_)
    obtain ⟨rfl, rfl⟩ := hq
    show az_E az_F ex 6 98 4 [.ref 3, .int a1, .int a2, .int a3, .retAddr 0] [.int x_1] (97, I, J, R) _
    refine az_E.br (c := x_1 = 0) (tt := 26) (ff := 7) (L' := [.ref 3, .int a1, .int a2, .int a3, .retAddr 0]) (S' := []) (σ' := (97, I, J, R)) rfl (fun hc_3 => ?_) (fun hc_3 => ?_)
    · rw [if_pos hc_3] at h
      refine az_E.sn 1 (pc' := 27) (L' := [.ref 3, .int a1, .int a2, .int a3, .retAddr 0]) (S' := [.int (-1 : Int32)]) (σ' := (97, I, J, R)) rfl ?_
      have h := Option.some.inj h
      subst h
      exact az_E.ret (v := some (.int (-1 : Int32))) (σ' := (97, I, J, R)) rfl (hQ _ hR_3_2 hR_3_3)
    · rw [if_neg hc_3] at h
      refine az_E.sn 2 (pc' := 9) (L' := [.ref 3, .int a1, .int a2, .int a3, .retAddr 0]) (S' := [.int a2, .ref 3]) (σ' := (97, I, J, R)) rfl ?_
      refine az_E.call (d := 5) (k' := 138) (vs := [.ref 3, .int a2]) (pc' := 12) (S' := []) rfl ?_ (fun _ _ hq => hq)
      show az_E az_F ex 5 138 0 [.ref 3, .int a2] [] (97, I, J, R) _
      refine az_E.sn 7 (pc' := 11) (L' := [.ref 3, .int a2]) (S' := [.int ((I 4 9) - (1 : Int32)), .int (0 : Int32), .int a2]) (σ' := (97, I, J, R)) rfl ?_
      refine az_E.call (d := 4) (k' := 131) (vs := [.int a2, .int (0 : Int32), .int ((I 4 9) - (1 : Int32))]) (pc' := 14) (S' := []) rfl ?_ (fun _ _ hq => hq)
      show az_E az_F ex 4 131 0 [.int a2, .int (0 : Int32), .int ((I 4 9) - (1 : Int32))] [] (97, I, J, R) _
      refine az_E.sn 2 (pc' := 2) (L' := [.int a2, .int (0 : Int32), .int ((I 4 9) - (1 : Int32))]) (S' := [.int (0 : Int32), .int a2]) (σ' := (97, I, J, R)) rfl ?_
      refine az_E.br (c := a2 < (0 : Int32)) (tt := 14) (ff := 5) (L' := [.int a2, .int (0 : Int32), .int ((I 4 9) - (1 : Int32))]) (S' := []) (σ' := (97, I, J, R)) rfl (fun hc_4 => ?_) (fun hc_4 => ?_)
      · rw [if_pos hc_4] at h
        refine az_E.sn 1 (pc' := 15) (L' := [.int a2, .int (0 : Int32), .int ((I 4 9) - (1 : Int32))]) (S' := [.int (0 : Int32)]) (σ' := (97, I, J, R)) rfl ?_
        refine az_E.ret (v := some (.int (0 : Int32))) (σ' := (97, I, J, R)) rfl ?_
        show az_E az_F ex 5 138 14 [.ref 3, .int a2] [.int (0 : Int32)] (97, I, J, R) _
        refine az_E.ret (v := some (.int (0 : Int32))) (σ' := (97, I, J, R)) rfl ?_
        show az_E az_F ex 6 98 12 [.ref 3, .int a1, .int a2, .int a3, .retAddr 0] [.int (0 : Int32)] (97, I, J, R) _
        refine az_E.br (c := (0 : Int32) = 0) (tt := 26) (ff := 15) (L' := [.ref 3, .int a1, .int a2, .int a3, .retAddr 0]) (S' := []) (σ' := (97, I, J, R)) rfl (fun _ => ?_) (fun hn => absurd (by decide) hn)
        refine az_E.sn 1 (pc' := 27) (L' := [.ref 3, .int a1, .int a2, .int a3, .retAddr 0]) (S' := [.int (-1 : Int32)]) (σ' := (97, I, J, R)) rfl ?_
        have h := Option.some.inj h
        subst h
        exact az_E.ret (v := some (.int (-1 : Int32))) (σ' := (97, I, J, R)) rfl (hQ _ hR_3_2 hR_3_3)
      · rw [if_neg hc_4] at h
        refine az_E.sn 2 (pc' := 7) (L' := [.int a2, .int (0 : Int32), .int ((I 4 9) - (1 : Int32))]) (S' := [.int ((I 4 9) - (1 : Int32)), .int a2]) (σ' := (97, I, J, R)) rfl ?_
        refine az_E.br (c := ((I 4 9) - (1 : Int32)) < a2) (tt := 14) (ff := 10) (L' := [.int a2, .int (0 : Int32), .int ((I 4 9) - (1 : Int32))]) (S' := []) (σ' := (97, I, J, R)) rfl (fun hc_5 => ?_) (fun hc_5 => ?_)
        · rw [if_pos hc_5] at h
          refine az_E.sn 1 (pc' := 15) (L' := [.int a2, .int (0 : Int32), .int ((I 4 9) - (1 : Int32))]) (S' := [.int (0 : Int32)]) (σ' := (97, I, J, R)) rfl ?_
          refine az_E.ret (v := some (.int (0 : Int32))) (σ' := (97, I, J, R)) rfl ?_
          show az_E az_F ex 5 138 14 [.ref 3, .int a2] [.int (0 : Int32)] (97, I, J, R) _
          refine az_E.ret (v := some (.int (0 : Int32))) (σ' := (97, I, J, R)) rfl ?_
          show az_E az_F ex 6 98 12 [.ref 3, .int a1, .int a2, .int a3, .retAddr 0] [.int (0 : Int32)] (97, I, J, R) _
          refine az_E.br (c := (0 : Int32) = 0) (tt := 26) (ff := 15) (L' := [.ref 3, .int a1, .int a2, .int a3, .retAddr 0]) (S' := []) (σ' := (97, I, J, R)) rfl (fun _ => ?_) (fun hn => absurd (by decide) hn)
          refine az_E.sn 1 (pc' := 27) (L' := [.ref 3, .int a1, .int a2, .int a3, .retAddr 0]) (S' := [.int (-1 : Int32)]) (σ' := (97, I, J, R)) rfl ?_
          have h := Option.some.inj h
          subst h
          exact az_E.ret (v := some (.int (-1 : Int32))) (σ' := (97, I, J, R)) rfl (hQ _ hR_3_2 hR_3_3)
        · rw [if_neg hc_5] at h
          refine az_E.sn 2 (pc' := 15) (L' := [.int a2, .int (0 : Int32), .int ((I 4 9) - (1 : Int32))]) (S' := [.int (1 : Int32)]) (σ' := (97, I, J, R)) rfl ?_
          refine az_E.ret (v := some (.int (1 : Int32))) (σ' := (97, I, J, R)) rfl ?_
          show az_E az_F ex 5 138 14 [.ref 3, .int a2] [.int (1 : Int32)] (97, I, J, R) _
          refine az_E.ret (v := some (.int (1 : Int32))) (σ' := (97, I, J, R)) rfl ?_
          show az_E az_F ex 6 98 12 [.ref 3, .int a1, .int a2, .int a3, .retAddr 0] [.int (1 : Int32)] (97, I, J, R) _
          refine az_E.br (c := (1 : Int32) = 0) (tt := 26) (ff := 15) (L' := [.ref 3, .int a1, .int a2, .int a3, .retAddr 0]) (S' := []) (σ' := (97, I, J, R)) rfl (fun hn => absurd hn (by decide)) (fun _ => ?_)
          refine az_E.sn 3 (pc' := 20) (L' := [.ref 3, .int a1, .int a2, .int a3, .retAddr 0]) (S' := [.int (9999 : Int32), .int (0 : Int32), .int a3]) (σ' := (97, I, J, R)) rfl ?_
          refine az_E.call (d := 5) (k' := 131) (vs := [.int a3, .int (0 : Int32), .int (9999 : Int32)]) (pc' := 23) (S' := []) rfl ?_ (fun _ _ hq => hq)
          show az_E az_F ex 5 131 0 [.int a3, .int (0 : Int32), .int (9999 : Int32)] [] (97, I, J, R) _
          refine az_E.sn 2 (pc' := 2) (L' := [.int a3, .int (0 : Int32), .int (9999 : Int32)]) (S' := [.int (0 : Int32), .int a3]) (σ' := (97, I, J, R)) rfl ?_
          refine az_E.br (c := a3 < (0 : Int32)) (tt := 14) (ff := 5) (L' := [.int a3, .int (0 : Int32), .int (9999 : Int32)]) (S' := []) (σ' := (97, I, J, R)) rfl (fun hc_6 => ?_) (fun hc_6 => ?_)
          · rw [if_pos hc_6] at h
            refine az_E.sn 1 (pc' := 15) (L' := [.int a3, .int (0 : Int32), .int (9999 : Int32)]) (S' := [.int (0 : Int32)]) (σ' := (97, I, J, R)) rfl ?_
            refine az_E.ret (v := some (.int (0 : Int32))) (σ' := (97, I, J, R)) rfl ?_
            show az_E az_F ex 6 98 23 [.ref 3, .int a1, .int a2, .int a3, .retAddr 0] [.int (0 : Int32)] (97, I, J, R) _
            refine az_E.br (c := (0 : Int32) = 0) (tt := 26) (ff := 28) (L' := [.ref 3, .int a1, .int a2, .int a3, .retAddr 0]) (S' := []) (σ' := (97, I, J, R)) rfl (fun _ => ?_) (fun hn => absurd (by decide) hn)
            refine az_E.sn 1 (pc' := 27) (L' := [.ref 3, .int a1, .int a2, .int a3, .retAddr 0]) (S' := [.int (-1 : Int32)]) (σ' := (97, I, J, R)) rfl ?_
            have h := Option.some.inj h
            subst h
            exact az_E.ret (v := some (.int (-1 : Int32))) (σ' := (97, I, J, R)) rfl (hQ _ hR_3_2 hR_3_3)
          · rw [if_neg hc_6] at h
            refine az_E.sn 2 (pc' := 7) (L' := [.int a3, .int (0 : Int32), .int (9999 : Int32)]) (S' := [.int (9999 : Int32), .int a3]) (σ' := (97, I, J, R)) rfl ?_
            refine az_E.br (c := (9999 : Int32) < a3) (tt := 14) (ff := 10) (L' := [.int a3, .int (0 : Int32), .int (9999 : Int32)]) (S' := []) (σ' := (97, I, J, R)) rfl (fun hc_7 => ?_) (fun hc_7 => ?_)
            · rw [if_pos hc_7] at h
              refine az_E.sn 1 (pc' := 15) (L' := [.int a3, .int (0 : Int32), .int (9999 : Int32)]) (S' := [.int (0 : Int32)]) (σ' := (97, I, J, R)) rfl ?_
              refine az_E.ret (v := some (.int (0 : Int32))) (σ' := (97, I, J, R)) rfl ?_
              show az_E az_F ex 6 98 23 [.ref 3, .int a1, .int a2, .int a3, .retAddr 0] [.int (0 : Int32)] (97, I, J, R) _
              refine az_E.br (c := (0 : Int32) = 0) (tt := 26) (ff := 28) (L' := [.ref 3, .int a1, .int a2, .int a3, .retAddr 0]) (S' := []) (σ' := (97, I, J, R)) rfl (fun _ => ?_) (fun hn => absurd (by decide) hn)
              refine az_E.sn 1 (pc' := 27) (L' := [.ref 3, .int a1, .int a2, .int a3, .retAddr 0]) (S' := [.int (-1 : Int32)]) (σ' := (97, I, J, R)) rfl ?_
              have h := Option.some.inj h
              subst h
              exact az_E.ret (v := some (.int (-1 : Int32))) (σ' := (97, I, J, R)) rfl (hQ _ hR_3_2 hR_3_3)
            · rw [if_neg hc_7] at h
              refine az_E.sn 2 (pc' := 15) (L' := [.int a3, .int (0 : Int32), .int (9999 : Int32)]) (S' := [.int (1 : Int32)]) (σ' := (97, I, J, R)) rfl ?_
              refine az_E.ret (v := some (.int (1 : Int32))) (σ' := (97, I, J, R)) rfl ?_
              show az_E az_F ex 6 98 23 [.ref 3, .int a1, .int a2, .int a3, .retAddr 0] [.int (1 : Int32)] (97, I, J, R) _
              refine az_E.br (c := (1 : Int32) = 0) (tt := 26) (ff := 28) (L' := [.ref 3, .int a1, .int a2, .int a3, .retAddr 0]) (S' := []) (σ' := (97, I, J, R)) rfl (fun hn => absurd hn (by decide)) (fun _ => ?_)
              refine az_E.sn 2 (pc' := 30) (L' := [.ref 3, .int a1, .int a2, .int a3, .retAddr 0]) (S' := [.int a2, .ref 3]) (σ' := (97, I, J, R)) rfl ?_
              cases hx_9 : rs_X_setPace 21 I a2 with
              | none => rw [hx_9] at h; cases h
              | some I_8 =>
                rw [hx_9] at h
                dsimp only at h
                refine az_E.call (d := 5) (k' := 144) (vs := [.ref 3, .int a2]) (pc' := 33) (S' := []) (Q1 := fun v s => v = none ∧ s = (97, I_8, J, (az_u (az_u R 26 2 (some 21)) 26 3 (some 5)))) rfl (az_E.deep (by omega) (re_X_setPace_21 (J := J) (R := R) hR_3_2 hx_9 ⟨rfl, rfl⟩)) (fun v s hq => ?_)
                obtain ⟨rfl, rfl⟩ := hq
                show az_E az_F ex 6 98 33 [.ref 3, .int a1, .int a2, .int a3, .retAddr 0] [] (97, I_8, J, (az_u (az_u R 26 2 (some 21)) 26 3 (some 5))) _
                refine az_E.sn 2 (pc' := 37) (L' := [.ref 3, .int a1, .int a2, .int a3, .int (9 : Int32)]) (S' := []) (σ' := (97, I_8, J, (az_u (az_u R 26 2 (some 21)) 26 3 (some 5)))) rfl ?_
                exact az_E.forget (L := [.ref 3, .int a1, .retAddr 0, .int a3, .int (9 : Int32)]) ⟨rfl, rfl, trivial, rfl, rfl, trivial⟩ (re_X_carry_37_21_16 (I := I_8) (J := J) (R := R) hR_3_2 hR_3_3 h hQ)
set_option maxRecDepth 100000 in
set_option maxHeartbeats 4000000 in
theorem re_Pa_withHeart_26_21 {ex : az_X} {I : Nat → Nat → Int32} {J : Nat → Nat → Int64} {R : Nat → Nat → Option Nat} {a1 : Int32} (hR_26_2 : R 26 2 = some 21) {o : (Nat → Nat → Int32)} (h : rs_Pa_withHeart 26 21 I a1 = some o) {Q : Option Value → az_S → Prop} (hQ : Q none (97, o, J, R)) : az_E az_F ex 4 44 0 [.ref 26, .int a1] [] (97, I, J, R) Q := by
  unfold rs_Pa_withHeart at h
  refine az_E.sn 4 (pc' := 6) (L' := [.ref 26, .int a1]) (S' := [.ref 26]) (σ' := (97, (az_u I 26 4 a1), J, R)) rfl ?_
  cases hx_2 : rs_Pa_fill 26 21 (az_u I 26 4 a1) with
  | none => rw [hx_2] at h; cases h
  | some I_1 =>
    rw [hx_2] at h
    dsimp only at h
    refine az_E.call (d := 3) (k' := 50) (vs := [.ref 26]) (pc' := 9) (S' := []) (Q1 := fun v s => v = none ∧ s = (97, I_1, J, R)) rfl (az_E.deep (by omega) (re_Pa_fill_26_21 (J := J) (R := R) hR_26_2 hx_2 ⟨rfl, rfl⟩)) (fun v s hq => ?_)
    obtain ⟨rfl, rfl⟩ := hq
    show az_E az_F ex 4 44 9 [.ref 26, .int a1] [] (97, I_1, J, R) _
    have h := Option.some.inj h
    subst h
    exact az_E.ret (v := none) (σ' := (97, I_1, J, R)) rfl hQ
set_option maxRecDepth 100000 in
set_option maxHeartbeats 4000000 in
theorem re_X_light_38_b_21_16 {ex : az_X} {I : Nat → Nat → Int32} {J : Nat → Nat → Int64} {R : Nat → Nat → Option Nat} {v1 : Int32} {v3 : Int32} {v4 : Int32} (hR_3_2 : R 3 2 = some 21) (hR_3_3 : R 3 3 = some 16) {x : ((Int32 × (Nat → Nat → Int32)) ⊕ (Int32 × (Nat → Nat → Int32)))} (h : rs_X_light_38_b 16 21 v1 v3 v4 I = some x) {Q : Option Value → az_S → Prop} (hQ : Sum.elim (fun s => az_E az_F ex 6 99 38 [.ref 3, .int v1, .retAddr 0, .int v3, .int s.1] [] (97, s.2, J, (az_u (az_u R 26 2 (some 21)) 26 3 (some 5))) Q) (fun x => ∀ R' : Nat → Nat → Option Nat, R' 3 2 = some 21 → R' 3 3 = some 16 → Q (some (.int x.1)) (97, x.2, J, R')) x) : az_E az_F ex 6 99 38 [.ref 3, .int v1, .retAddr 0, .int v3, .int v4] [] (97, I, J, (az_u (az_u R 26 2 (some 21)) 26 3 (some 5))) Q := by
  unfold rs_X_light_38_b at h
  refine az_E.sn 2 (pc' := 42) (L' := [.ref 3, .int v1, .retAddr 0, .int v3, .int v4]) (S' := [.int (9 : Int32), .int v4]) (σ' := (97, I, J, (az_u (az_u R 26 2 (some 21)) 26 3 (some 5)))) rfl ?_
  refine az_E.br (c := (9 : Int32) < v4) (tt := 86) (ff := 45) (L' := [.ref 3, .int v1, .retAddr 0, .int v3, .int v4]) (S' := []) (σ' := (97, I, J, (az_u (az_u R 26 2 (some 21)) 26 3 (some 5)))) rfl (fun hc_10 => ?_) (fun hc_10 => ?_)
  · rw [if_pos hc_10] at h
    refine az_E.sn 1 (pc' := 88) (L' := [.ref 3, .int v1, .retAddr 0, .int v3, .int v4]) (S' := [.int (-99 : Int32)]) (σ' := (97, I, J, (az_u (az_u R 26 2 (some 21)) 26 3 (some 5)))) rfl ?_
    have h := Option.some.inj h
    subst h
    try simp only [Sum.elim_inl, Sum.elim_inr] at hQ
    exact az_E.ret (v := some (.int (-99 : Int32))) (σ' := (97, I, J, (az_u (az_u R 26 2 (some 21)) 26 3 (some 5)))) rfl (hQ _ hR_3_2 hR_3_3)
  · rw [if_neg hc_10] at h
    refine az_E.sn 3 (pc' := 51) (L' := [.ref 3, .int v1, .retAddr 0, .int v3, .int v4]) (S' := [.int v4, .ref 26]) (σ' := (97, I, J, (az_u (az_u R 26 2 (some 21)) 26 3 (some 5)))) rfl ?_
    cases hx_12 : rs_Pa_withHeart 26 21 I v4 with
    | none => rw [hx_12] at h; cases h
    | some I_11 =>
      rw [hx_12] at h
      dsimp only at h
      refine az_E.call (d := 5) (k' := 44) (vs := [.ref 26, .int v4]) (pc' := 54) (S' := []) (Q1 := fun v s => v = none ∧ s = (97, I_11, J, (az_u (az_u R 26 2 (some 21)) 26 3 (some 5)))) rfl (az_E.deep (by omega) (re_Pa_withHeart_26_21 (J := J) (R := (az_u (az_u R 26 2 (some 21)) 26 3 (some 5))) rfl hx_12 ⟨rfl, rfl⟩)) (fun v s hq => ?_)
      obtain ⟨rfl, rfl⟩ := hq
      show az_E az_F ex 6 99 54 [.ref 3, .int v1, .retAddr 0, .int v3, .int v4] [] (97, I_11, J, (az_u (az_u R 26 2 (some 21)) 26 3 (some 5))) _
      refine az_E.sn 5 (pc' := 63) (L' := [.ref 3, .int v1, .retAddr 0, .int v3, .int v4]) (S' := [.int v1, .ref 26, .ref 32]) (σ' := (97, I_11, J, (az_u (az_u R 26 2 (some 21)) 26 3 (some 5)))) rfl ?_
      refine az_E.call (d := 5) (k' := 135) (vs := [.int v1]) (pc' := 66) (S' := [.ref 26, .ref 32]) rfl ?_ (fun _ _ hq => hq)
      show az_E az_F ex 5 135 0 [.int v1] [] (97, I_11, J, (az_u (az_u R 26 2 (some 21)) 26 3 (some 5))) _
      refine az_E.sn 2 (pc' := 4) (L' := [.int v1]) (S' := [.int (1000 : Int32), .int v1]) (σ' := (97, I_11, J, (az_u (az_u R 26 2 (some 21)) 26 3 (some 5)))) rfl ?_
      have hd_13 : ¬ ((1000 : Int32) = 0) := by decide
      refine az_E.dv (c := (1000 : Int32) = 0) (pc' := 5) (L' := [.int v1]) (S' := [.int (v1 / (1000 : Int32))]) (σ' := (97, I_11, J, (az_u (az_u R 26 2 (some 21)) 26 3 (some 5)))) rfl hd_13 ?_
      refine az_E.ret (v := some (.int (v1 / (1000 : Int32)))) (σ' := (97, I_11, J, (az_u (az_u R 26 2 (some 21)) 26 3 (some 5)))) rfl ?_
      show az_E az_F ex 6 99 66 [.ref 3, .int v1, .retAddr 0, .int v3, .int v4] [.int (v1 / (1000 : Int32)), .ref 26, .ref 32] (97, I_11, J, (az_u (az_u R 26 2 (some 21)) 26 3 (some 5))) _
      refine az_E.sn 1 (pc' := 67) (L' := [.ref 3, .int v1, .retAddr 0, .int v3, .int v4]) (S' := [.int v1, .int (v1 / (1000 : Int32)), .ref 26, .ref 32]) (σ' := (97, I_11, J, (az_u (az_u R 26 2 (some 21)) 26 3 (some 5)))) rfl ?_
      refine az_E.call (d := 5) (k' := 136) (vs := [.int v1]) (pc' := 70) (S' := [.int (v1 / (1000 : Int32)), .ref 26, .ref 32]) rfl ?_ (fun _ _ hq => hq)
      show az_E az_F ex 5 136 0 [.int v1] [] (97, I_11, J, (az_u (az_u R 26 2 (some 21)) 26 3 (some 5))) _
      refine az_E.sn 2 (pc' := 4) (L' := [.int v1]) (S' := [.int (1000 : Int32), .int v1]) (σ' := (97, I_11, J, (az_u (az_u R 26 2 (some 21)) 26 3 (some 5)))) rfl ?_
      have hd_14 : ¬ ((1000 : Int32) = 0) := by decide
      refine az_E.dv (c := (1000 : Int32) = 0) (pc' := 5) (L' := [.int v1]) (S' := [.int (v1 - v1 / (1000 : Int32) * (1000 : Int32))]) (σ' := (97, I_11, J, (az_u (az_u R 26 2 (some 21)) 26 3 (some 5)))) rfl hd_14 ?_
      refine az_E.ret (v := some (.int (v1 - v1 / (1000 : Int32) * (1000 : Int32)))) (σ' := (97, I_11, J, (az_u (az_u R 26 2 (some 21)) 26 3 (some 5)))) rfl ?_
      show az_E az_F ex 6 99 70 [.ref 3, .int v1, .retAddr 0, .int v3, .int v4] [.int (v1 - v1 / (1000 : Int32) * (1000 : Int32)), .int (v1 / (1000 : Int32)), .ref 26, .ref 32] (97, I_11, J, (az_u (az_u R 26 2 (some 21)) 26 3 (some 5))) _
      cases hx_17 : rs_Fi_minutes 26 I_11 (v1 / (1000 : Int32)) (v1 - v1 / (1000 : Int32) * (1000 : Int32)) with
      | none => rw [hx_17] at h; cases h
      | some o =>
        rw [hx_17] at h
        obtain ⟨x_15, I_16⟩ := o
        dsimp only at h
        refine az_E.call (d := 5) (k' := 16) (vs := [.ref 32, .ref 26, .int (v1 / (1000 : Int32)), .int (v1 - v1 / (1000 : Int32) * (1000 : Int32))]) (pc' := 73) (S' := []) (Q1 := fun v s => v = some (.int x_15) ∧ s = (97, I_16, J, (az_u (az_u R 26 2 (some 21)) 26 3 (some 5)))) rfl (az_E.deep (by omega) (re_Fi_minutes_26_5 (J := J) (R := (az_u (az_u R 26 2 (some 21)) 26 3 (some 5))) rfl hx_17 ⟨rfl, rfl⟩)) (fun v s hq => ?_)
        obtain ⟨rfl, rfl⟩ := hq
        show az_E az_F ex 6 99 73 [.ref 3, .int v1, .retAddr 0, .int v3, .int v4] [.int x_15] (97, I_16, J, (az_u (az_u R 26 2 (some 21)) 26 3 (some 5))) _
        refine az_E.sn 1 (pc' := 74) (L' := [.ref 3, .int v1, .retAddr 0, .int v3, .int v4]) (S' := [.int v3, .int x_15]) (σ' := (97, I_16, J, (az_u (az_u R 26 2 (some 21)) 26 3 (some 5)))) rfl ?_
        refine az_E.br (c := v3 < x_15) (tt := 80) (ff := 77) (L' := [.ref 3, .int v1, .retAddr 0, .int v3, .int v4]) (S' := []) (σ' := (97, I_16, J, (az_u (az_u R 26 2 (some 21)) 26 3 (some 5)))) rfl (fun hc_18 => ?_) (fun hc_18 => ?_)
        · rw [if_pos hc_18] at h
          refine az_E.sn 2 (pc' := 38) (L' := [.ref 3, .int v1, .retAddr 0, .int v3, .int (v4 + (1 : Int32))]) (S' := []) (σ' := (97, I_16, J, (az_u (az_u R 26 2 (some 21)) 26 3 (some 5)))) rfl ?_
          have h := Option.some.inj h
          subst h
          exact az_E.forget (L := [.ref 3, .int v1, .retAddr 0, .int v3, .int (v4 + (1 : Int32))]) ⟨rfl, rfl, trivial, rfl, rfl, trivial⟩ hQ
        · rw [if_neg hc_18] at h
          refine az_E.sn 1 (pc' := 79) (L' := [.ref 3, .int v1, .retAddr 0, .int v3, .int v4]) (S' := [.int v4]) (σ' := (97, I_16, J, (az_u (az_u R 26 2 (some 21)) 26 3 (some 5)))) rfl ?_
          have h := Option.some.inj h
          subst h
          try simp only [Sum.elim_inl, Sum.elim_inr] at hQ
          exact az_E.ret (v := some (.int v4)) (σ' := (97, I_16, J, (az_u (az_u R 26 2 (some 21)) 26 3 (some 5)))) rfl (hQ _ hR_3_2 hR_3_3)
set_option maxRecDepth 100000 in
set_option maxHeartbeats 4000000 in
theorem re_X_light_38_21_16 {ex : az_X} {I : Nat → Nat → Int32} {J : Nat → Nat → Int64} {R : Nat → Nat → Option Nat} {v1 : Int32} {v3 : Int32} {v4 : Int32} (hR_3_2 : R 3 2 = some 21) (hR_3_3 : R 3 3 = some 16) {x : Int32 × (Nat → Nat → Int32)} (h : rs_X_light_38 16 21 I v1 v3 v4 = some x) {Q : Option Value → az_S → Prop} (hQ : ∀ R' : Nat → Nat → Option Nat, R' 3 2 = some 21 → R' 3 3 = some 16 → Q (some (.int x.1)) (97, x.2, J, R')) : az_E az_F ex 6 99 38 [.ref 3, .int v1, .retAddr 0, .int v3, .int v4] [] (97, I, J, (az_u (az_u R 26 2 (some 21)) 26 3 (some 5))) Q := by
  unfold rs_X_light_38 at h
  refine az_lp_E (G := fun s => az_E az_F ex 6 99 38 [.ref 3, .int v1, .retAddr 0, .int v3, .int s.1] [] (97, s.2, J, (az_u (az_u R 26 2 (some 21)) 26 3 (some 5))) Q) (H := fun x => ∀ R' : Nat → Nat → Option Nat, R' 3 2 = some 21 → R' 3 3 = some 16 → Q (some (.int x.1)) (97, x.2, J, R')) (fun s o hb ho => ?_) _ _ _ h hQ
  exact re_X_light_38_b_21_16 hR_3_2 hR_3_3 hb ho
set_option maxRecDepth 100000 in
set_option maxHeartbeats 4000000 in
theorem re_X_light_21_16 {ex : az_X} {I : Nat → Nat → Int32} {J : Nat → Nat → Int64} {R : Nat → Nat → Option Nat} {a1 : Int32} {a2 : Int32} {a3 : Int32} (hR_3_2 : R 3 2 = some 21) (hR_3_3 : R 3 3 = some 16) {o : Int32 × (Nat → Nat → Int32)} (h : rs_X_light 16 21 I a1 a2 a3 = some o) {Q : Option Value → az_S → Prop} (hQ : ∀ R' : Nat → Nat → Option Nat, R' 3 2 = some 21 → R' 3 3 = some 16 → Q (some (.int o.1)) (97, o.2, J, R')) : az_E az_F ex 6 99 0 [.ref 3, .int a1, .int a2, .int a3, .retAddr 0] [] (97, I, J, R) Q := by
  unfold rs_X_light at h
  refine az_E.sn 1 (pc' := 1) (L' := [.ref 3, .int a1, .int a2, .int a3, .retAddr 0]) (S' := [.int a1]) (σ' := (97, I, J, R)) rfl ?_
  cases hx_2 : rs_X_isFromTo a1 with
  | none => rw [hx_2] at h; cases h
  | some x_1 =>
    rw [hx_2] at h
    dsimp only at h
    refine az_E.call (d := 5) (k' := 134) (vs := [.int a1]) (pc' := 4) (S' := []) (Q1 := fun v s => v = some (.int x_1) ∧ s = (97, I, J, R)) rfl (az_E.deep (by omega) (re_X_isFromTo (J := J) (R := R)  hx_2 ⟨rfl, rfl⟩)) (fun v s hq => ?_)
    obtain ⟨rfl, rfl⟩ := hq
    show az_E az_F ex 6 99 4 [.ref 3, .int a1, .int a2, .int a3, .retAddr 0] [.int x_1] (97, I, J, R) _
    refine az_E.br (c := x_1 = 0) (tt := 26) (ff := 7) (L' := [.ref 3, .int a1, .int a2, .int a3, .retAddr 0]) (S' := []) (σ' := (97, I, J, R)) rfl (fun hc_3 => ?_) (fun hc_3 => ?_)
    · rw [if_pos hc_3] at h
      refine az_E.sn 1 (pc' := 28) (L' := [.ref 3, .int a1, .int a2, .int a3, .retAddr 0]) (S' := [.int (-2000000000 : Int32)]) (σ' := (97, I, J, R)) rfl ?_
      have h := Option.some.inj h
      subst h
      exact az_E.ret (v := some (.int (-2000000000 : Int32))) (σ' := (97, I, J, R)) rfl (hQ _ hR_3_2 hR_3_3)
    · rw [if_neg hc_3] at h
      refine az_E.sn 2 (pc' := 9) (L' := [.ref 3, .int a1, .int a2, .int a3, .retAddr 0]) (S' := [.int a2, .ref 3]) (σ' := (97, I, J, R)) rfl ?_
      refine az_E.call (d := 5) (k' := 138) (vs := [.ref 3, .int a2]) (pc' := 12) (S' := []) rfl ?_ (fun _ _ hq => hq)
      show az_E az_F ex 5 138 0 [.ref 3, .int a2] [] (97, I, J, R) _
      refine az_E.sn 7 (pc' := 11) (L' := [.ref 3, .int a2]) (S' := [.int ((I 4 9) - (1 : Int32)), .int (0 : Int32), .int a2]) (σ' := (97, I, J, R)) rfl ?_
      refine az_E.call (d := 4) (k' := 131) (vs := [.int a2, .int (0 : Int32), .int ((I 4 9) - (1 : Int32))]) (pc' := 14) (S' := []) rfl ?_ (fun _ _ hq => hq)
      show az_E az_F ex 4 131 0 [.int a2, .int (0 : Int32), .int ((I 4 9) - (1 : Int32))] [] (97, I, J, R) _
      refine az_E.sn 2 (pc' := 2) (L' := [.int a2, .int (0 : Int32), .int ((I 4 9) - (1 : Int32))]) (S' := [.int (0 : Int32), .int a2]) (σ' := (97, I, J, R)) rfl ?_
      refine az_E.br (c := a2 < (0 : Int32)) (tt := 14) (ff := 5) (L' := [.int a2, .int (0 : Int32), .int ((I 4 9) - (1 : Int32))]) (S' := []) (σ' := (97, I, J, R)) rfl (fun hc_4 => ?_) (fun hc_4 => ?_)
      · rw [if_pos hc_4] at h
        refine az_E.sn 1 (pc' := 15) (L' := [.int a2, .int (0 : Int32), .int ((I 4 9) - (1 : Int32))]) (S' := [.int (0 : Int32)]) (σ' := (97, I, J, R)) rfl ?_
        refine az_E.ret (v := some (.int (0 : Int32))) (σ' := (97, I, J, R)) rfl ?_
        show az_E az_F ex 5 138 14 [.ref 3, .int a2] [.int (0 : Int32)] (97, I, J, R) _
        refine az_E.ret (v := some (.int (0 : Int32))) (σ' := (97, I, J, R)) rfl ?_
        show az_E az_F ex 6 99 12 [.ref 3, .int a1, .int a2, .int a3, .retAddr 0] [.int (0 : Int32)] (97, I, J, R) _
        refine az_E.br (c := (0 : Int32) = 0) (tt := 26) (ff := 15) (L' := [.ref 3, .int a1, .int a2, .int a3, .retAddr 0]) (S' := []) (σ' := (97, I, J, R)) rfl (fun _ => ?_) (fun hn => absurd (by decide) hn)
        refine az_E.sn 1 (pc' := 28) (L' := [.ref 3, .int a1, .int a2, .int a3, .retAddr 0]) (S' := [.int (-2000000000 : Int32)]) (σ' := (97, I, J, R)) rfl ?_
        have h := Option.some.inj h
        subst h
        exact az_E.ret (v := some (.int (-2000000000 : Int32))) (σ' := (97, I, J, R)) rfl (hQ _ hR_3_2 hR_3_3)
      · rw [if_neg hc_4] at h
        refine az_E.sn 2 (pc' := 7) (L' := [.int a2, .int (0 : Int32), .int ((I 4 9) - (1 : Int32))]) (S' := [.int ((I 4 9) - (1 : Int32)), .int a2]) (σ' := (97, I, J, R)) rfl ?_
        refine az_E.br (c := ((I 4 9) - (1 : Int32)) < a2) (tt := 14) (ff := 10) (L' := [.int a2, .int (0 : Int32), .int ((I 4 9) - (1 : Int32))]) (S' := []) (σ' := (97, I, J, R)) rfl (fun hc_5 => ?_) (fun hc_5 => ?_)
        · rw [if_pos hc_5] at h
          refine az_E.sn 1 (pc' := 15) (L' := [.int a2, .int (0 : Int32), .int ((I 4 9) - (1 : Int32))]) (S' := [.int (0 : Int32)]) (σ' := (97, I, J, R)) rfl ?_
          refine az_E.ret (v := some (.int (0 : Int32))) (σ' := (97, I, J, R)) rfl ?_
          show az_E az_F ex 5 138 14 [.ref 3, .int a2] [.int (0 : Int32)] (97, I, J, R) _
          refine az_E.ret (v := some (.int (0 : Int32))) (σ' := (97, I, J, R)) rfl ?_
          show az_E az_F ex 6 99 12 [.ref 3, .int a1, .int a2, .int a3, .retAddr 0] [.int (0 : Int32)] (97, I, J, R) _
          refine az_E.br (c := (0 : Int32) = 0) (tt := 26) (ff := 15) (L' := [.ref 3, .int a1, .int a2, .int a3, .retAddr 0]) (S' := []) (σ' := (97, I, J, R)) rfl (fun _ => ?_) (fun hn => absurd (by decide) hn)
          refine az_E.sn 1 (pc' := 28) (L' := [.ref 3, .int a1, .int a2, .int a3, .retAddr 0]) (S' := [.int (-2000000000 : Int32)]) (σ' := (97, I, J, R)) rfl ?_
          have h := Option.some.inj h
          subst h
          exact az_E.ret (v := some (.int (-2000000000 : Int32))) (σ' := (97, I, J, R)) rfl (hQ _ hR_3_2 hR_3_3)
        · rw [if_neg hc_5] at h
          refine az_E.sn 2 (pc' := 15) (L' := [.int a2, .int (0 : Int32), .int ((I 4 9) - (1 : Int32))]) (S' := [.int (1 : Int32)]) (σ' := (97, I, J, R)) rfl ?_
          refine az_E.ret (v := some (.int (1 : Int32))) (σ' := (97, I, J, R)) rfl ?_
          show az_E az_F ex 5 138 14 [.ref 3, .int a2] [.int (1 : Int32)] (97, I, J, R) _
          refine az_E.ret (v := some (.int (1 : Int32))) (σ' := (97, I, J, R)) rfl ?_
          show az_E az_F ex 6 99 12 [.ref 3, .int a1, .int a2, .int a3, .retAddr 0] [.int (1 : Int32)] (97, I, J, R) _
          refine az_E.br (c := (1 : Int32) = 0) (tt := 26) (ff := 15) (L' := [.ref 3, .int a1, .int a2, .int a3, .retAddr 0]) (S' := []) (σ' := (97, I, J, R)) rfl (fun hn => absurd hn (by decide)) (fun _ => ?_)
          refine az_E.sn 3 (pc' := 20) (L' := [.ref 3, .int a1, .int a2, .int a3, .retAddr 0]) (S' := [.int (9999 : Int32), .int (0 : Int32), .int a3]) (σ' := (97, I, J, R)) rfl ?_
          refine az_E.call (d := 5) (k' := 131) (vs := [.int a3, .int (0 : Int32), .int (9999 : Int32)]) (pc' := 23) (S' := []) rfl ?_ (fun _ _ hq => hq)
          show az_E az_F ex 5 131 0 [.int a3, .int (0 : Int32), .int (9999 : Int32)] [] (97, I, J, R) _
          refine az_E.sn 2 (pc' := 2) (L' := [.int a3, .int (0 : Int32), .int (9999 : Int32)]) (S' := [.int (0 : Int32), .int a3]) (σ' := (97, I, J, R)) rfl ?_
          refine az_E.br (c := a3 < (0 : Int32)) (tt := 14) (ff := 5) (L' := [.int a3, .int (0 : Int32), .int (9999 : Int32)]) (S' := []) (σ' := (97, I, J, R)) rfl (fun hc_6 => ?_) (fun hc_6 => ?_)
          · rw [if_pos hc_6] at h
            refine az_E.sn 1 (pc' := 15) (L' := [.int a3, .int (0 : Int32), .int (9999 : Int32)]) (S' := [.int (0 : Int32)]) (σ' := (97, I, J, R)) rfl ?_
            refine az_E.ret (v := some (.int (0 : Int32))) (σ' := (97, I, J, R)) rfl ?_
            show az_E az_F ex 6 99 23 [.ref 3, .int a1, .int a2, .int a3, .retAddr 0] [.int (0 : Int32)] (97, I, J, R) _
            refine az_E.br (c := (0 : Int32) = 0) (tt := 26) (ff := 29) (L' := [.ref 3, .int a1, .int a2, .int a3, .retAddr 0]) (S' := []) (σ' := (97, I, J, R)) rfl (fun _ => ?_) (fun hn => absurd (by decide) hn)
            refine az_E.sn 1 (pc' := 28) (L' := [.ref 3, .int a1, .int a2, .int a3, .retAddr 0]) (S' := [.int (-2000000000 : Int32)]) (σ' := (97, I, J, R)) rfl ?_
            have h := Option.some.inj h
            subst h
            exact az_E.ret (v := some (.int (-2000000000 : Int32))) (σ' := (97, I, J, R)) rfl (hQ _ hR_3_2 hR_3_3)
          · rw [if_neg hc_6] at h
            refine az_E.sn 2 (pc' := 7) (L' := [.int a3, .int (0 : Int32), .int (9999 : Int32)]) (S' := [.int (9999 : Int32), .int a3]) (σ' := (97, I, J, R)) rfl ?_
            refine az_E.br (c := (9999 : Int32) < a3) (tt := 14) (ff := 10) (L' := [.int a3, .int (0 : Int32), .int (9999 : Int32)]) (S' := []) (σ' := (97, I, J, R)) rfl (fun hc_7 => ?_) (fun hc_7 => ?_)
            · rw [if_pos hc_7] at h
              refine az_E.sn 1 (pc' := 15) (L' := [.int a3, .int (0 : Int32), .int (9999 : Int32)]) (S' := [.int (0 : Int32)]) (σ' := (97, I, J, R)) rfl ?_
              refine az_E.ret (v := some (.int (0 : Int32))) (σ' := (97, I, J, R)) rfl ?_
              show az_E az_F ex 6 99 23 [.ref 3, .int a1, .int a2, .int a3, .retAddr 0] [.int (0 : Int32)] (97, I, J, R) _
              refine az_E.br (c := (0 : Int32) = 0) (tt := 26) (ff := 29) (L' := [.ref 3, .int a1, .int a2, .int a3, .retAddr 0]) (S' := []) (σ' := (97, I, J, R)) rfl (fun _ => ?_) (fun hn => absurd (by decide) hn)
              refine az_E.sn 1 (pc' := 28) (L' := [.ref 3, .int a1, .int a2, .int a3, .retAddr 0]) (S' := [.int (-2000000000 : Int32)]) (σ' := (97, I, J, R)) rfl ?_
              have h := Option.some.inj h
              subst h
              exact az_E.ret (v := some (.int (-2000000000 : Int32))) (σ' := (97, I, J, R)) rfl (hQ _ hR_3_2 hR_3_3)
            · rw [if_neg hc_7] at h
              refine az_E.sn 2 (pc' := 15) (L' := [.int a3, .int (0 : Int32), .int (9999 : Int32)]) (S' := [.int (1 : Int32)]) (σ' := (97, I, J, R)) rfl ?_
              refine az_E.ret (v := some (.int (1 : Int32))) (σ' := (97, I, J, R)) rfl ?_
              show az_E az_F ex 6 99 23 [.ref 3, .int a1, .int a2, .int a3, .retAddr 0] [.int (1 : Int32)] (97, I, J, R) _
              refine az_E.br (c := (1 : Int32) = 0) (tt := 26) (ff := 29) (L' := [.ref 3, .int a1, .int a2, .int a3, .retAddr 0]) (S' := []) (σ' := (97, I, J, R)) rfl (fun hn => absurd hn (by decide)) (fun _ => ?_)
              refine az_E.sn 2 (pc' := 31) (L' := [.ref 3, .int a1, .int a2, .int a3, .retAddr 0]) (S' := [.int a2, .ref 3]) (σ' := (97, I, J, R)) rfl ?_
              cases hx_9 : rs_X_setPace 21 I a2 with
              | none => rw [hx_9] at h; cases h
              | some I_8 =>
                rw [hx_9] at h
                dsimp only at h
                refine az_E.call (d := 5) (k' := 144) (vs := [.ref 3, .int a2]) (pc' := 34) (S' := []) (Q1 := fun v s => v = none ∧ s = (97, I_8, J, (az_u (az_u R 26 2 (some 21)) 26 3 (some 5)))) rfl (az_E.deep (by omega) (re_X_setPace_21 (J := J) (R := R) hR_3_2 hx_9 ⟨rfl, rfl⟩)) (fun v s hq => ?_)
                obtain ⟨rfl, rfl⟩ := hq
                show az_E az_F ex 6 99 34 [.ref 3, .int a1, .int a2, .int a3, .retAddr 0] [] (97, I_8, J, (az_u (az_u R 26 2 (some 21)) 26 3 (some 5))) _
                refine az_E.sn 2 (pc' := 38) (L' := [.ref 3, .int a1, .int a2, .int a3, .int (-9 : Int32)]) (S' := []) (σ' := (97, I_8, J, (az_u (az_u R 26 2 (some 21)) 26 3 (some 5)))) rfl ?_
                exact az_E.forget (L := [.ref 3, .int a1, .retAddr 0, .int a3, .int (-9 : Int32)]) ⟨rfl, rfl, trivial, rfl, rfl, trivial⟩ (re_X_light_38_21_16 (I := I_8) (J := J) (R := R) hR_3_2 hR_3_3 h hQ)
set_option maxRecDepth 100000 in
set_option maxHeartbeats 4000000 in
theorem re_X_backFrom_78_b_21_16 {ex : az_X} {I : Nat → Nat → Int32} {J : Nat → Nat → Int64} {R : Nat → Nat → Option Nat} {v4 : Int32} (hR_3_2 : R 3 2 = some 21) (hR_3_3 : R 3 3 = some 16) {x : ((Int32) ⊕ (Int32 × (Nat → Nat → Int32)))} (h : rs_X_backFrom_78_b 16 21 I v4 = some x) {Q : Option Value → az_S → Prop} (hQ : Sum.elim (fun s => az_E az_F ex 6 100 78 [.ref 3, .retAddr 0, .retAddr 0, .retAddr 0, .int s, .retAddr 0] [] (97, I, J, (az_u (az_u R 26 2 (some 21)) 26 3 (some 5))) Q) (fun x => ∀ R' : Nat → Nat → Option Nat, R' 3 2 = some 21 → R' 3 3 = some 16 → Q (some (.int x.1)) (97, x.2, J, R')) x) : az_E az_F ex 6 100 78 [.ref 3, .retAddr 0, .retAddr 0, .retAddr 0, .int v4, .retAddr 0] [] (97, I, J, (az_u (az_u R 26 2 (some 21)) 26 3 (some 5))) Q := by
  unfold rs_X_backFrom_78_b at h
  refine az_E.sn 1 (pc' := 80) (L' := [.ref 3, .retAddr 0, .retAddr 0, .retAddr 0, .int v4, .retAddr 0]) (S' := [.int v4]) (σ' := (97, I, J, (az_u (az_u R 26 2 (some 21)) 26 3 (some 5)))) rfl ?_
  refine az_E.br (c := v4 < 0) (tt := 127) (ff := 83) (L' := [.ref 3, .retAddr 0, .retAddr 0, .retAddr 0, .int v4, .retAddr 0]) (S' := []) (σ' := (97, I, J, (az_u (az_u R 26 2 (some 21)) 26 3 (some 5)))) rfl (fun hc_16 => ?_) (fun hc_16 => ?_)
  · rw [if_pos hc_16] at h
    refine az_E.sn 1 (pc' := 129) (L' := [.ref 3, .retAddr 0, .retAddr 0, .retAddr 0, .int v4, .retAddr 0]) (S' := [.int (-2 : Int32)]) (σ' := (97, I, J, (az_u (az_u R 26 2 (some 21)) 26 3 (some 5)))) rfl ?_
    have h := Option.some.inj h
    subst h
    try simp only [Sum.elim_inl, Sum.elim_inr] at hQ
    exact az_E.ret (v := some (.int (-2 : Int32))) (σ' := (97, I, J, (az_u (az_u R 26 2 (some 21)) 26 3 (some 5)))) rfl (hQ _ hR_3_2 hR_3_3)
  · rw [if_neg hc_16] at h
    refine az_E.sn 4 (pc' := 92) (L' := [.ref 3, .retAddr 0, .retAddr 0, .retAddr 0, .int v4, .retAddr 0]) (S' := [.int v4, .ref 35]) (σ' := (97, I, J, (az_u (az_u R 26 2 (some 21)) 26 3 (some 5)))) rfl ?_
    by_cases hc_17 : v4 < 0 ∨ 144 ≤ v4.toNatClampNeg
    · rw [if_pos hc_17] at h; cases h
    · rw [if_neg hc_17] at h
      refine az_E.oi (o := az_ai az_F ex (97, I, J, (az_u (az_u R 26 2 (some 21)) 26 3 (some 5))) 35 v4) (pc' := 93) (L' := [.ref 3, .retAddr 0, .retAddr 0, .retAddr 0, .int v4, .retAddr 0]) (S' := []) (σ' := (97, I, J, (az_u (az_u R 26 2 (some 21)) 26 3 (some 5)))) (x := (I 35 v4.toNatClampNeg)) rfl (if_neg hc_17) ?_
      refine az_E.sn 5 (pc' := 104) (L' := [.ref 3, .retAddr 0, .retAddr 0, .retAddr 0, .int v4, .int (I 35 v4.toNatClampNeg)]) (S' := [.int (I 35 v4.toNatClampNeg), .ref 34]) (σ' := (97, I, J, (az_u (az_u R 26 2 (some 21)) 26 3 (some 5)))) rfl ?_
      by_cases hc_18 : (I 35 v4.toNatClampNeg) < 0 ∨ 144 ≤ (I 35 v4.toNatClampNeg).toNatClampNeg
      · rw [if_pos hc_18] at h; cases h
      · rw [if_neg hc_18] at h
        refine az_E.oi (o := az_ai az_F ex (97, I, J, (az_u (az_u R 26 2 (some 21)) 26 3 (some 5))) 34 (I 35 v4.toNatClampNeg)) (pc' := 105) (L' := [.ref 3, .retAddr 0, .retAddr 0, .retAddr 0, .int v4, .int (I 35 v4.toNatClampNeg)]) (S' := []) (σ' := (97, I, J, (az_u (az_u R 26 2 (some 21)) 26 3 (some 5)))) (x := (I 34 (I 35 v4.toNatClampNeg).toNatClampNeg)) rfl (if_neg hc_18) ?_
        refine az_E.sn 4 (pc' := 114) (L' := [.ref 3, .retAddr 0, .retAddr 0, .retAddr 0, .int v4, .int (I 35 v4.toNatClampNeg)]) (S' := [.int (I 35 v4.toNatClampNeg), .ref 33, .int (I 34 (I 35 v4.toNatClampNeg).toNatClampNeg)]) (σ' := (97, I, J, (az_u (az_u R 26 2 (some 21)) 26 3 (some 5)))) rfl ?_
        by_cases hc_19 : (I 35 v4.toNatClampNeg) < 0 ∨ 144 ≤ (I 35 v4.toNatClampNeg).toNatClampNeg
        · rw [if_pos hc_19] at h; cases h
        · rw [if_neg hc_19] at h
          refine az_E.oi (o := az_ai az_F ex (97, I, J, (az_u (az_u R 26 2 (some 21)) 26 3 (some 5))) 33 (I 35 v4.toNatClampNeg)) (pc' := 115) (L' := [.ref 3, .retAddr 0, .retAddr 0, .retAddr 0, .int v4, .int (I 35 v4.toNatClampNeg)]) (S' := [.int (I 34 (I 35 v4.toNatClampNeg).toNatClampNeg)]) (σ' := (97, I, J, (az_u (az_u R 26 2 (some 21)) 26 3 (some 5)))) (x := (I 33 (I 35 v4.toNatClampNeg).toNatClampNeg)) rfl (if_neg hc_19) ?_
          refine az_E.br (c := (I 33 (I 35 v4.toNatClampNeg).toNatClampNeg) < (I 34 (I 35 v4.toNatClampNeg).toNatClampNeg)) (tt := 121) (ff := 118) (L' := [.ref 3, .retAddr 0, .retAddr 0, .retAddr 0, .int v4, .int (I 35 v4.toNatClampNeg)]) (S' := []) (σ' := (97, I, J, (az_u (az_u R 26 2 (some 21)) 26 3 (some 5)))) rfl (fun hc_20 => ?_) (fun hc_20 => ?_)
          · rw [if_pos hc_20] at h
            refine az_E.sn 2 (pc' := 78) (L' := [.ref 3, .retAddr 0, .retAddr 0, .retAddr 0, .int (v4 + (-1 : Int32)), .int (I 35 v4.toNatClampNeg)]) (S' := []) (σ' := (97, I, J, (az_u (az_u R 26 2 (some 21)) 26 3 (some 5)))) rfl ?_
            have h := Option.some.inj h
            subst h
            exact az_E.forget (L := [.ref 3, .retAddr 0, .retAddr 0, .retAddr 0, .int (v4 + (-1 : Int32)), .retAddr 0]) ⟨rfl, trivial, trivial, trivial, rfl, trivial, trivial⟩ hQ
          · rw [if_neg hc_20] at h
            refine az_E.sn 1 (pc' := 120) (L' := [.ref 3, .retAddr 0, .retAddr 0, .retAddr 0, .int v4, .int (I 35 v4.toNatClampNeg)]) (S' := [.int v4]) (σ' := (97, I, J, (az_u (az_u R 26 2 (some 21)) 26 3 (some 5)))) rfl ?_
            have h := Option.some.inj h
            subst h
            try simp only [Sum.elim_inl, Sum.elim_inr] at hQ
            exact az_E.ret (v := some (.int v4)) (σ' := (97, I, J, (az_u (az_u R 26 2 (some 21)) 26 3 (some 5)))) rfl (hQ _ hR_3_2 hR_3_3)
set_option maxRecDepth 100000 in
set_option maxHeartbeats 4000000 in
theorem re_X_backFrom_78_21_16 {ex : az_X} {I : Nat → Nat → Int32} {J : Nat → Nat → Int64} {R : Nat → Nat → Option Nat} {v4 : Int32} (hR_3_2 : R 3 2 = some 21) (hR_3_3 : R 3 3 = some 16) {x : Int32 × (Nat → Nat → Int32)} (h : rs_X_backFrom_78 16 21 I v4 = some x) {Q : Option Value → az_S → Prop} (hQ : ∀ R' : Nat → Nat → Option Nat, R' 3 2 = some 21 → R' 3 3 = some 16 → Q (some (.int x.1)) (97, x.2, J, R')) : az_E az_F ex 6 100 78 [.ref 3, .retAddr 0, .retAddr 0, .retAddr 0, .int v4, .retAddr 0] [] (97, I, J, (az_u (az_u R 26 2 (some 21)) 26 3 (some 5))) Q := by
  unfold rs_X_backFrom_78 at h
  refine az_lp_E (G := fun s => az_E az_F ex 6 100 78 [.ref 3, .retAddr 0, .retAddr 0, .retAddr 0, .int s, .retAddr 0] [] (97, I, J, (az_u (az_u R 26 2 (some 21)) 26 3 (some 5))) Q) (H := fun x => ∀ R' : Nat → Nat → Option Nat, R' 3 2 = some 21 → R' 3 3 = some 16 → Q (some (.int x.1)) (97, x.2, J, R')) (fun s o hb ho => ?_) _ _ _ h hQ
  exact re_X_backFrom_78_b_21_16 hR_3_2 hR_3_3 hb ho
set_option maxRecDepth 100000 in
set_option maxHeartbeats 4000000 in
theorem re_X_backFrom_21_16 {ex : az_X} {I : Nat → Nat → Int32} {J : Nat → Nat → Int64} {R : Nat → Nat → Option Nat} {a1 : Int32} {a2 : Int32} {a3 : Int32} (hR_3_2 : R 3 2 = some 21) (hR_3_3 : R 3 3 = some 16) {o : Int32 × (Nat → Nat → Int32)} (h : rs_X_backFrom 16 21 I a1 a2 a3 = some o) {Q : Option Value → az_S → Prop} (hQ : ∀ R' : Nat → Nat → Option Nat, R' 3 2 = some 21 → R' 3 3 = some 16 → Q (some (.int o.1)) (97, o.2, J, R')) : az_E az_F ex 6 100 0 [.ref 3, .int a1, .int a2, .int a3, .retAddr 0, .retAddr 0] [] (97, I, J, R) Q := by
  unfold rs_X_backFrom at h
  refine az_E.sn 1 (pc' := 1) (L' := [.ref 3, .int a1, .int a2, .int a3, .retAddr 0, .retAddr 0]) (S' := [.int a1]) (σ' := (97, I, J, R)) rfl ?_
  cases hx_2 : rs_X_isFromTo a1 with
  | none => rw [hx_2] at h; cases h
  | some x_1 =>
    rw [hx_2] at h
    dsimp only at h
    refine az_E.call (d := 5) (k' := 134) (vs := [.int a1]) (pc' := 4) (S' := []) (Q1 := fun v s => v = some (.int x_1) ∧ s = (97, I, J, R)) rfl (az_E.deep (by omega) (re_X_isFromTo (J := J) (R := R)  hx_2 ⟨rfl, rfl⟩)) (fun v s hq => ?_)
    obtain ⟨rfl, rfl⟩ := hq
    show az_E az_F ex 6 100 4 [.ref 3, .int a1, .int a2, .int a3, .retAddr 0, .retAddr 0] [.int x_1] (97, I, J, R) _
    refine az_E.br (c := x_1 = 0) (tt := 22) (ff := 7) (L' := [.ref 3, .int a1, .int a2, .int a3, .retAddr 0, .retAddr 0]) (S' := []) (σ' := (97, I, J, R)) rfl (fun hc_3 => ?_) (fun hc_3 => ?_)
    · rw [if_pos hc_3] at h
      refine az_E.sn 1 (pc' := 23) (L' := [.ref 3, .int a1, .int a2, .int a3, .retAddr 0, .retAddr 0]) (S' := [.int (-1 : Int32)]) (σ' := (97, I, J, R)) rfl ?_
      have h := Option.some.inj h
      subst h
      exact az_E.ret (v := some (.int (-1 : Int32))) (σ' := (97, I, J, R)) rfl (hQ _ hR_3_2 hR_3_3)
    · rw [if_neg hc_3] at h
      refine az_E.sn 2 (pc' := 9) (L' := [.ref 3, .int a1, .int a2, .int a3, .retAddr 0, .retAddr 0]) (S' := [.int a2, .ref 3]) (σ' := (97, I, J, R)) rfl ?_
      refine az_E.call (d := 5) (k' := 138) (vs := [.ref 3, .int a2]) (pc' := 12) (S' := []) rfl ?_ (fun _ _ hq => hq)
      show az_E az_F ex 5 138 0 [.ref 3, .int a2] [] (97, I, J, R) _
      refine az_E.sn 7 (pc' := 11) (L' := [.ref 3, .int a2]) (S' := [.int ((I 4 9) - (1 : Int32)), .int (0 : Int32), .int a2]) (σ' := (97, I, J, R)) rfl ?_
      refine az_E.call (d := 4) (k' := 131) (vs := [.int a2, .int (0 : Int32), .int ((I 4 9) - (1 : Int32))]) (pc' := 14) (S' := []) rfl ?_ (fun _ _ hq => hq)
      show az_E az_F ex 4 131 0 [.int a2, .int (0 : Int32), .int ((I 4 9) - (1 : Int32))] [] (97, I, J, R) _
      refine az_E.sn 2 (pc' := 2) (L' := [.int a2, .int (0 : Int32), .int ((I 4 9) - (1 : Int32))]) (S' := [.int (0 : Int32), .int a2]) (σ' := (97, I, J, R)) rfl ?_
      refine az_E.br (c := a2 < (0 : Int32)) (tt := 14) (ff := 5) (L' := [.int a2, .int (0 : Int32), .int ((I 4 9) - (1 : Int32))]) (S' := []) (σ' := (97, I, J, R)) rfl (fun hc_4 => ?_) (fun hc_4 => ?_)
      · rw [if_pos hc_4] at h
        refine az_E.sn 1 (pc' := 15) (L' := [.int a2, .int (0 : Int32), .int ((I 4 9) - (1 : Int32))]) (S' := [.int (0 : Int32)]) (σ' := (97, I, J, R)) rfl ?_
        refine az_E.ret (v := some (.int (0 : Int32))) (σ' := (97, I, J, R)) rfl ?_
        show az_E az_F ex 5 138 14 [.ref 3, .int a2] [.int (0 : Int32)] (97, I, J, R) _
        refine az_E.ret (v := some (.int (0 : Int32))) (σ' := (97, I, J, R)) rfl ?_
        show az_E az_F ex 6 100 12 [.ref 3, .int a1, .int a2, .int a3, .retAddr 0, .retAddr 0] [.int (0 : Int32)] (97, I, J, R) _
        refine az_E.br (c := (0 : Int32) = 0) (tt := 22) (ff := 15) (L' := [.ref 3, .int a1, .int a2, .int a3, .retAddr 0, .retAddr 0]) (S' := []) (σ' := (97, I, J, R)) rfl (fun _ => ?_) (fun hn => absurd (by decide) hn)
        refine az_E.sn 1 (pc' := 23) (L' := [.ref 3, .int a1, .int a2, .int a3, .retAddr 0, .retAddr 0]) (S' := [.int (-1 : Int32)]) (σ' := (97, I, J, R)) rfl ?_
        have h := Option.some.inj h
        subst h
        exact az_E.ret (v := some (.int (-1 : Int32))) (σ' := (97, I, J, R)) rfl (hQ _ hR_3_2 hR_3_3)
      · rw [if_neg hc_4] at h
        refine az_E.sn 2 (pc' := 7) (L' := [.int a2, .int (0 : Int32), .int ((I 4 9) - (1 : Int32))]) (S' := [.int ((I 4 9) - (1 : Int32)), .int a2]) (σ' := (97, I, J, R)) rfl ?_
        refine az_E.br (c := ((I 4 9) - (1 : Int32)) < a2) (tt := 14) (ff := 10) (L' := [.int a2, .int (0 : Int32), .int ((I 4 9) - (1 : Int32))]) (S' := []) (σ' := (97, I, J, R)) rfl (fun hc_5 => ?_) (fun hc_5 => ?_)
        · rw [if_pos hc_5] at h
          refine az_E.sn 1 (pc' := 15) (L' := [.int a2, .int (0 : Int32), .int ((I 4 9) - (1 : Int32))]) (S' := [.int (0 : Int32)]) (σ' := (97, I, J, R)) rfl ?_
          refine az_E.ret (v := some (.int (0 : Int32))) (σ' := (97, I, J, R)) rfl ?_
          show az_E az_F ex 5 138 14 [.ref 3, .int a2] [.int (0 : Int32)] (97, I, J, R) _
          refine az_E.ret (v := some (.int (0 : Int32))) (σ' := (97, I, J, R)) rfl ?_
          show az_E az_F ex 6 100 12 [.ref 3, .int a1, .int a2, .int a3, .retAddr 0, .retAddr 0] [.int (0 : Int32)] (97, I, J, R) _
          refine az_E.br (c := (0 : Int32) = 0) (tt := 22) (ff := 15) (L' := [.ref 3, .int a1, .int a2, .int a3, .retAddr 0, .retAddr 0]) (S' := []) (σ' := (97, I, J, R)) rfl (fun _ => ?_) (fun hn => absurd (by decide) hn)
          refine az_E.sn 1 (pc' := 23) (L' := [.ref 3, .int a1, .int a2, .int a3, .retAddr 0, .retAddr 0]) (S' := [.int (-1 : Int32)]) (σ' := (97, I, J, R)) rfl ?_
          have h := Option.some.inj h
          subst h
          exact az_E.ret (v := some (.int (-1 : Int32))) (σ' := (97, I, J, R)) rfl (hQ _ hR_3_2 hR_3_3)
        · rw [if_neg hc_5] at h
          refine az_E.sn 2 (pc' := 15) (L' := [.int a2, .int (0 : Int32), .int ((I 4 9) - (1 : Int32))]) (S' := [.int (1 : Int32)]) (σ' := (97, I, J, R)) rfl ?_
          refine az_E.ret (v := some (.int (1 : Int32))) (σ' := (97, I, J, R)) rfl ?_
          show az_E az_F ex 5 138 14 [.ref 3, .int a2] [.int (1 : Int32)] (97, I, J, R) _
          refine az_E.ret (v := some (.int (1 : Int32))) (σ' := (97, I, J, R)) rfl ?_
          show az_E az_F ex 6 100 12 [.ref 3, .int a1, .int a2, .int a3, .retAddr 0, .retAddr 0] [.int (1 : Int32)] (97, I, J, R) _
          refine az_E.br (c := (1 : Int32) = 0) (tt := 22) (ff := 15) (L' := [.ref 3, .int a1, .int a2, .int a3, .retAddr 0, .retAddr 0]) (S' := []) (σ' := (97, I, J, R)) rfl (fun hn => absurd hn (by decide)) (fun _ => ?_)
          refine az_E.sn 1 (pc' := 16) (L' := [.ref 3, .int a1, .int a2, .int a3, .retAddr 0, .retAddr 0]) (S' := [.int a3]) (σ' := (97, I, J, R)) rfl ?_
          refine az_E.call (d := 5) (k' := 133) (vs := [.int a3]) (pc' := 19) (S' := []) rfl ?_ (fun _ _ hq => hq)
          show az_E az_F ex 5 133 0 [.int a3] [] (97, I, J, R) _
          refine az_E.sn 3 (pc' := 5) (L' := [.int a3]) (S' := [.int (143 : Int32), .int (0 : Int32), .int a3]) (σ' := (97, I, J, R)) rfl ?_
          refine az_E.call (d := 4) (k' := 131) (vs := [.int a3, .int (0 : Int32), .int (143 : Int32)]) (pc' := 8) (S' := []) rfl ?_ (fun _ _ hq => hq)
          show az_E az_F ex 4 131 0 [.int a3, .int (0 : Int32), .int (143 : Int32)] [] (97, I, J, R) _
          refine az_E.sn 2 (pc' := 2) (L' := [.int a3, .int (0 : Int32), .int (143 : Int32)]) (S' := [.int (0 : Int32), .int a3]) (σ' := (97, I, J, R)) rfl ?_
          refine az_E.br (c := a3 < (0 : Int32)) (tt := 14) (ff := 5) (L' := [.int a3, .int (0 : Int32), .int (143 : Int32)]) (S' := []) (σ' := (97, I, J, R)) rfl (fun hc_6 => ?_) (fun hc_6 => ?_)
          · rw [if_pos hc_6] at h
            refine az_E.sn 1 (pc' := 15) (L' := [.int a3, .int (0 : Int32), .int (143 : Int32)]) (S' := [.int (0 : Int32)]) (σ' := (97, I, J, R)) rfl ?_
            refine az_E.ret (v := some (.int (0 : Int32))) (σ' := (97, I, J, R)) rfl ?_
            show az_E az_F ex 5 133 8 [.int a3] [.int (0 : Int32)] (97, I, J, R) _
            refine az_E.ret (v := some (.int (0 : Int32))) (σ' := (97, I, J, R)) rfl ?_
            show az_E az_F ex 6 100 19 [.ref 3, .int a1, .int a2, .int a3, .retAddr 0, .retAddr 0] [.int (0 : Int32)] (97, I, J, R) _
            refine az_E.br (c := (0 : Int32) = 0) (tt := 22) (ff := 24) (L' := [.ref 3, .int a1, .int a2, .int a3, .retAddr 0, .retAddr 0]) (S' := []) (σ' := (97, I, J, R)) rfl (fun _ => ?_) (fun hn => absurd (by decide) hn)
            refine az_E.sn 1 (pc' := 23) (L' := [.ref 3, .int a1, .int a2, .int a3, .retAddr 0, .retAddr 0]) (S' := [.int (-1 : Int32)]) (σ' := (97, I, J, R)) rfl ?_
            have h := Option.some.inj h
            subst h
            exact az_E.ret (v := some (.int (-1 : Int32))) (σ' := (97, I, J, R)) rfl (hQ _ hR_3_2 hR_3_3)
          · rw [if_neg hc_6] at h
            refine az_E.sn 2 (pc' := 7) (L' := [.int a3, .int (0 : Int32), .int (143 : Int32)]) (S' := [.int (143 : Int32), .int a3]) (σ' := (97, I, J, R)) rfl ?_
            refine az_E.br (c := (143 : Int32) < a3) (tt := 14) (ff := 10) (L' := [.int a3, .int (0 : Int32), .int (143 : Int32)]) (S' := []) (σ' := (97, I, J, R)) rfl (fun hc_7 => ?_) (fun hc_7 => ?_)
            · rw [if_pos hc_7] at h
              refine az_E.sn 1 (pc' := 15) (L' := [.int a3, .int (0 : Int32), .int (143 : Int32)]) (S' := [.int (0 : Int32)]) (σ' := (97, I, J, R)) rfl ?_
              refine az_E.ret (v := some (.int (0 : Int32))) (σ' := (97, I, J, R)) rfl ?_
              show az_E az_F ex 5 133 8 [.int a3] [.int (0 : Int32)] (97, I, J, R) _
              refine az_E.ret (v := some (.int (0 : Int32))) (σ' := (97, I, J, R)) rfl ?_
              show az_E az_F ex 6 100 19 [.ref 3, .int a1, .int a2, .int a3, .retAddr 0, .retAddr 0] [.int (0 : Int32)] (97, I, J, R) _
              refine az_E.br (c := (0 : Int32) = 0) (tt := 22) (ff := 24) (L' := [.ref 3, .int a1, .int a2, .int a3, .retAddr 0, .retAddr 0]) (S' := []) (σ' := (97, I, J, R)) rfl (fun _ => ?_) (fun hn => absurd (by decide) hn)
              refine az_E.sn 1 (pc' := 23) (L' := [.ref 3, .int a1, .int a2, .int a3, .retAddr 0, .retAddr 0]) (S' := [.int (-1 : Int32)]) (σ' := (97, I, J, R)) rfl ?_
              have h := Option.some.inj h
              subst h
              exact az_E.ret (v := some (.int (-1 : Int32))) (σ' := (97, I, J, R)) rfl (hQ _ hR_3_2 hR_3_3)
            · rw [if_neg hc_7] at h
              refine az_E.sn 2 (pc' := 15) (L' := [.int a3, .int (0 : Int32), .int (143 : Int32)]) (S' := [.int (1 : Int32)]) (σ' := (97, I, J, R)) rfl ?_
              refine az_E.ret (v := some (.int (1 : Int32))) (σ' := (97, I, J, R)) rfl ?_
              show az_E az_F ex 5 133 8 [.int a3] [.int (1 : Int32)] (97, I, J, R) _
              refine az_E.ret (v := some (.int (1 : Int32))) (σ' := (97, I, J, R)) rfl ?_
              show az_E az_F ex 6 100 19 [.ref 3, .int a1, .int a2, .int a3, .retAddr 0, .retAddr 0] [.int (1 : Int32)] (97, I, J, R) _
              refine az_E.br (c := (1 : Int32) = 0) (tt := 22) (ff := 24) (L' := [.ref 3, .int a1, .int a2, .int a3, .retAddr 0, .retAddr 0]) (S' := []) (σ' := (97, I, J, R)) rfl (fun hn => absurd hn (by decide)) (fun _ => ?_)
              refine az_E.sn 2 (pc' := 26) (L' := [.ref 3, .int a1, .int a2, .int a3, .retAddr 0, .retAddr 0]) (S' := [.int a2, .ref 3]) (σ' := (97, I, J, R)) rfl ?_
              cases hx_9 : rs_X_setPace 21 I a2 with
              | none => rw [hx_9] at h; cases h
              | some I_8 =>
                rw [hx_9] at h
                dsimp only at h
                refine az_E.call (d := 5) (k' := 144) (vs := [.ref 3, .int a2]) (pc' := 29) (S' := []) (Q1 := fun v s => v = none ∧ s = (97, I_8, J, (az_u (az_u R 26 2 (some 21)) 26 3 (some 5)))) rfl (az_E.deep (by omega) (re_X_setPace_21 (J := J) (R := R) hR_3_2 hx_9 ⟨rfl, rfl⟩)) (fun v s hq => ?_)
                obtain ⟨rfl, rfl⟩ := hq
                show az_E az_F ex 6 100 29 [.ref 3, .int a1, .int a2, .int a3, .retAddr 0, .retAddr 0] [] (97, I_8, J, (az_u (az_u R 26 2 (some 21)) 26 3 (some 5))) _
                refine az_E.sn 5 (pc' := 38) (L' := [.ref 3, .int a1, .int a2, .int a3, .retAddr 0, .retAddr 0]) (S' := [.int a1, .ref 26, .ref 32]) (σ' := (97, I_8, J, (az_u (az_u R 26 2 (some 21)) 26 3 (some 5)))) rfl ?_
                refine az_E.call (d := 5) (k' := 135) (vs := [.int a1]) (pc' := 41) (S' := [.ref 26, .ref 32]) rfl ?_ (fun _ _ hq => hq)
                show az_E az_F ex 5 135 0 [.int a1] [] (97, I_8, J, (az_u (az_u R 26 2 (some 21)) 26 3 (some 5))) _
                refine az_E.sn 2 (pc' := 4) (L' := [.int a1]) (S' := [.int (1000 : Int32), .int a1]) (σ' := (97, I_8, J, (az_u (az_u R 26 2 (some 21)) 26 3 (some 5)))) rfl ?_
                have hd_10 : ¬ ((1000 : Int32) = 0) := by decide
                refine az_E.dv (c := (1000 : Int32) = 0) (pc' := 5) (L' := [.int a1]) (S' := [.int (a1 / (1000 : Int32))]) (σ' := (97, I_8, J, (az_u (az_u R 26 2 (some 21)) 26 3 (some 5)))) rfl hd_10 ?_
                refine az_E.ret (v := some (.int (a1 / (1000 : Int32)))) (σ' := (97, I_8, J, (az_u (az_u R 26 2 (some 21)) 26 3 (some 5)))) rfl ?_
                show az_E az_F ex 6 100 41 [.ref 3, .int a1, .int a2, .int a3, .retAddr 0, .retAddr 0] [.int (a1 / (1000 : Int32)), .ref 26, .ref 32] (97, I_8, J, (az_u (az_u R 26 2 (some 21)) 26 3 (some 5))) _
                refine az_E.sn 1 (pc' := 42) (L' := [.ref 3, .int a1, .int a2, .int a3, .retAddr 0, .retAddr 0]) (S' := [.int a1, .int (a1 / (1000 : Int32)), .ref 26, .ref 32]) (σ' := (97, I_8, J, (az_u (az_u R 26 2 (some 21)) 26 3 (some 5)))) rfl ?_
                refine az_E.call (d := 5) (k' := 136) (vs := [.int a1]) (pc' := 45) (S' := [.int (a1 / (1000 : Int32)), .ref 26, .ref 32]) rfl ?_ (fun _ _ hq => hq)
                show az_E az_F ex 5 136 0 [.int a1] [] (97, I_8, J, (az_u (az_u R 26 2 (some 21)) 26 3 (some 5))) _
                refine az_E.sn 2 (pc' := 4) (L' := [.int a1]) (S' := [.int (1000 : Int32), .int a1]) (σ' := (97, I_8, J, (az_u (az_u R 26 2 (some 21)) 26 3 (some 5)))) rfl ?_
                have hd_11 : ¬ ((1000 : Int32) = 0) := by decide
                refine az_E.dv (c := (1000 : Int32) = 0) (pc' := 5) (L' := [.int a1]) (S' := [.int (a1 - a1 / (1000 : Int32) * (1000 : Int32))]) (σ' := (97, I_8, J, (az_u (az_u R 26 2 (some 21)) 26 3 (some 5)))) rfl hd_11 ?_
                refine az_E.ret (v := some (.int (a1 - a1 / (1000 : Int32) * (1000 : Int32)))) (σ' := (97, I_8, J, (az_u (az_u R 26 2 (some 21)) 26 3 (some 5)))) rfl ?_
                show az_E az_F ex 6 100 45 [.ref 3, .int a1, .int a2, .int a3, .retAddr 0, .retAddr 0] [.int (a1 - a1 / (1000 : Int32) * (1000 : Int32)), .int (a1 / (1000 : Int32)), .ref 26, .ref 32] (97, I_8, J, (az_u (az_u R 26 2 (some 21)) 26 3 (some 5))) _
                cases hx_13 : rs_Fi_findWay 26 I_8 (a1 / (1000 : Int32)) (a1 - a1 / (1000 : Int32) * (1000 : Int32)) with
                | none => rw [hx_13] at h; cases h
                | some I_12 =>
                  rw [hx_13] at h
                  dsimp only at h
                  refine az_E.call (d := 5) (k' := 20) (vs := [.ref 32, .ref 26, .int (a1 / (1000 : Int32)), .int (a1 - a1 / (1000 : Int32) * (1000 : Int32))]) (pc' := 48) (S' := []) (Q1 := fun v s => v = none ∧ s = (97, I_12, J, (az_u (az_u R 26 2 (some 21)) 26 3 (some 5)))) rfl (az_E.deep (by omega) (re_Fi_findWay_26_5 (J := J) (R := (az_u (az_u R 26 2 (some 21)) 26 3 (some 5))) rfl hx_13 ⟨rfl, rfl⟩)) (fun v s hq => ?_)
                  obtain ⟨rfl, rfl⟩ := hq
                  show az_E az_F ex 6 100 48 [.ref 3, .int a1, .int a2, .int a3, .retAddr 0, .retAddr 0] [] (97, I_12, J, (az_u (az_u R 26 2 (some 21)) 26 3 (some 5))) _
                  refine az_E.sn 10 (pc' := 66) (L' := [.ref 3, .int a1, .int a2, .int a3, .retAddr 0, .retAddr 0]) (S' := [.ref 34, .int (-1 : Int32), .int (1 : Int32), .int a3, .ref 26, .ref 32]) (σ' := (97, I_12, J, (az_u (az_u R 26 2 (some 21)) 26 3 (some 5)))) rfl ?_
                  cases hx_15 : rs_Fi_spread 26 34 I_12 a3 (1 : Int32) (-1 : Int32) with
                  | none => rw [hx_15] at h; cases h
                  | some I_14 =>
                    rw [hx_15] at h
                    dsimp only at h
                    refine az_E.call (d := 5) (k' := 17) (vs := [.ref 32, .ref 26, .int a3, .int (1 : Int32), .int (-1 : Int32), .ref 34]) (pc' := 69) (S' := []) (Q1 := fun v s => v = none ∧ s = (97, I_14, J, (az_u (az_u R 26 2 (some 21)) 26 3 (some 5)))) rfl (az_E.deep (by omega) (re_Fi_spread_26_34_5 (J := J) (R := (az_u (az_u R 26 2 (some 21)) 26 3 (some 5))) rfl hx_15 ⟨rfl, rfl⟩)) (fun v s hq => ?_)
                    obtain ⟨rfl, rfl⟩ := hq
                    show az_E az_F ex 6 100 69 [.ref 3, .int a1, .int a2, .int a3, .retAddr 0, .retAddr 0] [] (97, I_14, J, (az_u (az_u R 26 2 (some 21)) 26 3 (some 5))) _
                    refine az_E.sn 4 (pc' := 78) (L' := [.ref 3, .int a1, .int a2, .int a3, .int (I_14 32 3), .retAddr 0]) (S' := []) (σ' := (97, I_14, J, (az_u (az_u R 26 2 (some 21)) 26 3 (some 5)))) rfl ?_
                    exact az_E.forget (L := [.ref 3, .retAddr 0, .retAddr 0, .retAddr 0, .int (I_14 32 3), .retAddr 0]) ⟨rfl, trivial, trivial, trivial, rfl, trivial, trivial⟩ (re_X_backFrom_78_21_16 (I := I_14) (J := J) (R := R) hR_3_2 hR_3_3 h hQ)
set_option maxRecDepth 100000 in
set_option maxHeartbeats 4000000 in
theorem re_X_round_21_16 {ex : az_X} {I : Nat → Nat → Int32} {J : Nat → Nat → Int64} {R : Nat → Nat → Option Nat} {a1 : Int32} {a2 : Int32} {a3 : Int32} (hR_3_2 : R 3 2 = some 21) (hR_3_3 : R 3 3 = some 16) {o : Int32 × (Nat → Nat → Int32)} (h : rs_X_round 16 21 I a1 a2 a3 = some o) {Q : Option Value → az_S → Prop} (hQ : ∀ R' : Nat → Nat → Option Nat, R' 3 2 = some 21 → R' 3 3 = some 16 → Q (some (.int o.1)) (97, o.2, J, R')) : az_E az_F ex 122 101 0 [.ref 3, .int a1, .int a2, .int a3, .retAddr 0] [] (97, I, J, R) Q := by
  unfold rs_X_round at h
  refine az_E.sn 1 (pc' := 1) (L' := [.ref 3, .int a1, .int a2, .int a3, .retAddr 0]) (S' := [.int a1]) (σ' := (97, I, J, R)) rfl ?_
  refine az_E.br (c := a1 < 0) (tt := 28) (ff := 4) (L' := [.ref 3, .int a1, .int a2, .int a3, .retAddr 0]) (S' := []) (σ' := (97, I, J, R)) rfl (fun hc_1 => ?_) (fun hc_1 => ?_)
  · rw [if_pos hc_1] at h
    refine az_E.sn 1 (pc' := 29) (L' := [.ref 3, .int a1, .int a2, .int a3, .retAddr 0]) (S' := [.int (-1 : Int32)]) (σ' := (97, I, J, R)) rfl ?_
    have h := Option.some.inj h
    subst h
    exact az_E.ret (v := some (.int (-1 : Int32))) (σ' := (97, I, J, R)) rfl (hQ _ hR_3_2 hR_3_3)
  · rw [if_neg hc_1] at h
    refine az_E.sn 2 (pc' := 8) (L' := [.ref 3, .int a1, .int a2, .int a3, .retAddr 0]) (S' := [.int (1000 : Int32), .int a1]) (σ' := (97, I, J, R)) rfl ?_
    have hd_2 : ¬ ((1000 : Int32) = 0) := by decide
    refine az_E.dv (c := (1000 : Int32) = 0) (pc' := 9) (L' := [.ref 3, .int a1, .int a2, .int a3, .retAddr 0]) (S' := [.int (a1 / (1000 : Int32))]) (σ' := (97, I, J, R)) rfl hd_2 ?_
    refine az_E.call (d := 121) (k' := 133) (vs := [.int (a1 / (1000 : Int32))]) (pc' := 12) (S' := []) rfl ?_ (fun _ _ hq => hq)
    show az_E az_F ex 121 133 0 [.int (a1 / (1000 : Int32))] [] (97, I, J, R) _
    refine az_E.sn 3 (pc' := 5) (L' := [.int (a1 / (1000 : Int32))]) (S' := [.int (143 : Int32), .int (0 : Int32), .int (a1 / (1000 : Int32))]) (σ' := (97, I, J, R)) rfl ?_
    refine az_E.call (d := 120) (k' := 131) (vs := [.int (a1 / (1000 : Int32)), .int (0 : Int32), .int (143 : Int32)]) (pc' := 8) (S' := []) rfl ?_ (fun _ _ hq => hq)
    show az_E az_F ex 120 131 0 [.int (a1 / (1000 : Int32)), .int (0 : Int32), .int (143 : Int32)] [] (97, I, J, R) _
    refine az_E.sn 2 (pc' := 2) (L' := [.int (a1 / (1000 : Int32)), .int (0 : Int32), .int (143 : Int32)]) (S' := [.int (0 : Int32), .int (a1 / (1000 : Int32))]) (σ' := (97, I, J, R)) rfl ?_
    refine az_E.br (c := (a1 / (1000 : Int32)) < (0 : Int32)) (tt := 14) (ff := 5) (L' := [.int (a1 / (1000 : Int32)), .int (0 : Int32), .int (143 : Int32)]) (S' := []) (σ' := (97, I, J, R)) rfl (fun hc_3 => ?_) (fun hc_3 => ?_)
    · rw [if_pos hc_3] at h
      refine az_E.sn 1 (pc' := 15) (L' := [.int (a1 / (1000 : Int32)), .int (0 : Int32), .int (143 : Int32)]) (S' := [.int (0 : Int32)]) (σ' := (97, I, J, R)) rfl ?_
      refine az_E.ret (v := some (.int (0 : Int32))) (σ' := (97, I, J, R)) rfl ?_
      show az_E az_F ex 121 133 8 [.int (a1 / (1000 : Int32))] [.int (0 : Int32)] (97, I, J, R) _
      refine az_E.ret (v := some (.int (0 : Int32))) (σ' := (97, I, J, R)) rfl ?_
      show az_E az_F ex 122 101 12 [.ref 3, .int a1, .int a2, .int a3, .retAddr 0] [.int (0 : Int32)] (97, I, J, R) _
      refine az_E.br (c := (0 : Int32) = 0) (tt := 28) (ff := 15) (L' := [.ref 3, .int a1, .int a2, .int a3, .retAddr 0]) (S' := []) (σ' := (97, I, J, R)) rfl (fun _ => ?_) (fun hn => absurd (by decide) hn)
      refine az_E.sn 1 (pc' := 29) (L' := [.ref 3, .int a1, .int a2, .int a3, .retAddr 0]) (S' := [.int (-1 : Int32)]) (σ' := (97, I, J, R)) rfl ?_
      have h := Option.some.inj h
      subst h
      exact az_E.ret (v := some (.int (-1 : Int32))) (σ' := (97, I, J, R)) rfl (hQ _ hR_3_2 hR_3_3)
    · rw [if_neg hc_3] at h
      refine az_E.sn 2 (pc' := 7) (L' := [.int (a1 / (1000 : Int32)), .int (0 : Int32), .int (143 : Int32)]) (S' := [.int (143 : Int32), .int (a1 / (1000 : Int32))]) (σ' := (97, I, J, R)) rfl ?_
      refine az_E.br (c := (143 : Int32) < (a1 / (1000 : Int32))) (tt := 14) (ff := 10) (L' := [.int (a1 / (1000 : Int32)), .int (0 : Int32), .int (143 : Int32)]) (S' := []) (σ' := (97, I, J, R)) rfl (fun hc_4 => ?_) (fun hc_4 => ?_)
      · rw [if_pos hc_4] at h
        refine az_E.sn 1 (pc' := 15) (L' := [.int (a1 / (1000 : Int32)), .int (0 : Int32), .int (143 : Int32)]) (S' := [.int (0 : Int32)]) (σ' := (97, I, J, R)) rfl ?_
        refine az_E.ret (v := some (.int (0 : Int32))) (σ' := (97, I, J, R)) rfl ?_
        show az_E az_F ex 121 133 8 [.int (a1 / (1000 : Int32))] [.int (0 : Int32)] (97, I, J, R) _
        refine az_E.ret (v := some (.int (0 : Int32))) (σ' := (97, I, J, R)) rfl ?_
        show az_E az_F ex 122 101 12 [.ref 3, .int a1, .int a2, .int a3, .retAddr 0] [.int (0 : Int32)] (97, I, J, R) _
        refine az_E.br (c := (0 : Int32) = 0) (tt := 28) (ff := 15) (L' := [.ref 3, .int a1, .int a2, .int a3, .retAddr 0]) (S' := []) (σ' := (97, I, J, R)) rfl (fun _ => ?_) (fun hn => absurd (by decide) hn)
        refine az_E.sn 1 (pc' := 29) (L' := [.ref 3, .int a1, .int a2, .int a3, .retAddr 0]) (S' := [.int (-1 : Int32)]) (σ' := (97, I, J, R)) rfl ?_
        have h := Option.some.inj h
        subst h
        exact az_E.ret (v := some (.int (-1 : Int32))) (σ' := (97, I, J, R)) rfl (hQ _ hR_3_2 hR_3_3)
      · rw [if_neg hc_4] at h
        refine az_E.sn 2 (pc' := 15) (L' := [.int (a1 / (1000 : Int32)), .int (0 : Int32), .int (143 : Int32)]) (S' := [.int (1 : Int32)]) (σ' := (97, I, J, R)) rfl ?_
        refine az_E.ret (v := some (.int (1 : Int32))) (σ' := (97, I, J, R)) rfl ?_
        show az_E az_F ex 121 133 8 [.int (a1 / (1000 : Int32))] [.int (1 : Int32)] (97, I, J, R) _
        refine az_E.ret (v := some (.int (1 : Int32))) (σ' := (97, I, J, R)) rfl ?_
        show az_E az_F ex 122 101 12 [.ref 3, .int a1, .int a2, .int a3, .retAddr 0] [.int (1 : Int32)] (97, I, J, R) _
        refine az_E.br (c := (1 : Int32) = 0) (tt := 28) (ff := 15) (L' := [.ref 3, .int a1, .int a2, .int a3, .retAddr 0]) (S' := []) (σ' := (97, I, J, R)) rfl (fun hn => absurd hn (by decide)) (fun _ => ?_)
        refine az_E.sn 2 (pc' := 17) (L' := [.ref 3, .int a1, .int a2, .int a3, .retAddr 0]) (S' := [.int a2, .ref 3]) (σ' := (97, I, J, R)) rfl ?_
        refine az_E.call (d := 121) (k' := 138) (vs := [.ref 3, .int a2]) (pc' := 20) (S' := []) rfl ?_ (fun _ _ hq => hq)
        show az_E az_F ex 121 138 0 [.ref 3, .int a2] [] (97, I, J, R) _
        refine az_E.sn 7 (pc' := 11) (L' := [.ref 3, .int a2]) (S' := [.int ((I 4 9) - (1 : Int32)), .int (0 : Int32), .int a2]) (σ' := (97, I, J, R)) rfl ?_
        refine az_E.call (d := 120) (k' := 131) (vs := [.int a2, .int (0 : Int32), .int ((I 4 9) - (1 : Int32))]) (pc' := 14) (S' := []) rfl ?_ (fun _ _ hq => hq)
        show az_E az_F ex 120 131 0 [.int a2, .int (0 : Int32), .int ((I 4 9) - (1 : Int32))] [] (97, I, J, R) _
        refine az_E.sn 2 (pc' := 2) (L' := [.int a2, .int (0 : Int32), .int ((I 4 9) - (1 : Int32))]) (S' := [.int (0 : Int32), .int a2]) (σ' := (97, I, J, R)) rfl ?_
        refine az_E.br (c := a2 < (0 : Int32)) (tt := 14) (ff := 5) (L' := [.int a2, .int (0 : Int32), .int ((I 4 9) - (1 : Int32))]) (S' := []) (σ' := (97, I, J, R)) rfl (fun hc_5 => ?_) (fun hc_5 => ?_)
        · rw [if_pos hc_5] at h
          refine az_E.sn 1 (pc' := 15) (L' := [.int a2, .int (0 : Int32), .int ((I 4 9) - (1 : Int32))]) (S' := [.int (0 : Int32)]) (σ' := (97, I, J, R)) rfl ?_
          refine az_E.ret (v := some (.int (0 : Int32))) (σ' := (97, I, J, R)) rfl ?_
          show az_E az_F ex 121 138 14 [.ref 3, .int a2] [.int (0 : Int32)] (97, I, J, R) _
          refine az_E.ret (v := some (.int (0 : Int32))) (σ' := (97, I, J, R)) rfl ?_
          show az_E az_F ex 122 101 20 [.ref 3, .int a1, .int a2, .int a3, .retAddr 0] [.int (0 : Int32)] (97, I, J, R) _
          refine az_E.br (c := (0 : Int32) = 0) (tt := 28) (ff := 23) (L' := [.ref 3, .int a1, .int a2, .int a3, .retAddr 0]) (S' := []) (σ' := (97, I, J, R)) rfl (fun _ => ?_) (fun hn => absurd (by decide) hn)
          refine az_E.sn 1 (pc' := 29) (L' := [.ref 3, .int a1, .int a2, .int a3, .retAddr 0]) (S' := [.int (-1 : Int32)]) (σ' := (97, I, J, R)) rfl ?_
          have h := Option.some.inj h
          subst h
          exact az_E.ret (v := some (.int (-1 : Int32))) (σ' := (97, I, J, R)) rfl (hQ _ hR_3_2 hR_3_3)
        · rw [if_neg hc_5] at h
          refine az_E.sn 2 (pc' := 7) (L' := [.int a2, .int (0 : Int32), .int ((I 4 9) - (1 : Int32))]) (S' := [.int ((I 4 9) - (1 : Int32)), .int a2]) (σ' := (97, I, J, R)) rfl ?_
          refine az_E.br (c := ((I 4 9) - (1 : Int32)) < a2) (tt := 14) (ff := 10) (L' := [.int a2, .int (0 : Int32), .int ((I 4 9) - (1 : Int32))]) (S' := []) (σ' := (97, I, J, R)) rfl (fun hc_6 => ?_) (fun hc_6 => ?_)
          · rw [if_pos hc_6] at h
            refine az_E.sn 1 (pc' := 15) (L' := [.int a2, .int (0 : Int32), .int ((I 4 9) - (1 : Int32))]) (S' := [.int (0 : Int32)]) (σ' := (97, I, J, R)) rfl ?_
            refine az_E.ret (v := some (.int (0 : Int32))) (σ' := (97, I, J, R)) rfl ?_
            show az_E az_F ex 121 138 14 [.ref 3, .int a2] [.int (0 : Int32)] (97, I, J, R) _
            refine az_E.ret (v := some (.int (0 : Int32))) (σ' := (97, I, J, R)) rfl ?_
            show az_E az_F ex 122 101 20 [.ref 3, .int a1, .int a2, .int a3, .retAddr 0] [.int (0 : Int32)] (97, I, J, R) _
            refine az_E.br (c := (0 : Int32) = 0) (tt := 28) (ff := 23) (L' := [.ref 3, .int a1, .int a2, .int a3, .retAddr 0]) (S' := []) (σ' := (97, I, J, R)) rfl (fun _ => ?_) (fun hn => absurd (by decide) hn)
            refine az_E.sn 1 (pc' := 29) (L' := [.ref 3, .int a1, .int a2, .int a3, .retAddr 0]) (S' := [.int (-1 : Int32)]) (σ' := (97, I, J, R)) rfl ?_
            have h := Option.some.inj h
            subst h
            exact az_E.ret (v := some (.int (-1 : Int32))) (σ' := (97, I, J, R)) rfl (hQ _ hR_3_2 hR_3_3)
          · rw [if_neg hc_6] at h
            refine az_E.sn 2 (pc' := 15) (L' := [.int a2, .int (0 : Int32), .int ((I 4 9) - (1 : Int32))]) (S' := [.int (1 : Int32)]) (σ' := (97, I, J, R)) rfl ?_
            refine az_E.ret (v := some (.int (1 : Int32))) (σ' := (97, I, J, R)) rfl ?_
            show az_E az_F ex 121 138 14 [.ref 3, .int a2] [.int (1 : Int32)] (97, I, J, R) _
            refine az_E.ret (v := some (.int (1 : Int32))) (σ' := (97, I, J, R)) rfl ?_
            show az_E az_F ex 122 101 20 [.ref 3, .int a1, .int a2, .int a3, .retAddr 0] [.int (1 : Int32)] (97, I, J, R) _
            refine az_E.br (c := (1 : Int32) = 0) (tt := 28) (ff := 23) (L' := [.ref 3, .int a1, .int a2, .int a3, .retAddr 0]) (S' := []) (σ' := (97, I, J, R)) rfl (fun hn => absurd hn (by decide)) (fun _ => ?_)
            refine az_E.sn 2 (pc' := 25) (L' := [.ref 3, .int a1, .int a2, .int a3, .retAddr 0]) (S' := [.int (-1 : Int32), .int a3]) (σ' := (97, I, J, R)) rfl ?_
            refine az_E.br (c := (-1 : Int32) ≤ a3) (tt := 30) (ff := 28) (L' := [.ref 3, .int a1, .int a2, .int a3, .retAddr 0]) (S' := []) (σ' := (97, I, J, R)) rfl (fun hc_7 => ?_) (fun hc_7 => ?_)
            · rw [if_pos hc_7] at h
              refine az_E.sn 2 (pc' := 34) (L' := [.ref 3, .int a1, .int a2, .int a3, .retAddr 0]) (S' := [.int (1000 : Int32), .int a1]) (σ' := (97, I, J, R)) rfl ?_
              have hd_8 : ¬ ((1000 : Int32) = 0) := by decide
              refine az_E.dv (c := (1000 : Int32) = 0) (pc' := 35) (L' := [.ref 3, .int a1, .int a2, .int a3, .retAddr 0]) (S' := [.int (a1 - a1 / (1000 : Int32) * (1000 : Int32))]) (σ' := (97, I, J, R)) rfl hd_8 ?_
              refine az_E.sn 7 (pc' := 48) (L' := [.ref 3, .int a1, .int a2, .int a3, .int (a1 - a1 / (1000 : Int32) * (1000 : Int32))]) (S' := [.int ((1 : Int32) <<< ((I 4 3) &&& 31)), .int (a1 - a1 / (1000 : Int32) * (1000 : Int32))]) (σ' := (97, I, J, R)) rfl ?_
              refine az_E.br (c := (a1 - a1 / (1000 : Int32) * (1000 : Int32)) < ((1 : Int32) <<< ((I 4 3) &&& 31))) (tt := 53) (ff := 51) (L' := [.ref 3, .int a1, .int a2, .int a3, .int (a1 - a1 / (1000 : Int32) * (1000 : Int32))]) (S' := []) (σ' := (97, I, J, R)) rfl (fun hc_9 => ?_) (fun hc_9 => ?_)
              · rw [if_pos hc_9] at h
                refine az_E.sn 1 (pc' := 55) (L' := [.ref 3, .int a1, .int a2, .int a3, .int (a1 - a1 / (1000 : Int32) * (1000 : Int32))]) (S' := [.int (a1 - a1 / (1000 : Int32) * (1000 : Int32))]) (σ' := (97, I, J, R)) rfl ?_
                cases hx_11 : rs_JI_bitCount (a1 - a1 / (1000 : Int32) * (1000 : Int32)) with
                | none => rw [hx_11] at h; cases h
                | some x_10 =>
                  rw [hx_11] at h
                  dsimp only at h
                  refine az_E.call (d := 121) (k' := 255) (vs := [.int (a1 - a1 / (1000 : Int32) * (1000 : Int32))]) (pc' := 58) (S' := []) (Q1 := fun v s => v = some (.int x_10) ∧ s = (97, I, J, R)) rfl (az_E.deep (by omega) (re_JI_bitCount (J := J) (R := R)  hx_11 ⟨rfl, rfl⟩)) (fun v s hq => ?_)
                  obtain ⟨rfl, rfl⟩ := hq
                  show az_E az_F ex 122 101 58 [.ref 3, .int a1, .int a2, .int a3, .int (a1 - a1 / (1000 : Int32) * (1000 : Int32))] [.int x_10] (97, I, J, R) _
                  refine az_E.sn 1 (pc' := 59) (L' := [.ref 3, .int a1, .int a2, .int a3, .int (a1 - a1 / (1000 : Int32) * (1000 : Int32))]) (S' := [.int (5 : Int32), .int x_10]) (σ' := (97, I, J, R)) rfl ?_
                  refine az_E.br (c := x_10 ≤ (5 : Int32)) (tt := 65) (ff := 62) (L' := [.ref 3, .int a1, .int a2, .int a3, .int (a1 - a1 / (1000 : Int32) * (1000 : Int32))]) (S' := []) (σ' := (97, I, J, R)) rfl (fun hc_12 => ?_) (fun hc_12 => ?_)
                  · rw [if_pos hc_12] at h
                    refine az_E.sn 2 (pc' := 68) (L' := [.ref 3, .int a1, .int a2, .int a3, .int (a1 - a1 / (1000 : Int32) * (1000 : Int32))]) (S' := [.int (a1 - a1 / (1000 : Int32) * (1000 : Int32)), .int a3]) (σ' := (97, I, J, R)) rfl ?_
                    refine az_E.call (d := 121) (k' := 255) (vs := [.int (a1 - a1 / (1000 : Int32) * (1000 : Int32))]) (pc' := 71) (S' := [.int a3]) (Q1 := fun v s => v = some (.int x_10) ∧ s = (97, I, J, R)) rfl (az_E.deep (by omega) (re_JI_bitCount (J := J) (R := R)  hx_11 ⟨rfl, rfl⟩)) (fun v s hq => ?_)
                    obtain ⟨rfl, rfl⟩ := hq
                    show az_E az_F ex 122 101 71 [.ref 3, .int a1, .int a2, .int a3, .int (a1 - a1 / (1000 : Int32) * (1000 : Int32))] [.int x_10, .int a3] (97, I, J, R) _
                    refine az_E.br (c := a3 < x_10) (tt := 77) (ff := 74) (L' := [.ref 3, .int a1, .int a2, .int a3, .int (a1 - a1 / (1000 : Int32) * (1000 : Int32))]) (S' := []) (σ' := (97, I, J, R)) rfl (fun hc_13 => ?_) (fun hc_13 => ?_)
                    · rw [if_pos hc_13] at h
                      refine az_E.sn 2 (pc' := 79) (L' := [.ref 3, .int a1, .int a2, .int a3, .int (a1 - a1 / (1000 : Int32) * (1000 : Int32))]) (S' := [.int a2, .ref 3]) (σ' := (97, I, J, R)) rfl ?_
                      cases hx_15 : rs_X_setPace 21 I a2 with
                      | none => rw [hx_15] at h; cases h
                      | some I_14 =>
                        rw [hx_15] at h
                        dsimp only at h
                        refine az_E.call (d := 121) (k' := 144) (vs := [.ref 3, .int a2]) (pc' := 82) (S' := []) (Q1 := fun v s => v = none ∧ s = (97, I_14, J, (az_u (az_u R 26 2 (some 21)) 26 3 (some 5)))) rfl (az_E.deep (by omega) (re_X_setPace_21 (J := J) (R := R) hR_3_2 hx_15 ⟨rfl, rfl⟩)) (fun v s hq => ?_)
                        obtain ⟨rfl, rfl⟩ := hq
                        show az_E az_F ex 122 101 82 [.ref 3, .int a1, .int a2, .int a3, .int (a1 - a1 / (1000 : Int32) * (1000 : Int32))] [] (97, I_14, J, (az_u (az_u R 26 2 (some 21)) 26 3 (some 5))) _
                        refine az_E.sn 3 (pc' := 87) (L' := [.ref 3, .int a1, .int a2, .int a3, .int (a1 - a1 / (1000 : Int32) * (1000 : Int32))]) (S' := [.int (1000 : Int32), .int a1, .ref 3]) (σ' := (97, I_14, J, (az_u (az_u R 26 2 (some 21)) 26 3 (some 5)))) rfl ?_
                        have hd_16 : ¬ ((1000 : Int32) = 0) := by decide
                        refine az_E.dv (c := (1000 : Int32) = 0) (pc' := 88) (L' := [.ref 3, .int a1, .int a2, .int a3, .int (a1 - a1 / (1000 : Int32) * (1000 : Int32))]) (S' := [.int (a1 / (1000 : Int32)), .ref 3]) (σ' := (97, I_14, J, (az_u (az_u R 26 2 (some 21)) 26 3 (some 5)))) rfl hd_16 ?_
                        refine az_E.sn 1 (pc' := 90) (L' := [.ref 3, .int a1, .int a2, .int a3, .int (a1 - a1 / (1000 : Int32) * (1000 : Int32))]) (S' := [.int (a1 - a1 / (1000 : Int32) * (1000 : Int32)), .int (a1 / (1000 : Int32)), .ref 3]) (σ' := (97, I_14, J, (az_u (az_u R 26 2 (some 21)) 26 3 (some 5)))) rfl ?_
                        cases hx_18 : rs_X_measureTour I_14 (a1 / (1000 : Int32)) (a1 - a1 / (1000 : Int32) * (1000 : Int32)) with
                        | none => rw [hx_18] at h; cases h
                        | some I_17 =>
                          rw [hx_18] at h
                          dsimp only at h
                          refine az_E.call (d := 121) (k' := 152) (vs := [.ref 3, .int (a1 / (1000 : Int32)), .int (a1 - a1 / (1000 : Int32) * (1000 : Int32))]) (pc' := 93) (S' := []) (Q1 := fun v s => v = none ∧ s = (97, I_17, J, (az_u (az_u R 26 2 (some 21)) 26 3 (some 5)))) rfl (az_E.deep (by omega) (re_X_measureTour_5 (J := J) (R := (az_u (az_u R 26 2 (some 21)) 26 3 (some 5))) rfl hx_18 ⟨rfl, rfl⟩)) (fun v s hq => ?_)
                          obtain ⟨rfl, rfl⟩ := hq
                          show az_E az_F ex 122 101 93 [.ref 3, .int a1, .int a2, .int a3, .int (a1 - a1 / (1000 : Int32) * (1000 : Int32))] [] (97, I_17, J, (az_u (az_u R 26 2 (some 21)) 26 3 (some 5))) _
                          refine az_E.sn 2 (pc' := 97) (L' := [.ref 3, .int a1, .int a2, .int a3, .int (a1 - a1 / (1000 : Int32) * (1000 : Int32))]) (S' := [.ref 39]) (σ' := (97, I_17, J, (az_u (az_u R 26 2 (some 21)) 26 3 (some 5)))) rfl ?_
                          cases hx_20 : rs_To_findBest I_17 with
                          | none => rw [hx_20] at h; cases h
                          | some I_19 =>
                            rw [hx_20] at h
                            dsimp only at h
                            refine az_E.call (d := 121) (k' := 80) (vs := [.ref 39]) (pc' := 100) (S' := []) (Q1 := fun v s => v = none ∧ s = (97, I_19, J, (az_u (az_u R 26 2 (some 21)) 26 3 (some 5)))) rfl (az_E.deep (by omega) (re_To_findBest (J := J) (R := (az_u (az_u R 26 2 (some 21)) 26 3 (some 5)))  hx_20 ⟨rfl, rfl⟩)) (fun v s hq => ?_)
                            obtain ⟨rfl, rfl⟩ := hq
                            show az_E az_F ex 122 101 100 [.ref 3, .int a1, .int a2, .int a3, .int (a1 - a1 / (1000 : Int32) * (1000 : Int32))] [] (97, I_19, J, (az_u (az_u R 26 2 (some 21)) 26 3 (some 5))) _
                            refine az_E.sn 2 (pc' := 102) (L' := [.ref 3, .int a1, .int a2, .int a3, .int (a1 - a1 / (1000 : Int32) * (1000 : Int32))]) (S' := [.int (-1 : Int32), .int a3]) (σ' := (97, I_19, J, (az_u (az_u R 26 2 (some 21)) 26 3 (some 5)))) rfl ?_
                            refine az_E.br (c := a3 = (-1 : Int32)) (tt := 105) (ff := 115) (L' := [.ref 3, .int a1, .int a2, .int a3, .int (a1 - a1 / (1000 : Int32) * (1000 : Int32))]) (S' := []) (σ' := (97, I_19, J, (az_u (az_u R 26 2 (some 21)) 26 3 (some 5)))) rfl (fun hc_21 => ?_) (fun hc_21 => ?_)
                            · rw [if_pos hc_21] at h
                              refine az_E.sn 4 (pc' := 124) (L' := [.ref 3, .int a1, .int a2, .int a3, .int (a1 - a1 / (1000 : Int32) * (1000 : Int32))]) (S' := [.int (I_19 39 5)]) (σ' := (97, I_19, J, (az_u (az_u R 26 2 (some 21)) 26 3 (some 5)))) rfl ?_
                              have h := Option.some.inj h
                              subst h
                              exact az_E.ret (v := some (.int (I_19 39 5))) (σ' := (97, I_19, J, (az_u (az_u R 26 2 (some 21)) 26 3 (some 5)))) rfl (hQ _ hR_3_2 hR_3_3)
                            · rw [if_neg hc_21] at h
                              refine az_E.sn 4 (pc' := 123) (L' := [.ref 3, .int a1, .int a2, .int a3, .int (a1 - a1 / (1000 : Int32) * (1000 : Int32))]) (S' := [.int a3, .ref 43]) (σ' := (97, I_19, J, (az_u (az_u R 26 2 (some 21)) 26 3 (some 5)))) rfl ?_
                              by_cases hc_22 : a3 < 0 ∨ 6 ≤ a3.toNatClampNeg
                              · rw [if_pos hc_22] at h; cases h
                              · rw [if_neg hc_22] at h
                                refine az_E.oi (o := az_ai az_F ex (97, I_19, J, (az_u (az_u R 26 2 (some 21)) 26 3 (some 5))) 43 a3) (pc' := 124) (L' := [.ref 3, .int a1, .int a2, .int a3, .int (a1 - a1 / (1000 : Int32) * (1000 : Int32))]) (S' := []) (σ' := (97, I_19, J, (az_u (az_u R 26 2 (some 21)) 26 3 (some 5)))) (x := (I_19 43 a3.toNatClampNeg)) rfl (if_neg hc_22) ?_
                                have h := Option.some.inj h
                                subst h
                                exact az_E.ret (v := some (.int (I_19 43 a3.toNatClampNeg))) (σ' := (97, I_19, J, (az_u (az_u R 26 2 (some 21)) 26 3 (some 5)))) rfl (hQ _ hR_3_2 hR_3_3)
                    · rw [if_neg hc_13] at h
                      refine az_E.sn 1 (pc' := 76) (L' := [.ref 3, .int a1, .int a2, .int a3, .int (a1 - a1 / (1000 : Int32) * (1000 : Int32))]) (S' := [.int (-2 : Int32)]) (σ' := (97, I, J, R)) rfl ?_
                      have h := Option.some.inj h
                      subst h
                      exact az_E.ret (v := some (.int (-2 : Int32))) (σ' := (97, I, J, R)) rfl (hQ _ hR_3_2 hR_3_3)
                  · rw [if_neg hc_12] at h
                    refine az_E.sn 1 (pc' := 64) (L' := [.ref 3, .int a1, .int a2, .int a3, .int (a1 - a1 / (1000 : Int32) * (1000 : Int32))]) (S' := [.int (-5 : Int32)]) (σ' := (97, I, J, R)) rfl ?_
                    have h := Option.some.inj h
                    subst h
                    exact az_E.ret (v := some (.int (-5 : Int32))) (σ' := (97, I, J, R)) rfl (hQ _ hR_3_2 hR_3_3)
              · rw [if_neg hc_9] at h
                refine az_E.sn 1 (pc' := 52) (L' := [.ref 3, .int a1, .int a2, .int a3, .int (a1 - a1 / (1000 : Int32) * (1000 : Int32))]) (S' := [.int (-1 : Int32)]) (σ' := (97, I, J, R)) rfl ?_
                have h := Option.some.inj h
                subst h
                exact az_E.ret (v := some (.int (-1 : Int32))) (σ' := (97, I, J, R)) rfl (hQ _ hR_3_2 hR_3_3)
            · rw [if_neg hc_7] at h
              refine az_E.sn 1 (pc' := 29) (L' := [.ref 3, .int a1, .int a2, .int a3, .retAddr 0]) (S' := [.int (-1 : Int32)]) (σ' := (97, I, J, R)) rfl ?_
              have h := Option.some.inj h
              subst h
              exact az_E.ret (v := some (.int (-1 : Int32))) (σ' := (97, I, J, R)) rfl (hQ _ hR_3_2 hR_3_3)
set_option maxRecDepth 100000 in
set_option maxHeartbeats 4000000 in
theorem re_X_hearts_99_21_16 {ex : az_X} {I : Nat → Nat → Int32} {J : Nat → Nat → Int64} {R : Nat → Nat → Option Nat} {v3 : Int32} {v4 : Int32} {v5 : Int32} (hR_3_2 : R 3 2 = some 21) (hR_3_3 : R 3 3 = some 16) {x : Int32 × (Nat → Nat → Int32)} (h : rs_X_hearts_99 16 21 I v3 v4 v5 = some x) {Q : Option Value → az_S → Prop} (hQ : ∀ R' : Nat → Nat → Option Nat, R' 3 2 = some 21 → R' 3 3 = some 16 → Q (some (.int x.1)) (97, x.2, J, R')) : az_E az_F ex 6 102 99 [.retAddr 0, .retAddr 0, .retAddr 0, .int v3, .int v4, .int v5, .retAddr 0] [] (97, I, J, (az_u (az_u R 26 2 (some 21)) 26 3 (some 5))) Q := by
  unfold rs_X_hearts_99 at h
  refine az_E.sn 1 (pc' := 100) (L' := [.retAddr 0, .retAddr 0, .retAddr 0, .int v3, .int v4, .int v5, .retAddr 0]) (S' := [.int v3]) (σ' := (97, I, J, (az_u (az_u R 26 2 (some 21)) 26 3 (some 5)))) rfl ?_
  refine az_E.br (c := v3 = 0) (tt := 103) (ff := 108) (L' := [.retAddr 0, .retAddr 0, .retAddr 0, .int v3, .int v4, .int v5, .retAddr 0]) (S' := []) (σ' := (97, I, J, (az_u (az_u R 26 2 (some 21)) 26 3 (some 5)))) rfl (fun hc_14 => ?_) (fun hc_14 => ?_)
  · rw [if_pos hc_14] at h
    refine az_E.sn 2 (pc' := 110) (L' := [.retAddr 0, .retAddr 0, .retAddr 0, .int v3, .int v4, .int v5, .retAddr 0]) (S' := [.int v4]) (σ' := (97, I, J, (az_u (az_u R 26 2 (some 21)) 26 3 (some 5)))) rfl ?_
    have h := Option.some.inj h
    subst h
    exact az_E.ret (v := some (.int v4)) (σ' := (97, I, J, (az_u (az_u R 26 2 (some 21)) 26 3 (some 5)))) rfl (hQ _ hR_3_2 hR_3_3)
  · rw [if_neg hc_14] at h
    refine az_E.sn 1 (pc' := 110) (L' := [.retAddr 0, .retAddr 0, .retAddr 0, .int v3, .int v4, .int v5, .retAddr 0]) (S' := [.int v5]) (σ' := (97, I, J, (az_u (az_u R 26 2 (some 21)) 26 3 (some 5)))) rfl ?_
    have h := Option.some.inj h
    subst h
    exact az_E.ret (v := some (.int v5)) (σ' := (97, I, J, (az_u (az_u R 26 2 (some 21)) 26 3 (some 5)))) rfl (hQ _ hR_3_2 hR_3_3)
set_option maxRecDepth 100000 in
set_option maxHeartbeats 4000000 in
theorem re_X_hearts_48_b_21_16 {ex : az_X} {I : Nat → Nat → Int32} {J : Nat → Nat → Int64} {R : Nat → Nat → Option Nat} {v1 : Int32} {v2 : Int32} {v3 : Int32} {v4 : Int32} {v5 : Int32} {v6 : Int32} (hR_3_2 : R 3 2 = some 21) (hR_3_3 : R 3 3 = some 16) {x : ((Int32 × Int32 × Int32 × (Nat → Nat → Int32)) ⊕ (Int32 × (Nat → Nat → Int32)))} (h : rs_X_hearts_48_b 16 21 v1 v2 v3 v4 v5 v6 I = some x) {Q : Option Value → az_S → Prop} (hQ : Sum.elim (fun s => az_E az_F ex 6 102 48 [.ref 3, .int v1, .int v2, .int v3, .int s.1, .int s.2.1, .int s.2.2.1] [] (97, s.2.2.2, J, (az_u (az_u R 26 2 (some 21)) 26 3 (some 5))) Q) (fun x => ∀ R' : Nat → Nat → Option Nat, R' 3 2 = some 21 → R' 3 3 = some 16 → Q (some (.int x.1)) (97, x.2, J, R')) x) : az_E az_F ex 6 102 48 [.ref 3, .int v1, .int v2, .int v3, .int v4, .int v5, .int v6] [] (97, I, J, (az_u (az_u R 26 2 (some 21)) 26 3 (some 5))) Q := by
  unfold rs_X_hearts_48_b at h
  refine az_E.sn 2 (pc' := 52) (L' := [.ref 3, .int v1, .int v2, .int v3, .int v4, .int v5, .int v6]) (S' := [.int (9 : Int32), .int v6]) (σ' := (97, I, J, (az_u (az_u R 26 2 (some 21)) 26 3 (some 5)))) rfl ?_
  refine az_E.br (c := (9 : Int32) < v6) (tt := 99) (ff := 55) (L' := [.ref 3, .int v1, .int v2, .int v3, .int v4, .int v5, .int v6]) (S' := []) (σ' := (97, I, J, (az_u (az_u R 26 2 (some 21)) 26 3 (some 5)))) rfl (fun hc_13 => ?_) (fun hc_13 => ?_)
  · rw [if_pos hc_13] at h
    obtain ⟨x, hx, rfl⟩ := Option.map_eq_some_iff.mp h
    exact az_E.forget (L := [.retAddr 0, .retAddr 0, .retAddr 0, .int v3, .int v4, .int v5, .retAddr 0]) ⟨trivial, trivial, trivial, rfl, rfl, rfl, trivial, trivial⟩ (re_X_hearts_99_21_16 (I := I) (J := J) (R := R) hR_3_2 hR_3_3 hx hQ)
  · rw [if_neg hc_13] at h
    refine az_E.sn 3 (pc' := 61) (L' := [.ref 3, .int v1, .int v2, .int v3, .int v4, .int v5, .int v6]) (S' := [.int v6, .ref 26]) (σ' := (97, I, J, (az_u (az_u R 26 2 (some 21)) 26 3 (some 5)))) rfl ?_
    cases hx_16 : rs_Pa_withHeart 26 21 I v6 with
    | none => rw [hx_16] at h; cases h
    | some I_15 =>
      rw [hx_16] at h
      dsimp only at h
      refine az_E.call (d := 5) (k' := 44) (vs := [.ref 26, .int v6]) (pc' := 64) (S' := []) (Q1 := fun v s => v = none ∧ s = (97, I_15, J, (az_u (az_u R 26 2 (some 21)) 26 3 (some 5)))) rfl (az_E.deep (by omega) (re_Pa_withHeart_26_21 (J := J) (R := (az_u (az_u R 26 2 (some 21)) 26 3 (some 5))) rfl hx_16 ⟨rfl, rfl⟩)) (fun v s hq => ?_)
      obtain ⟨rfl, rfl⟩ := hq
      show az_E az_F ex 6 102 64 [.ref 3, .int v1, .int v2, .int v3, .int v4, .int v5, .int v6] [] (97, I_15, J, (az_u (az_u R 26 2 (some 21)) 26 3 (some 5))) _
      refine az_E.sn 3 (pc' := 68) (L' := [.ref 3, .int v1, .int v2, .int v3, .int v4, .int v5, .int v6]) (S' := [.int (10 : Int32), .int v1, .ref 3]) (σ' := (97, I_15, J, (az_u (az_u R 26 2 (some 21)) 26 3 (some 5)))) rfl ?_
      have hd_17 : ¬ ((10 : Int32) = 0) := by decide
      refine az_E.dv (c := (10 : Int32) = 0) (pc' := 69) (L' := [.ref 3, .int v1, .int v2, .int v3, .int v4, .int v5, .int v6]) (S' := [.int (v1 / (10 : Int32)), .ref 3]) (σ' := (97, I_15, J, (az_u (az_u R 26 2 (some 21)) 26 3 (some 5)))) rfl hd_17 ?_
      cases hx_20 : rs_X_armAt I_15 (v1 / (10 : Int32)) with
      | none => rw [hx_20] at h; cases h
      | some o =>
        rw [hx_20] at h
        obtain ⟨x_18, I_19⟩ := o
        dsimp only at h
        refine az_E.call (d := 5) (k' := 146) (vs := [.ref 3, .int (v1 / (10 : Int32))]) (pc' := 72) (S' := []) (Q1 := fun v s => v = some (.int x_18) ∧ s = (97, I_19, J, (az_u (az_u R 26 2 (some 21)) 26 3 (some 5)))) rfl (az_E.deep (by omega) (re_X_armAt_5 (J := J) (R := (az_u (az_u R 26 2 (some 21)) 26 3 (some 5))) rfl hx_20 ⟨rfl, rfl⟩)) (fun v s hq => ?_)
        obtain ⟨rfl, rfl⟩ := hq
        show az_E az_F ex 6 102 72 [.ref 3, .int v1, .int v2, .int v3, .int v4, .int v5, .int v6] [.int x_18] (97, I_19, J, (az_u (az_u R 26 2 (some 21)) 26 3 (some 5))) _
        refine az_E.sn 1 (pc' := 73) (L' := [.ref 3, .int v1, .int v2, .int v3, .int v4, .int v5, .int v6]) (S' := [.int v2, .int x_18]) (σ' := (97, I_19, J, (az_u (az_u R 26 2 (some 21)) 26 3 (some 5)))) rfl ?_
        refine az_E.br (c := x_18 = v2) (tt := 76) (ff := 93) (L' := [.ref 3, .int v1, .int v2, .int v3, .int v4, .int v5, .int v6]) (S' := []) (σ' := (97, I_19, J, (az_u (az_u R 26 2 (some 21)) 26 3 (some 5)))) rfl (fun hc_21 => ?_) (fun hc_21 => ?_)
        · rw [if_pos hc_21] at h
          refine az_E.sn 1 (pc' := 78) (L' := [.ref 3, .int v1, .int v2, .int v3, .int v4, .int v5, .int v6]) (S' := [.int v4]) (σ' := (97, I_19, J, (az_u (az_u R 26 2 (some 21)) 26 3 (some 5)))) rfl ?_
          refine az_E.br (c := v4 = 0) (tt := 81) (ff := 86) (L' := [.ref 3, .int v1, .int v2, .int v3, .int v4, .int v5, .int v6]) (S' := []) (σ' := (97, I_19, J, (az_u (az_u R 26 2 (some 21)) 26 3 (some 5)))) rfl (fun hc_22 => ?_) (fun hc_22 => ?_)
          · rw [if_pos hc_22] at h
            refine az_E.sn 6 (pc' := 48) (L' := [.ref 3, .int v1, .int v2, .int v3, .int (v4 + (1 : Int32)), .int v6, .int (v6 + (1 : Int32))]) (S' := []) (σ' := (97, I_19, J, (az_u (az_u R 26 2 (some 21)) 26 3 (some 5)))) rfl ?_
            have h := Option.some.inj h
            subst h
            exact az_E.forget (L := [.ref 3, .int v1, .int v2, .int v3, .int (v4 + (1 : Int32)), .int v6, .int (v6 + (1 : Int32))]) ⟨rfl, rfl, rfl, rfl, rfl, rfl, rfl, trivial⟩ hQ
          · rw [if_neg hc_22] at h
            refine az_E.sn 5 (pc' := 48) (L' := [.ref 3, .int v1, .int v2, .int v3, .int (v4 + (1 : Int32)), .int v5, .int (v6 + (1 : Int32))]) (S' := []) (σ' := (97, I_19, J, (az_u (az_u R 26 2 (some 21)) 26 3 (some 5)))) rfl ?_
            have h := Option.some.inj h
            subst h
            exact az_E.forget (L := [.ref 3, .int v1, .int v2, .int v3, .int (v4 + (1 : Int32)), .int v5, .int (v6 + (1 : Int32))]) ⟨rfl, rfl, rfl, rfl, rfl, rfl, rfl, trivial⟩ hQ
        · rw [if_neg hc_21] at h
          refine az_E.sn 2 (pc' := 48) (L' := [.ref 3, .int v1, .int v2, .int v3, .int v4, .int v5, .int (v6 + (1 : Int32))]) (S' := []) (σ' := (97, I_19, J, (az_u (az_u R 26 2 (some 21)) 26 3 (some 5)))) rfl ?_
          have h := Option.some.inj h
          subst h
          exact az_E.forget (L := [.ref 3, .int v1, .int v2, .int v3, .int v4, .int v5, .int (v6 + (1 : Int32))]) ⟨rfl, rfl, rfl, rfl, rfl, rfl, rfl, trivial⟩ hQ
set_option maxRecDepth 100000 in
set_option maxHeartbeats 4000000 in
theorem re_X_hearts_48_21_16 {ex : az_X} {I : Nat → Nat → Int32} {J : Nat → Nat → Int64} {R : Nat → Nat → Option Nat} {v1 : Int32} {v2 : Int32} {v3 : Int32} {v4 : Int32} {v5 : Int32} {v6 : Int32} (hR_3_2 : R 3 2 = some 21) (hR_3_3 : R 3 3 = some 16) {x : Int32 × (Nat → Nat → Int32)} (h : rs_X_hearts_48 16 21 I v1 v2 v3 v4 v5 v6 = some x) {Q : Option Value → az_S → Prop} (hQ : ∀ R' : Nat → Nat → Option Nat, R' 3 2 = some 21 → R' 3 3 = some 16 → Q (some (.int x.1)) (97, x.2, J, R')) : az_E az_F ex 6 102 48 [.ref 3, .int v1, .int v2, .int v3, .int v4, .int v5, .int v6] [] (97, I, J, (az_u (az_u R 26 2 (some 21)) 26 3 (some 5))) Q := by
  unfold rs_X_hearts_48 at h
  refine az_lp_E (G := fun s => az_E az_F ex 6 102 48 [.ref 3, .int v1, .int v2, .int v3, .int s.1, .int s.2.1, .int s.2.2.1] [] (97, s.2.2.2, J, (az_u (az_u R 26 2 (some 21)) 26 3 (some 5))) Q) (H := fun x => ∀ R' : Nat → Nat → Option Nat, R' 3 2 = some 21 → R' 3 3 = some 16 → Q (some (.int x.1)) (97, x.2, J, R')) (fun s o hb ho => ?_) _ _ _ h hQ
  exact re_X_hearts_48_b_21_16 hR_3_2 hR_3_3 hb ho
set_option maxRecDepth 100000 in
set_option maxHeartbeats 4000000 in
theorem re_X_hearts_21_16 {ex : az_X} {I : Nat → Nat → Int32} {J : Nat → Nat → Int64} {R : Nat → Nat → Option Nat} {a1 : Int32} {a2 : Int32} {a3 : Int32} (hR_3_2 : R 3 2 = some 21) (hR_3_3 : R 3 3 = some 16) {o : Int32 × (Nat → Nat → Int32)} (h : rs_X_hearts 16 21 I a1 a2 a3 = some o) {Q : Option Value → az_S → Prop} (hQ : ∀ R' : Nat → Nat → Option Nat, R' 3 2 = some 21 → R' 3 3 = some 16 → Q (some (.int o.1)) (97, o.2, J, R')) : az_E az_F ex 6 102 0 [.ref 3, .int a1, .int a2, .int a3, .retAddr 0, .retAddr 0, .retAddr 0] [] (97, I, J, R) Q := by
  unfold rs_X_hearts at h
  refine az_E.sn 2 (pc' := 2) (L' := [.ref 3, .int a1, .int a2, .int a3, .retAddr 0, .retAddr 0, .retAddr 0]) (S' := [.int a1, .ref 3]) (σ' := (97, I, J, R)) rfl ?_
  refine az_E.call (d := 5) (k' := 139) (vs := [.ref 3, .int a1]) (pc' := 5) (S' := []) rfl ?_ (fun _ _ hq => hq)
  show az_E az_F ex 5 139 0 [.ref 3, .int a1] [] (97, I, J, R) _
  refine az_E.sn 1 (pc' := 1) (L' := [.ref 3, .int a1]) (S' := [.int a1]) (σ' := (97, I, J, R)) rfl ?_
  refine az_E.br (c := a1 < 0) (tt := 33) (ff := 4) (L' := [.ref 3, .int a1]) (S' := []) (σ' := (97, I, J, R)) rfl (fun hc_1 => ?_) (fun hc_1 => ?_)
  · rw [if_pos hc_1] at h
    refine az_E.sn 1 (pc' := 34) (L' := [.ref 3, .int a1]) (S' := [.int (0 : Int32)]) (σ' := (97, I, J, R)) rfl ?_
    refine az_E.ret (v := some (.int (0 : Int32))) (σ' := (97, I, J, R)) rfl ?_
    show az_E az_F ex 6 102 5 [.ref 3, .int a1, .int a2, .int a3, .retAddr 0, .retAddr 0, .retAddr 0] [.int (0 : Int32)] (97, I, J, R) _
    refine az_E.br (c := (0 : Int32) = 0) (tt := 26) (ff := 8) (L' := [.ref 3, .int a1, .int a2, .int a3, .retAddr 0, .retAddr 0, .retAddr 0]) (S' := []) (σ' := (97, I, J, R)) rfl (fun _ => ?_) (fun hn => absurd (by decide) hn)
    refine az_E.sn 1 (pc' := 28) (L' := [.ref 3, .int a1, .int a2, .int a3, .retAddr 0, .retAddr 0, .retAddr 0]) (S' := [.int (-2000000000 : Int32)]) (σ' := (97, I, J, R)) rfl ?_
    have h := Option.some.inj h
    subst h
    exact az_E.ret (v := some (.int (-2000000000 : Int32))) (σ' := (97, I, J, R)) rfl (hQ _ hR_3_2 hR_3_3)
  · rw [if_neg hc_1] at h
    refine az_E.sn 2 (pc' := 7) (L' := [.ref 3, .int a1]) (S' := [.int (10 : Int32), .int a1]) (σ' := (97, I, J, R)) rfl ?_
    have hd_2 : ¬ ((10 : Int32) = 0) := by decide
    refine az_E.dv (c := (10 : Int32) = 0) (pc' := 8) (L' := [.ref 3, .int a1]) (S' := [.int (a1 / (10 : Int32))]) (σ' := (97, I, J, R)) rfl hd_2 ?_
    refine az_E.sn 3 (pc' := 15) (L' := [.ref 3, .int a1]) (S' := [.int (I 4 3), .int (a1 / (10 : Int32))]) (σ' := (97, I, J, R)) rfl ?_
    refine az_E.br (c := (I 4 3) ≤ (a1 / (10 : Int32))) (tt := 33) (ff := 18) (L' := [.ref 3, .int a1]) (S' := []) (σ' := (97, I, J, R)) rfl (fun hc_3 => ?_) (fun hc_3 => ?_)
    · rw [if_pos hc_3] at h
      refine az_E.sn 1 (pc' := 34) (L' := [.ref 3, .int a1]) (S' := [.int (0 : Int32)]) (σ' := (97, I, J, R)) rfl ?_
      refine az_E.ret (v := some (.int (0 : Int32))) (σ' := (97, I, J, R)) rfl ?_
      show az_E az_F ex 6 102 5 [.ref 3, .int a1, .int a2, .int a3, .retAddr 0, .retAddr 0, .retAddr 0] [.int (0 : Int32)] (97, I, J, R) _
      refine az_E.br (c := (0 : Int32) = 0) (tt := 26) (ff := 8) (L' := [.ref 3, .int a1, .int a2, .int a3, .retAddr 0, .retAddr 0, .retAddr 0]) (S' := []) (σ' := (97, I, J, R)) rfl (fun _ => ?_) (fun hn => absurd (by decide) hn)
      refine az_E.sn 1 (pc' := 28) (L' := [.ref 3, .int a1, .int a2, .int a3, .retAddr 0, .retAddr 0, .retAddr 0]) (S' := [.int (-2000000000 : Int32)]) (σ' := (97, I, J, R)) rfl ?_
      have h := Option.some.inj h
      subst h
      exact az_E.ret (v := some (.int (-2000000000 : Int32))) (σ' := (97, I, J, R)) rfl (hQ _ hR_3_2 hR_3_3)
    · rw [if_neg hc_3] at h
      refine az_E.sn 3 (pc' := 22) (L' := [.ref 3, .int a1]) (S' := [.int (10 : Int32), .int a1, .ref 3]) (σ' := (97, I, J, R)) rfl ?_
      have hd_4 : ¬ ((10 : Int32) = 0) := by decide
      refine az_E.dv (c := (10 : Int32) = 0) (pc' := 23) (L' := [.ref 3, .int a1]) (S' := [.int (a1 - a1 / (10 : Int32) * (10 : Int32)), .ref 3]) (σ' := (97, I, J, R)) rfl hd_4 ?_
      refine az_E.call (d := 4) (k' := 138) (vs := [.ref 3, .int (a1 - a1 / (10 : Int32) * (10 : Int32))]) (pc' := 26) (S' := []) rfl ?_ (fun _ _ hq => hq)
      show az_E az_F ex 4 138 0 [.ref 3, .int (a1 - a1 / (10 : Int32) * (10 : Int32))] [] (97, I, J, R) _
      refine az_E.sn 7 (pc' := 11) (L' := [.ref 3, .int (a1 - a1 / (10 : Int32) * (10 : Int32))]) (S' := [.int ((I 4 9) - (1 : Int32)), .int (0 : Int32), .int (a1 - a1 / (10 : Int32) * (10 : Int32))]) (σ' := (97, I, J, R)) rfl ?_
      refine az_E.call (d := 3) (k' := 131) (vs := [.int (a1 - a1 / (10 : Int32) * (10 : Int32)), .int (0 : Int32), .int ((I 4 9) - (1 : Int32))]) (pc' := 14) (S' := []) rfl ?_ (fun _ _ hq => hq)
      show az_E az_F ex 3 131 0 [.int (a1 - a1 / (10 : Int32) * (10 : Int32)), .int (0 : Int32), .int ((I 4 9) - (1 : Int32))] [] (97, I, J, R) _
      refine az_E.sn 2 (pc' := 2) (L' := [.int (a1 - a1 / (10 : Int32) * (10 : Int32)), .int (0 : Int32), .int ((I 4 9) - (1 : Int32))]) (S' := [.int (0 : Int32), .int (a1 - a1 / (10 : Int32) * (10 : Int32))]) (σ' := (97, I, J, R)) rfl ?_
      refine az_E.br (c := (a1 - a1 / (10 : Int32) * (10 : Int32)) < (0 : Int32)) (tt := 14) (ff := 5) (L' := [.int (a1 - a1 / (10 : Int32) * (10 : Int32)), .int (0 : Int32), .int ((I 4 9) - (1 : Int32))]) (S' := []) (σ' := (97, I, J, R)) rfl (fun hc_5 => ?_) (fun hc_5 => ?_)
      · rw [if_pos hc_5] at h
        refine az_E.sn 1 (pc' := 15) (L' := [.int (a1 - a1 / (10 : Int32) * (10 : Int32)), .int (0 : Int32), .int ((I 4 9) - (1 : Int32))]) (S' := [.int (0 : Int32)]) (σ' := (97, I, J, R)) rfl ?_
        refine az_E.ret (v := some (.int (0 : Int32))) (σ' := (97, I, J, R)) rfl ?_
        show az_E az_F ex 4 138 14 [.ref 3, .int (a1 - a1 / (10 : Int32) * (10 : Int32))] [.int (0 : Int32)] (97, I, J, R) _
        refine az_E.ret (v := some (.int (0 : Int32))) (σ' := (97, I, J, R)) rfl ?_
        show az_E az_F ex 5 139 26 [.ref 3, .int a1] [.int (0 : Int32)] (97, I, J, R) _
        refine az_E.br (c := (0 : Int32) = 0) (tt := 33) (ff := 29) (L' := [.ref 3, .int a1]) (S' := []) (σ' := (97, I, J, R)) rfl (fun _ => ?_) (fun hn => absurd (by decide) hn)
        refine az_E.sn 1 (pc' := 34) (L' := [.ref 3, .int a1]) (S' := [.int (0 : Int32)]) (σ' := (97, I, J, R)) rfl ?_
        refine az_E.ret (v := some (.int (0 : Int32))) (σ' := (97, I, J, R)) rfl ?_
        show az_E az_F ex 6 102 5 [.ref 3, .int a1, .int a2, .int a3, .retAddr 0, .retAddr 0, .retAddr 0] [.int (0 : Int32)] (97, I, J, R) _
        refine az_E.br (c := (0 : Int32) = 0) (tt := 26) (ff := 8) (L' := [.ref 3, .int a1, .int a2, .int a3, .retAddr 0, .retAddr 0, .retAddr 0]) (S' := []) (σ' := (97, I, J, R)) rfl (fun _ => ?_) (fun hn => absurd (by decide) hn)
        refine az_E.sn 1 (pc' := 28) (L' := [.ref 3, .int a1, .int a2, .int a3, .retAddr 0, .retAddr 0, .retAddr 0]) (S' := [.int (-2000000000 : Int32)]) (σ' := (97, I, J, R)) rfl ?_
        have h := Option.some.inj h
        subst h
        exact az_E.ret (v := some (.int (-2000000000 : Int32))) (σ' := (97, I, J, R)) rfl (hQ _ hR_3_2 hR_3_3)
      · rw [if_neg hc_5] at h
        refine az_E.sn 2 (pc' := 7) (L' := [.int (a1 - a1 / (10 : Int32) * (10 : Int32)), .int (0 : Int32), .int ((I 4 9) - (1 : Int32))]) (S' := [.int ((I 4 9) - (1 : Int32)), .int (a1 - a1 / (10 : Int32) * (10 : Int32))]) (σ' := (97, I, J, R)) rfl ?_
        refine az_E.br (c := ((I 4 9) - (1 : Int32)) < (a1 - a1 / (10 : Int32) * (10 : Int32))) (tt := 14) (ff := 10) (L' := [.int (a1 - a1 / (10 : Int32) * (10 : Int32)), .int (0 : Int32), .int ((I 4 9) - (1 : Int32))]) (S' := []) (σ' := (97, I, J, R)) rfl (fun hc_6 => ?_) (fun hc_6 => ?_)
        · rw [if_pos hc_6] at h
          refine az_E.sn 1 (pc' := 15) (L' := [.int (a1 - a1 / (10 : Int32) * (10 : Int32)), .int (0 : Int32), .int ((I 4 9) - (1 : Int32))]) (S' := [.int (0 : Int32)]) (σ' := (97, I, J, R)) rfl ?_
          refine az_E.ret (v := some (.int (0 : Int32))) (σ' := (97, I, J, R)) rfl ?_
          show az_E az_F ex 4 138 14 [.ref 3, .int (a1 - a1 / (10 : Int32) * (10 : Int32))] [.int (0 : Int32)] (97, I, J, R) _
          refine az_E.ret (v := some (.int (0 : Int32))) (σ' := (97, I, J, R)) rfl ?_
          show az_E az_F ex 5 139 26 [.ref 3, .int a1] [.int (0 : Int32)] (97, I, J, R) _
          refine az_E.br (c := (0 : Int32) = 0) (tt := 33) (ff := 29) (L' := [.ref 3, .int a1]) (S' := []) (σ' := (97, I, J, R)) rfl (fun _ => ?_) (fun hn => absurd (by decide) hn)
          refine az_E.sn 1 (pc' := 34) (L' := [.ref 3, .int a1]) (S' := [.int (0 : Int32)]) (σ' := (97, I, J, R)) rfl ?_
          refine az_E.ret (v := some (.int (0 : Int32))) (σ' := (97, I, J, R)) rfl ?_
          show az_E az_F ex 6 102 5 [.ref 3, .int a1, .int a2, .int a3, .retAddr 0, .retAddr 0, .retAddr 0] [.int (0 : Int32)] (97, I, J, R) _
          refine az_E.br (c := (0 : Int32) = 0) (tt := 26) (ff := 8) (L' := [.ref 3, .int a1, .int a2, .int a3, .retAddr 0, .retAddr 0, .retAddr 0]) (S' := []) (σ' := (97, I, J, R)) rfl (fun _ => ?_) (fun hn => absurd (by decide) hn)
          refine az_E.sn 1 (pc' := 28) (L' := [.ref 3, .int a1, .int a2, .int a3, .retAddr 0, .retAddr 0, .retAddr 0]) (S' := [.int (-2000000000 : Int32)]) (σ' := (97, I, J, R)) rfl ?_
          have h := Option.some.inj h
          subst h
          exact az_E.ret (v := some (.int (-2000000000 : Int32))) (σ' := (97, I, J, R)) rfl (hQ _ hR_3_2 hR_3_3)
        · rw [if_neg hc_6] at h
          refine az_E.sn 2 (pc' := 15) (L' := [.int (a1 - a1 / (10 : Int32) * (10 : Int32)), .int (0 : Int32), .int ((I 4 9) - (1 : Int32))]) (S' := [.int (1 : Int32)]) (σ' := (97, I, J, R)) rfl ?_
          refine az_E.ret (v := some (.int (1 : Int32))) (σ' := (97, I, J, R)) rfl ?_
          show az_E az_F ex 4 138 14 [.ref 3, .int (a1 - a1 / (10 : Int32) * (10 : Int32))] [.int (1 : Int32)] (97, I, J, R) _
          refine az_E.ret (v := some (.int (1 : Int32))) (σ' := (97, I, J, R)) rfl ?_
          show az_E az_F ex 5 139 26 [.ref 3, .int a1] [.int (1 : Int32)] (97, I, J, R) _
          refine az_E.br (c := (1 : Int32) = 0) (tt := 33) (ff := 29) (L' := [.ref 3, .int a1]) (S' := []) (σ' := (97, I, J, R)) rfl (fun hn => absurd hn (by decide)) (fun _ => ?_)
          refine az_E.sn 2 (pc' := 34) (L' := [.ref 3, .int a1]) (S' := [.int (1 : Int32)]) (σ' := (97, I, J, R)) rfl ?_
          refine az_E.ret (v := some (.int (1 : Int32))) (σ' := (97, I, J, R)) rfl ?_
          show az_E az_F ex 6 102 5 [.ref 3, .int a1, .int a2, .int a3, .retAddr 0, .retAddr 0, .retAddr 0] [.int (1 : Int32)] (97, I, J, R) _
          refine az_E.br (c := (1 : Int32) = 0) (tt := 26) (ff := 8) (L' := [.ref 3, .int a1, .int a2, .int a3, .retAddr 0, .retAddr 0, .retAddr 0]) (S' := []) (σ' := (97, I, J, R)) rfl (fun hn => absurd hn (by decide)) (fun _ => ?_)
          refine az_E.sn 3 (pc' := 13) (L' := [.ref 3, .int a1, .int a2, .int a3, .retAddr 0, .retAddr 0, .retAddr 0]) (S' := [.int (9999 : Int32), .int (0 : Int32), .int a2]) (σ' := (97, I, J, R)) rfl ?_
          refine az_E.call (d := 5) (k' := 131) (vs := [.int a2, .int (0 : Int32), .int (9999 : Int32)]) (pc' := 16) (S' := []) rfl ?_ (fun _ _ hq => hq)
          show az_E az_F ex 5 131 0 [.int a2, .int (0 : Int32), .int (9999 : Int32)] [] (97, I, J, R) _
          refine az_E.sn 2 (pc' := 2) (L' := [.int a2, .int (0 : Int32), .int (9999 : Int32)]) (S' := [.int (0 : Int32), .int a2]) (σ' := (97, I, J, R)) rfl ?_
          refine az_E.br (c := a2 < (0 : Int32)) (tt := 14) (ff := 5) (L' := [.int a2, .int (0 : Int32), .int (9999 : Int32)]) (S' := []) (σ' := (97, I, J, R)) rfl (fun hc_7 => ?_) (fun hc_7 => ?_)
          · rw [if_pos hc_7] at h
            refine az_E.sn 1 (pc' := 15) (L' := [.int a2, .int (0 : Int32), .int (9999 : Int32)]) (S' := [.int (0 : Int32)]) (σ' := (97, I, J, R)) rfl ?_
            refine az_E.ret (v := some (.int (0 : Int32))) (σ' := (97, I, J, R)) rfl ?_
            show az_E az_F ex 6 102 16 [.ref 3, .int a1, .int a2, .int a3, .retAddr 0, .retAddr 0, .retAddr 0] [.int (0 : Int32)] (97, I, J, R) _
            refine az_E.br (c := (0 : Int32) = 0) (tt := 26) (ff := 19) (L' := [.ref 3, .int a1, .int a2, .int a3, .retAddr 0, .retAddr 0, .retAddr 0]) (S' := []) (σ' := (97, I, J, R)) rfl (fun _ => ?_) (fun hn => absurd (by decide) hn)
            refine az_E.sn 1 (pc' := 28) (L' := [.ref 3, .int a1, .int a2, .int a3, .retAddr 0, .retAddr 0, .retAddr 0]) (S' := [.int (-2000000000 : Int32)]) (σ' := (97, I, J, R)) rfl ?_
            have h := Option.some.inj h
            subst h
            exact az_E.ret (v := some (.int (-2000000000 : Int32))) (σ' := (97, I, J, R)) rfl (hQ _ hR_3_2 hR_3_3)
          · rw [if_neg hc_7] at h
            refine az_E.sn 2 (pc' := 7) (L' := [.int a2, .int (0 : Int32), .int (9999 : Int32)]) (S' := [.int (9999 : Int32), .int a2]) (σ' := (97, I, J, R)) rfl ?_
            refine az_E.br (c := (9999 : Int32) < a2) (tt := 14) (ff := 10) (L' := [.int a2, .int (0 : Int32), .int (9999 : Int32)]) (S' := []) (σ' := (97, I, J, R)) rfl (fun hc_8 => ?_) (fun hc_8 => ?_)
            · rw [if_pos hc_8] at h
              refine az_E.sn 1 (pc' := 15) (L' := [.int a2, .int (0 : Int32), .int (9999 : Int32)]) (S' := [.int (0 : Int32)]) (σ' := (97, I, J, R)) rfl ?_
              refine az_E.ret (v := some (.int (0 : Int32))) (σ' := (97, I, J, R)) rfl ?_
              show az_E az_F ex 6 102 16 [.ref 3, .int a1, .int a2, .int a3, .retAddr 0, .retAddr 0, .retAddr 0] [.int (0 : Int32)] (97, I, J, R) _
              refine az_E.br (c := (0 : Int32) = 0) (tt := 26) (ff := 19) (L' := [.ref 3, .int a1, .int a2, .int a3, .retAddr 0, .retAddr 0, .retAddr 0]) (S' := []) (σ' := (97, I, J, R)) rfl (fun _ => ?_) (fun hn => absurd (by decide) hn)
              refine az_E.sn 1 (pc' := 28) (L' := [.ref 3, .int a1, .int a2, .int a3, .retAddr 0, .retAddr 0, .retAddr 0]) (S' := [.int (-2000000000 : Int32)]) (σ' := (97, I, J, R)) rfl ?_
              have h := Option.some.inj h
              subst h
              exact az_E.ret (v := some (.int (-2000000000 : Int32))) (σ' := (97, I, J, R)) rfl (hQ _ hR_3_2 hR_3_3)
            · rw [if_neg hc_8] at h
              refine az_E.sn 2 (pc' := 15) (L' := [.int a2, .int (0 : Int32), .int (9999 : Int32)]) (S' := [.int (1 : Int32)]) (σ' := (97, I, J, R)) rfl ?_
              refine az_E.ret (v := some (.int (1 : Int32))) (σ' := (97, I, J, R)) rfl ?_
              show az_E az_F ex 6 102 16 [.ref 3, .int a1, .int a2, .int a3, .retAddr 0, .retAddr 0, .retAddr 0] [.int (1 : Int32)] (97, I, J, R) _
              refine az_E.br (c := (1 : Int32) = 0) (tt := 26) (ff := 19) (L' := [.ref 3, .int a1, .int a2, .int a3, .retAddr 0, .retAddr 0, .retAddr 0]) (S' := []) (σ' := (97, I, J, R)) rfl (fun hn => absurd hn (by decide)) (fun _ => ?_)
              refine az_E.sn 1 (pc' := 20) (L' := [.ref 3, .int a1, .int a2, .int a3, .retAddr 0, .retAddr 0, .retAddr 0]) (S' := [.int a3]) (σ' := (97, I, J, R)) rfl ?_
              refine az_E.call (d := 5) (k' := 132) (vs := [.int a3]) (pc' := 23) (S' := []) rfl ?_ (fun _ _ hq => hq)
              show az_E az_F ex 5 132 0 [.int a3] [] (97, I, J, R) _
              refine az_E.sn 1 (pc' := 1) (L' := [.int a3]) (S' := [.int a3]) (σ' := (97, I, J, R)) rfl ?_
              refine az_E.br (c := a3 = 0) (tt := 9) (ff := 4) (L' := [.int a3]) (S' := []) (σ' := (97, I, J, R)) rfl (fun hc_9 => ?_) (fun hc_9 => ?_)
              · rw [if_pos hc_9] at h
                refine az_E.sn 2 (pc' := 14) (L' := [.int a3]) (S' := [.int (1 : Int32)]) (σ' := (97, I, J, R)) rfl ?_
                refine az_E.ret (v := some (.int (1 : Int32))) (σ' := (97, I, J, R)) rfl ?_
                show az_E az_F ex 6 102 23 [.ref 3, .int a1, .int a2, .int a3, .retAddr 0, .retAddr 0, .retAddr 0] [.int (1 : Int32)] (97, I, J, R) _
                refine az_E.br (c := (1 : Int32) = 0) (tt := 26) (ff := 29) (L' := [.ref 3, .int a1, .int a2, .int a3, .retAddr 0, .retAddr 0, .retAddr 0]) (S' := []) (σ' := (97, I, J, R)) rfl (fun hn => absurd hn (by decide)) (fun _ => ?_)
                refine az_E.sn 3 (pc' := 33) (L' := [.ref 3, .int a1, .int a2, .int a3, .retAddr 0, .retAddr 0, .retAddr 0]) (S' := [.int (10 : Int32), .int a1, .ref 3]) (σ' := (97, I, J, R)) rfl ?_
                have hd_10 : ¬ ((10 : Int32) = 0) := by decide
                refine az_E.dv (c := (10 : Int32) = 0) (pc' := 34) (L' := [.ref 3, .int a1, .int a2, .int a3, .retAddr 0, .retAddr 0, .retAddr 0]) (S' := [.int (a1 - a1 / (10 : Int32) * (10 : Int32)), .ref 3]) (σ' := (97, I, J, R)) rfl hd_10 ?_
                cases hx_12 : rs_X_setPace 21 I (a1 - a1 / (10 : Int32) * (10 : Int32)) with
                | none => rw [hx_12] at h; cases h
                | some I_11 =>
                  rw [hx_12] at h
                  dsimp only at h
                  refine az_E.call (d := 5) (k' := 144) (vs := [.ref 3, .int (a1 - a1 / (10 : Int32) * (10 : Int32))]) (pc' := 37) (S' := []) (Q1 := fun v s => v = none ∧ s = (97, I_11, J, (az_u (az_u R 26 2 (some 21)) 26 3 (some 5)))) rfl (az_E.deep (by omega) (re_X_setPace_21 (J := J) (R := R) hR_3_2 hx_12 ⟨rfl, rfl⟩)) (fun v s hq => ?_)
                  obtain ⟨rfl, rfl⟩ := hq
                  show az_E az_F ex 6 102 37 [.ref 3, .int a1, .int a2, .int a3, .retAddr 0, .retAddr 0, .retAddr 0] [] (97, I_11, J, (az_u (az_u R 26 2 (some 21)) 26 3 (some 5))) _
                  refine az_E.sn 6 (pc' := 48) (L' := [.ref 3, .int a1, .int a2, .int a3, .int (0 : Int32), .int (-99 : Int32), .int (-9 : Int32)]) (S' := []) (σ' := (97, I_11, J, (az_u (az_u R 26 2 (some 21)) 26 3 (some 5)))) rfl ?_
                  exact az_E.forget (L := [.ref 3, .int a1, .int a2, .int a3, .int (0 : Int32), .int (-99 : Int32), .int (-9 : Int32)]) ⟨rfl, rfl, rfl, rfl, rfl, rfl, rfl, trivial⟩ (re_X_hearts_48_21_16 (I := I_11) (J := J) (R := R) hR_3_2 hR_3_3 h hQ)
              · rw [if_neg hc_9] at h
                refine az_E.sn 2 (pc' := 6) (L' := [.int a3]) (S' := [.int (1 : Int32), .int a3]) (σ' := (97, I, J, R)) rfl ?_
                refine az_E.br (c := a3 = (1 : Int32)) (tt := 9) (ff := 13) (L' := [.int a3]) (S' := []) (σ' := (97, I, J, R)) rfl (fun hc_23 => ?_) (fun hc_23 => ?_)
                · rw [if_pos hc_23] at h
                  refine az_E.sn 2 (pc' := 14) (L' := [.int a3]) (S' := [.int (1 : Int32)]) (σ' := (97, I, J, R)) rfl ?_
                  refine az_E.ret (v := some (.int (1 : Int32))) (σ' := (97, I, J, R)) rfl ?_
                  show az_E az_F ex 6 102 23 [.ref 3, .int a1, .int a2, .int a3, .retAddr 0, .retAddr 0, .retAddr 0] [.int (1 : Int32)] (97, I, J, R) _
                  refine az_E.br (c := (1 : Int32) = 0) (tt := 26) (ff := 29) (L' := [.ref 3, .int a1, .int a2, .int a3, .retAddr 0, .retAddr 0, .retAddr 0]) (S' := []) (σ' := (97, I, J, R)) rfl (fun hn => absurd hn (by decide)) (fun _ => ?_)
                  refine az_E.sn 3 (pc' := 33) (L' := [.ref 3, .int a1, .int a2, .int a3, .retAddr 0, .retAddr 0, .retAddr 0]) (S' := [.int (10 : Int32), .int a1, .ref 3]) (σ' := (97, I, J, R)) rfl ?_
                  have hd_24 : ¬ ((10 : Int32) = 0) := by decide
                  refine az_E.dv (c := (10 : Int32) = 0) (pc' := 34) (L' := [.ref 3, .int a1, .int a2, .int a3, .retAddr 0, .retAddr 0, .retAddr 0]) (S' := [.int (a1 - a1 / (10 : Int32) * (10 : Int32)), .ref 3]) (σ' := (97, I, J, R)) rfl hd_24 ?_
                  cases hx_26 : rs_X_setPace 21 I (a1 - a1 / (10 : Int32) * (10 : Int32)) with
                  | none => rw [hx_26] at h; cases h
                  | some I_25 =>
                    rw [hx_26] at h
                    dsimp only at h
                    refine az_E.call (d := 5) (k' := 144) (vs := [.ref 3, .int (a1 - a1 / (10 : Int32) * (10 : Int32))]) (pc' := 37) (S' := []) (Q1 := fun v s => v = none ∧ s = (97, I_25, J, (az_u (az_u R 26 2 (some 21)) 26 3 (some 5)))) rfl (az_E.deep (by omega) (re_X_setPace_21 (J := J) (R := R) hR_3_2 hx_26 ⟨rfl, rfl⟩)) (fun v s hq => ?_)
                    obtain ⟨rfl, rfl⟩ := hq
                    show az_E az_F ex 6 102 37 [.ref 3, .int a1, .int a2, .int a3, .retAddr 0, .retAddr 0, .retAddr 0] [] (97, I_25, J, (az_u (az_u R 26 2 (some 21)) 26 3 (some 5))) _
                    refine az_E.sn 6 (pc' := 48) (L' := [.ref 3, .int a1, .int a2, .int a3, .int (0 : Int32), .int (-99 : Int32), .int (-9 : Int32)]) (S' := []) (σ' := (97, I_25, J, (az_u (az_u R 26 2 (some 21)) 26 3 (some 5)))) rfl ?_
                    exact az_E.forget (L := [.ref 3, .int a1, .int a2, .int a3, .int (0 : Int32), .int (-99 : Int32), .int (-9 : Int32)]) ⟨rfl, rfl, rfl, rfl, rfl, rfl, rfl, trivial⟩ (re_X_hearts_48_21_16 (I := I_25) (J := J) (R := R) hR_3_2 hR_3_3 h hQ)
                · rw [if_neg hc_23] at h
                  refine az_E.sn 1 (pc' := 14) (L' := [.int a3]) (S' := [.int (0 : Int32)]) (σ' := (97, I, J, R)) rfl ?_
                  refine az_E.ret (v := some (.int (0 : Int32))) (σ' := (97, I, J, R)) rfl ?_
                  show az_E az_F ex 6 102 23 [.ref 3, .int a1, .int a2, .int a3, .retAddr 0, .retAddr 0, .retAddr 0] [.int (0 : Int32)] (97, I, J, R) _
                  refine az_E.br (c := (0 : Int32) = 0) (tt := 26) (ff := 29) (L' := [.ref 3, .int a1, .int a2, .int a3, .retAddr 0, .retAddr 0, .retAddr 0]) (S' := []) (σ' := (97, I, J, R)) rfl (fun _ => ?_) (fun hn => absurd (by decide) hn)
                  refine az_E.sn 1 (pc' := 28) (L' := [.ref 3, .int a1, .int a2, .int a3, .retAddr 0, .retAddr 0, .retAddr 0]) (S' := [.int (-2000000000 : Int32)]) (σ' := (97, I, J, R)) rfl ?_
                  have h := Option.some.inj h
                  subst h
                  exact az_E.ret (v := some (.int (-2000000000 : Int32))) (σ' := (97, I, J, R)) rfl (hQ _ hR_3_2 hR_3_3)
set_option maxRecDepth 100000 in
set_option maxHeartbeats 4000000 in
theorem re_Pa_withHeartAndLoad_26_21 {ex : az_X} {I : Nat → Nat → Int32} {J : Nat → Nat → Int64} {R : Nat → Nat → Option Nat} {a1 : Int32} {a2 : Int32} (hR_26_2 : R 26 2 = some 21) {o : (Nat → Nat → Int32)} (h : rs_Pa_withHeartAndLoad 26 21 I a1 a2 = some o) {Q : Option Value → az_S → Prop} (hQ : Q none (97, o, J, R)) : az_E az_F ex 4 46 0 [.ref 26, .int a1, .int a2] [] (97, I, J, R) Q := by
  unfold rs_Pa_withHeartAndLoad at h
  refine az_E.sn 7 (pc' := 11) (L' := [.ref 26, .int a1, .int a2]) (S' := [.ref 26]) (σ' := (97, (az_u (az_u I 26 4 a1) 26 5 a2), J, R)) rfl ?_
  cases hx_2 : rs_Pa_fill 26 21 (az_u (az_u I 26 4 a1) 26 5 a2) with
  | none => rw [hx_2] at h; cases h
  | some I_1 =>
    rw [hx_2] at h
    dsimp only at h
    refine az_E.call (d := 3) (k' := 50) (vs := [.ref 26]) (pc' := 14) (S' := []) (Q1 := fun v s => v = none ∧ s = (97, I_1, J, R)) rfl (az_E.deep (by omega) (re_Pa_fill_26_21 (J := J) (R := R) hR_26_2 hx_2 ⟨rfl, rfl⟩)) (fun v s hq => ?_)
    obtain ⟨rfl, rfl⟩ := hq
    show az_E az_F ex 4 46 14 [.ref 26, .int a1, .int a2] [] (97, I_1, J, R) _
    have h := Option.some.inj h
    subst h
    exact az_E.ret (v := none) (σ' := (97, I_1, J, R)) rfl hQ
set_option maxRecDepth 100000 in
set_option maxHeartbeats 4000000 in
theorem re_X_pairs_45_b_21_16 {ex : az_X} {I : Nat → Nat → Int32} {J : Nat → Nat → Int64} {R : Nat → Nat → Option Nat} {v1 : Int32} {v2 : Int32} {v3 : Int32} {v4 : Int32} {v5 : Int32} (hR_3_2 : R 3 2 = some 21) (hR_3_3 : R 3 3 = some 16) {x : ((Int32 × Int32 × (Nat → Nat → Int32)) ⊕ (((Int32 × Int32 × (Nat → Nat → Int32)) ⊕ (Int32 × (Nat → Nat → Int32)))))} (h : rs_X_pairs_45_b 16 21 v1 v2 v4 v3 v5 I = some x) {Q : Option Value → az_S → Prop} (hQ : Sum.elim (fun s => az_E az_F ex 6 103 45 [.ref 3, .int v1, .int v2, .int s.1, .int v4, .int s.2.1] [] (97, s.2.2, J, (az_u (az_u R 26 2 (some 21)) 26 3 (some 5))) Q) (fun x => Sum.elim (fun s => az_E az_F ex 6 103 35 [.ref 3, .int v1, .int v2, .int s.1, .int s.2.1, .retAddr 0] [] (97, s.2.2, J, (az_u (az_u R 26 2 (some 21)) 26 3 (some 5))) Q) (fun x => ∀ R' : Nat → Nat → Option Nat, R' 3 2 = some 21 → R' 3 3 = some 16 → Q (some (.int x.1)) (97, x.2, J, R')) x) x) : az_E az_F ex 6 103 45 [.ref 3, .int v1, .int v2, .int v3, .int v4, .int v5] [] (97, I, J, (az_u (az_u R 26 2 (some 21)) 26 3 (some 5))) Q := by
  unfold rs_X_pairs_45_b at h
  refine az_E.sn 2 (pc' := 49) (L' := [.ref 3, .int v1, .int v2, .int v3, .int v4, .int v5]) (S' := [.int (9 : Int32), .int v5]) (σ' := (97, I, J, (az_u (az_u R 26 2 (some 21)) 26 3 (some 5)))) rfl ?_
  refine az_E.br (c := (9 : Int32) < v5) (tt := 84) (ff := 52) (L' := [.ref 3, .int v1, .int v2, .int v3, .int v4, .int v5]) (S' := []) (σ' := (97, I, J, (az_u (az_u R 26 2 (some 21)) 26 3 (some 5)))) rfl (fun hc_13 => ?_) (fun hc_13 => ?_)
  · rw [if_pos hc_13] at h
    refine az_E.sn 2 (pc' := 35) (L' := [.ref 3, .int v1, .int v2, .int v3, .int (v4 + (1 : Int32)), .int v5]) (S' := []) (σ' := (97, I, J, (az_u (az_u R 26 2 (some 21)) 26 3 (some 5)))) rfl ?_
    have h := Option.some.inj h
    subst h
    exact az_E.forget (L := [.ref 3, .int v1, .int v2, .int v3, .int (v4 + (1 : Int32)), .retAddr 0]) ⟨rfl, rfl, rfl, rfl, rfl, trivial, trivial⟩ hQ
  · rw [if_neg hc_13] at h
    refine az_E.sn 4 (pc' := 60) (L' := [.ref 3, .int v1, .int v2, .int v3, .int v4, .int v5]) (S' := [.int v5, .int v4, .ref 26]) (σ' := (97, I, J, (az_u (az_u R 26 2 (some 21)) 26 3 (some 5)))) rfl ?_
    cases hx_15 : rs_Pa_withHeartAndLoad 26 21 I v4 v5 with
    | none => rw [hx_15] at h; cases h
    | some I_14 =>
      rw [hx_15] at h
      dsimp only at h
      refine az_E.call (d := 5) (k' := 46) (vs := [.ref 26, .int v4, .int v5]) (pc' := 63) (S' := []) (Q1 := fun v s => v = none ∧ s = (97, I_14, J, (az_u (az_u R 26 2 (some 21)) 26 3 (some 5)))) rfl (az_E.deep (by omega) (re_Pa_withHeartAndLoad_26_21 (J := J) (R := (az_u (az_u R 26 2 (some 21)) 26 3 (some 5))) rfl hx_15 ⟨rfl, rfl⟩)) (fun v s hq => ?_)
      obtain ⟨rfl, rfl⟩ := hq
      show az_E az_F ex 6 103 63 [.ref 3, .int v1, .int v2, .int v3, .int v4, .int v5] [] (97, I_14, J, (az_u (az_u R 26 2 (some 21)) 26 3 (some 5))) _
      refine az_E.sn 3 (pc' := 67) (L' := [.ref 3, .int v1, .int v2, .int v3, .int v4, .int v5]) (S' := [.int (10 : Int32), .int v1, .ref 3]) (σ' := (97, I_14, J, (az_u (az_u R 26 2 (some 21)) 26 3 (some 5)))) rfl ?_
      have hd_16 : ¬ ((10 : Int32) = 0) := by decide
      refine az_E.dv (c := (10 : Int32) = 0) (pc' := 68) (L' := [.ref 3, .int v1, .int v2, .int v3, .int v4, .int v5]) (S' := [.int (v1 / (10 : Int32)), .ref 3]) (σ' := (97, I_14, J, (az_u (az_u R 26 2 (some 21)) 26 3 (some 5)))) rfl hd_16 ?_
      cases hx_19 : rs_X_armAt I_14 (v1 / (10 : Int32)) with
      | none => rw [hx_19] at h; cases h
      | some o =>
        rw [hx_19] at h
        obtain ⟨x_17, I_18⟩ := o
        dsimp only at h
        refine az_E.call (d := 5) (k' := 146) (vs := [.ref 3, .int (v1 / (10 : Int32))]) (pc' := 71) (S' := []) (Q1 := fun v s => v = some (.int x_17) ∧ s = (97, I_18, J, (az_u (az_u R 26 2 (some 21)) 26 3 (some 5)))) rfl (az_E.deep (by omega) (re_X_armAt_5 (J := J) (R := (az_u (az_u R 26 2 (some 21)) 26 3 (some 5))) rfl hx_19 ⟨rfl, rfl⟩)) (fun v s hq => ?_)
        obtain ⟨rfl, rfl⟩ := hq
        show az_E az_F ex 6 103 71 [.ref 3, .int v1, .int v2, .int v3, .int v4, .int v5] [.int x_17] (97, I_18, J, (az_u (az_u R 26 2 (some 21)) 26 3 (some 5))) _
        refine az_E.sn 1 (pc' := 72) (L' := [.ref 3, .int v1, .int v2, .int v3, .int v4, .int v5]) (S' := [.int v2, .int x_17]) (σ' := (97, I_18, J, (az_u (az_u R 26 2 (some 21)) 26 3 (some 5)))) rfl ?_
        refine az_E.br (c := x_17 = v2) (tt := 75) (ff := 78) (L' := [.ref 3, .int v1, .int v2, .int v3, .int v4, .int v5]) (S' := []) (σ' := (97, I_18, J, (az_u (az_u R 26 2 (some 21)) 26 3 (some 5)))) rfl (fun hc_20 => ?_) (fun hc_20 => ?_)
        · rw [if_pos hc_20] at h
          refine az_E.sn 3 (pc' := 45) (L' := [.ref 3, .int v1, .int v2, .int (v3 + (1 : Int32)), .int v4, .int (v5 + (1 : Int32))]) (S' := []) (σ' := (97, I_18, J, (az_u (az_u R 26 2 (some 21)) 26 3 (some 5)))) rfl ?_
          have h := Option.some.inj h
          subst h
          exact az_E.forget (L := [.ref 3, .int v1, .int v2, .int (v3 + (1 : Int32)), .int v4, .int (v5 + (1 : Int32))]) ⟨rfl, rfl, rfl, rfl, rfl, rfl, trivial⟩ hQ
        · rw [if_neg hc_20] at h
          refine az_E.sn 2 (pc' := 45) (L' := [.ref 3, .int v1, .int v2, .int v3, .int v4, .int (v5 + (1 : Int32))]) (S' := []) (σ' := (97, I_18, J, (az_u (az_u R 26 2 (some 21)) 26 3 (some 5)))) rfl ?_
          have h := Option.some.inj h
          subst h
          exact az_E.forget (L := [.ref 3, .int v1, .int v2, .int v3, .int v4, .int (v5 + (1 : Int32))]) ⟨rfl, rfl, rfl, rfl, rfl, rfl, trivial⟩ hQ
set_option maxRecDepth 100000 in
set_option maxHeartbeats 4000000 in
theorem re_X_pairs_45_21_16 {ex : az_X} {I : Nat → Nat → Int32} {J : Nat → Nat → Int64} {R : Nat → Nat → Option Nat} {v1 : Int32} {v2 : Int32} {v3 : Int32} {v4 : Int32} {v5 : Int32} (hR_3_2 : R 3 2 = some 21) (hR_3_3 : R 3 3 = some 16) {x : ((Int32 × Int32 × (Nat → Nat → Int32)) ⊕ (Int32 × (Nat → Nat → Int32)))} (h : rs_X_pairs_45 16 21 I v1 v2 v3 v4 v5 = some x) {Q : Option Value → az_S → Prop} (hQ : Sum.elim (fun s => az_E az_F ex 6 103 35 [.ref 3, .int v1, .int v2, .int s.1, .int s.2.1, .retAddr 0] [] (97, s.2.2, J, (az_u (az_u R 26 2 (some 21)) 26 3 (some 5))) Q) (fun x => ∀ R' : Nat → Nat → Option Nat, R' 3 2 = some 21 → R' 3 3 = some 16 → Q (some (.int x.1)) (97, x.2, J, R')) x) : az_E az_F ex 6 103 45 [.ref 3, .int v1, .int v2, .int v3, .int v4, .int v5] [] (97, I, J, (az_u (az_u R 26 2 (some 21)) 26 3 (some 5))) Q := by
  unfold rs_X_pairs_45 at h
  refine az_lp_E (G := fun s => az_E az_F ex 6 103 45 [.ref 3, .int v1, .int v2, .int s.1, .int v4, .int s.2.1] [] (97, s.2.2, J, (az_u (az_u R 26 2 (some 21)) 26 3 (some 5))) Q) (H := fun x => Sum.elim (fun s => az_E az_F ex 6 103 35 [.ref 3, .int v1, .int v2, .int s.1, .int s.2.1, .retAddr 0] [] (97, s.2.2, J, (az_u (az_u R 26 2 (some 21)) 26 3 (some 5))) Q) (fun x => ∀ R' : Nat → Nat → Option Nat, R' 3 2 = some 21 → R' 3 3 = some 16 → Q (some (.int x.1)) (97, x.2, J, R')) x) (fun s o hb ho => ?_) _ _ _ h hQ
  exact re_X_pairs_45_b_21_16 hR_3_2 hR_3_3 hb ho
set_option maxRecDepth 100000 in
set_option maxHeartbeats 4000000 in
theorem re_X_pairs_35_b_21_16 {ex : az_X} {I : Nat → Nat → Int32} {J : Nat → Nat → Int64} {R : Nat → Nat → Option Nat} {v1 : Int32} {v2 : Int32} {v3 : Int32} {v4 : Int32} (hR_3_2 : R 3 2 = some 21) (hR_3_3 : R 3 3 = some 16) {x : ((Int32 × Int32 × (Nat → Nat → Int32)) ⊕ (Int32 × (Nat → Nat → Int32)))} (h : rs_X_pairs_35_b 16 21 v1 v2 v3 v4 I = some x) {Q : Option Value → az_S → Prop} (hQ : Sum.elim (fun s => az_E az_F ex 6 103 35 [.ref 3, .int v1, .int v2, .int s.1, .int s.2.1, .retAddr 0] [] (97, s.2.2, J, (az_u (az_u R 26 2 (some 21)) 26 3 (some 5))) Q) (fun x => ∀ R' : Nat → Nat → Option Nat, R' 3 2 = some 21 → R' 3 3 = some 16 → Q (some (.int x.1)) (97, x.2, J, R')) x) : az_E az_F ex 6 103 35 [.ref 3, .int v1, .int v2, .int v3, .int v4, .retAddr 0] [] (97, I, J, (az_u (az_u R 26 2 (some 21)) 26 3 (some 5))) Q := by
  unfold rs_X_pairs_35_b at h
  refine az_E.sn 2 (pc' := 39) (L' := [.ref 3, .int v1, .int v2, .int v3, .int v4, .retAddr 0]) (S' := [.int (9 : Int32), .int v4]) (σ' := (97, I, J, (az_u (az_u R 26 2 (some 21)) 26 3 (some 5)))) rfl ?_
  refine az_E.br (c := (9 : Int32) < v4) (tt := 90) (ff := 42) (L' := [.ref 3, .int v1, .int v2, .int v3, .int v4, .retAddr 0]) (S' := []) (σ' := (97, I, J, (az_u (az_u R 26 2 (some 21)) 26 3 (some 5)))) rfl (fun hc_12 => ?_) (fun hc_12 => ?_)
  · rw [if_pos hc_12] at h
    refine az_E.sn 1 (pc' := 91) (L' := [.ref 3, .int v1, .int v2, .int v3, .int v4, .retAddr 0]) (S' := [.int v3]) (σ' := (97, I, J, (az_u (az_u R 26 2 (some 21)) 26 3 (some 5)))) rfl ?_
    have h := Option.some.inj h
    subst h
    try simp only [Sum.elim_inl, Sum.elim_inr] at hQ
    exact az_E.ret (v := some (.int v3)) (σ' := (97, I, J, (az_u (az_u R 26 2 (some 21)) 26 3 (some 5)))) rfl (hQ _ hR_3_2 hR_3_3)
  · rw [if_neg hc_12] at h
    refine az_E.sn 2 (pc' := 45) (L' := [.ref 3, .int v1, .int v2, .int v3, .int v4, .int (0 : Int32)]) (S' := []) (σ' := (97, I, J, (az_u (az_u R 26 2 (some 21)) 26 3 (some 5)))) rfl ?_
    exact az_E.forget (L := [.ref 3, .int v1, .int v2, .int v3, .int v4, .int (0 : Int32)]) ⟨rfl, rfl, rfl, rfl, rfl, rfl, trivial⟩ (re_X_pairs_45_21_16 (I := I) (J := J) (R := R) hR_3_2 hR_3_3 h hQ)
set_option maxRecDepth 100000 in
set_option maxHeartbeats 4000000 in
theorem re_X_pairs_35_21_16 {ex : az_X} {I : Nat → Nat → Int32} {J : Nat → Nat → Int64} {R : Nat → Nat → Option Nat} {v1 : Int32} {v2 : Int32} {v3 : Int32} {v4 : Int32} (hR_3_2 : R 3 2 = some 21) (hR_3_3 : R 3 3 = some 16) {x : Int32 × (Nat → Nat → Int32)} (h : rs_X_pairs_35 16 21 I v1 v2 v3 v4 = some x) {Q : Option Value → az_S → Prop} (hQ : ∀ R' : Nat → Nat → Option Nat, R' 3 2 = some 21 → R' 3 3 = some 16 → Q (some (.int x.1)) (97, x.2, J, R')) : az_E az_F ex 6 103 35 [.ref 3, .int v1, .int v2, .int v3, .int v4, .retAddr 0] [] (97, I, J, (az_u (az_u R 26 2 (some 21)) 26 3 (some 5))) Q := by
  unfold rs_X_pairs_35 at h
  refine az_lp_E (G := fun s => az_E az_F ex 6 103 35 [.ref 3, .int v1, .int v2, .int s.1, .int s.2.1, .retAddr 0] [] (97, s.2.2, J, (az_u (az_u R 26 2 (some 21)) 26 3 (some 5))) Q) (H := fun x => ∀ R' : Nat → Nat → Option Nat, R' 3 2 = some 21 → R' 3 3 = some 16 → Q (some (.int x.1)) (97, x.2, J, R')) (fun s o hb ho => ?_) _ _ _ h hQ
  exact re_X_pairs_35_b_21_16 hR_3_2 hR_3_3 hb ho
set_option maxRecDepth 100000 in
set_option maxHeartbeats 4000000 in
theorem re_X_pairs_21_16 {ex : az_X} {I : Nat → Nat → Int32} {J : Nat → Nat → Int64} {R : Nat → Nat → Option Nat} {a1 : Int32} {a2 : Int32} (hR_3_2 : R 3 2 = some 21) (hR_3_3 : R 3 3 = some 16) {o : Int32 × (Nat → Nat → Int32)} (h : rs_X_pairs 16 21 I a1 a2 = some o) {Q : Option Value → az_S → Prop} (hQ : ∀ R' : Nat → Nat → Option Nat, R' 3 2 = some 21 → R' 3 3 = some 16 → Q (some (.int o.1)) (97, o.2, J, R')) : az_E az_F ex 6 103 0 [.ref 3, .int a1, .int a2, .retAddr 0, .retAddr 0, .retAddr 0] [] (97, I, J, R) Q := by
  unfold rs_X_pairs at h
  refine az_E.sn 2 (pc' := 2) (L' := [.ref 3, .int a1, .int a2, .retAddr 0, .retAddr 0, .retAddr 0]) (S' := [.int a1, .ref 3]) (σ' := (97, I, J, R)) rfl ?_
  refine az_E.call (d := 5) (k' := 139) (vs := [.ref 3, .int a1]) (pc' := 5) (S' := []) rfl ?_ (fun _ _ hq => hq)
  show az_E az_F ex 5 139 0 [.ref 3, .int a1] [] (97, I, J, R) _
  refine az_E.sn 1 (pc' := 1) (L' := [.ref 3, .int a1]) (S' := [.int a1]) (σ' := (97, I, J, R)) rfl ?_
  refine az_E.br (c := a1 < 0) (tt := 33) (ff := 4) (L' := [.ref 3, .int a1]) (S' := []) (σ' := (97, I, J, R)) rfl (fun hc_1 => ?_) (fun hc_1 => ?_)
  · rw [if_pos hc_1] at h
    refine az_E.sn 1 (pc' := 34) (L' := [.ref 3, .int a1]) (S' := [.int (0 : Int32)]) (σ' := (97, I, J, R)) rfl ?_
    refine az_E.ret (v := some (.int (0 : Int32))) (σ' := (97, I, J, R)) rfl ?_
    show az_E az_F ex 6 103 5 [.ref 3, .int a1, .int a2, .retAddr 0, .retAddr 0, .retAddr 0] [.int (0 : Int32)] (97, I, J, R) _
    refine az_E.br (c := (0 : Int32) = 0) (tt := 19) (ff := 8) (L' := [.ref 3, .int a1, .int a2, .retAddr 0, .retAddr 0, .retAddr 0]) (S' := []) (σ' := (97, I, J, R)) rfl (fun _ => ?_) (fun hn => absurd (by decide) hn)
    refine az_E.sn 1 (pc' := 20) (L' := [.ref 3, .int a1, .int a2, .retAddr 0, .retAddr 0, .retAddr 0]) (S' := [.int (-1 : Int32)]) (σ' := (97, I, J, R)) rfl ?_
    have h := Option.some.inj h
    subst h
    exact az_E.ret (v := some (.int (-1 : Int32))) (σ' := (97, I, J, R)) rfl (hQ _ hR_3_2 hR_3_3)
  · rw [if_neg hc_1] at h
    refine az_E.sn 2 (pc' := 7) (L' := [.ref 3, .int a1]) (S' := [.int (10 : Int32), .int a1]) (σ' := (97, I, J, R)) rfl ?_
    have hd_2 : ¬ ((10 : Int32) = 0) := by decide
    refine az_E.dv (c := (10 : Int32) = 0) (pc' := 8) (L' := [.ref 3, .int a1]) (S' := [.int (a1 / (10 : Int32))]) (σ' := (97, I, J, R)) rfl hd_2 ?_
    refine az_E.sn 3 (pc' := 15) (L' := [.ref 3, .int a1]) (S' := [.int (I 4 3), .int (a1 / (10 : Int32))]) (σ' := (97, I, J, R)) rfl ?_
    refine az_E.br (c := (I 4 3) ≤ (a1 / (10 : Int32))) (tt := 33) (ff := 18) (L' := [.ref 3, .int a1]) (S' := []) (σ' := (97, I, J, R)) rfl (fun hc_3 => ?_) (fun hc_3 => ?_)
    · rw [if_pos hc_3] at h
      refine az_E.sn 1 (pc' := 34) (L' := [.ref 3, .int a1]) (S' := [.int (0 : Int32)]) (σ' := (97, I, J, R)) rfl ?_
      refine az_E.ret (v := some (.int (0 : Int32))) (σ' := (97, I, J, R)) rfl ?_
      show az_E az_F ex 6 103 5 [.ref 3, .int a1, .int a2, .retAddr 0, .retAddr 0, .retAddr 0] [.int (0 : Int32)] (97, I, J, R) _
      refine az_E.br (c := (0 : Int32) = 0) (tt := 19) (ff := 8) (L' := [.ref 3, .int a1, .int a2, .retAddr 0, .retAddr 0, .retAddr 0]) (S' := []) (σ' := (97, I, J, R)) rfl (fun _ => ?_) (fun hn => absurd (by decide) hn)
      refine az_E.sn 1 (pc' := 20) (L' := [.ref 3, .int a1, .int a2, .retAddr 0, .retAddr 0, .retAddr 0]) (S' := [.int (-1 : Int32)]) (σ' := (97, I, J, R)) rfl ?_
      have h := Option.some.inj h
      subst h
      exact az_E.ret (v := some (.int (-1 : Int32))) (σ' := (97, I, J, R)) rfl (hQ _ hR_3_2 hR_3_3)
    · rw [if_neg hc_3] at h
      refine az_E.sn 3 (pc' := 22) (L' := [.ref 3, .int a1]) (S' := [.int (10 : Int32), .int a1, .ref 3]) (σ' := (97, I, J, R)) rfl ?_
      have hd_4 : ¬ ((10 : Int32) = 0) := by decide
      refine az_E.dv (c := (10 : Int32) = 0) (pc' := 23) (L' := [.ref 3, .int a1]) (S' := [.int (a1 - a1 / (10 : Int32) * (10 : Int32)), .ref 3]) (σ' := (97, I, J, R)) rfl hd_4 ?_
      refine az_E.call (d := 4) (k' := 138) (vs := [.ref 3, .int (a1 - a1 / (10 : Int32) * (10 : Int32))]) (pc' := 26) (S' := []) rfl ?_ (fun _ _ hq => hq)
      show az_E az_F ex 4 138 0 [.ref 3, .int (a1 - a1 / (10 : Int32) * (10 : Int32))] [] (97, I, J, R) _
      refine az_E.sn 7 (pc' := 11) (L' := [.ref 3, .int (a1 - a1 / (10 : Int32) * (10 : Int32))]) (S' := [.int ((I 4 9) - (1 : Int32)), .int (0 : Int32), .int (a1 - a1 / (10 : Int32) * (10 : Int32))]) (σ' := (97, I, J, R)) rfl ?_
      refine az_E.call (d := 3) (k' := 131) (vs := [.int (a1 - a1 / (10 : Int32) * (10 : Int32)), .int (0 : Int32), .int ((I 4 9) - (1 : Int32))]) (pc' := 14) (S' := []) rfl ?_ (fun _ _ hq => hq)
      show az_E az_F ex 3 131 0 [.int (a1 - a1 / (10 : Int32) * (10 : Int32)), .int (0 : Int32), .int ((I 4 9) - (1 : Int32))] [] (97, I, J, R) _
      refine az_E.sn 2 (pc' := 2) (L' := [.int (a1 - a1 / (10 : Int32) * (10 : Int32)), .int (0 : Int32), .int ((I 4 9) - (1 : Int32))]) (S' := [.int (0 : Int32), .int (a1 - a1 / (10 : Int32) * (10 : Int32))]) (σ' := (97, I, J, R)) rfl ?_
      refine az_E.br (c := (a1 - a1 / (10 : Int32) * (10 : Int32)) < (0 : Int32)) (tt := 14) (ff := 5) (L' := [.int (a1 - a1 / (10 : Int32) * (10 : Int32)), .int (0 : Int32), .int ((I 4 9) - (1 : Int32))]) (S' := []) (σ' := (97, I, J, R)) rfl (fun hc_5 => ?_) (fun hc_5 => ?_)
      · rw [if_pos hc_5] at h
        refine az_E.sn 1 (pc' := 15) (L' := [.int (a1 - a1 / (10 : Int32) * (10 : Int32)), .int (0 : Int32), .int ((I 4 9) - (1 : Int32))]) (S' := [.int (0 : Int32)]) (σ' := (97, I, J, R)) rfl ?_
        refine az_E.ret (v := some (.int (0 : Int32))) (σ' := (97, I, J, R)) rfl ?_
        show az_E az_F ex 4 138 14 [.ref 3, .int (a1 - a1 / (10 : Int32) * (10 : Int32))] [.int (0 : Int32)] (97, I, J, R) _
        refine az_E.ret (v := some (.int (0 : Int32))) (σ' := (97, I, J, R)) rfl ?_
        show az_E az_F ex 5 139 26 [.ref 3, .int a1] [.int (0 : Int32)] (97, I, J, R) _
        refine az_E.br (c := (0 : Int32) = 0) (tt := 33) (ff := 29) (L' := [.ref 3, .int a1]) (S' := []) (σ' := (97, I, J, R)) rfl (fun _ => ?_) (fun hn => absurd (by decide) hn)
        refine az_E.sn 1 (pc' := 34) (L' := [.ref 3, .int a1]) (S' := [.int (0 : Int32)]) (σ' := (97, I, J, R)) rfl ?_
        refine az_E.ret (v := some (.int (0 : Int32))) (σ' := (97, I, J, R)) rfl ?_
        show az_E az_F ex 6 103 5 [.ref 3, .int a1, .int a2, .retAddr 0, .retAddr 0, .retAddr 0] [.int (0 : Int32)] (97, I, J, R) _
        refine az_E.br (c := (0 : Int32) = 0) (tt := 19) (ff := 8) (L' := [.ref 3, .int a1, .int a2, .retAddr 0, .retAddr 0, .retAddr 0]) (S' := []) (σ' := (97, I, J, R)) rfl (fun _ => ?_) (fun hn => absurd (by decide) hn)
        refine az_E.sn 1 (pc' := 20) (L' := [.ref 3, .int a1, .int a2, .retAddr 0, .retAddr 0, .retAddr 0]) (S' := [.int (-1 : Int32)]) (σ' := (97, I, J, R)) rfl ?_
        have h := Option.some.inj h
        subst h
        exact az_E.ret (v := some (.int (-1 : Int32))) (σ' := (97, I, J, R)) rfl (hQ _ hR_3_2 hR_3_3)
      · rw [if_neg hc_5] at h
        refine az_E.sn 2 (pc' := 7) (L' := [.int (a1 - a1 / (10 : Int32) * (10 : Int32)), .int (0 : Int32), .int ((I 4 9) - (1 : Int32))]) (S' := [.int ((I 4 9) - (1 : Int32)), .int (a1 - a1 / (10 : Int32) * (10 : Int32))]) (σ' := (97, I, J, R)) rfl ?_
        refine az_E.br (c := ((I 4 9) - (1 : Int32)) < (a1 - a1 / (10 : Int32) * (10 : Int32))) (tt := 14) (ff := 10) (L' := [.int (a1 - a1 / (10 : Int32) * (10 : Int32)), .int (0 : Int32), .int ((I 4 9) - (1 : Int32))]) (S' := []) (σ' := (97, I, J, R)) rfl (fun hc_6 => ?_) (fun hc_6 => ?_)
        · rw [if_pos hc_6] at h
          refine az_E.sn 1 (pc' := 15) (L' := [.int (a1 - a1 / (10 : Int32) * (10 : Int32)), .int (0 : Int32), .int ((I 4 9) - (1 : Int32))]) (S' := [.int (0 : Int32)]) (σ' := (97, I, J, R)) rfl ?_
          refine az_E.ret (v := some (.int (0 : Int32))) (σ' := (97, I, J, R)) rfl ?_
          show az_E az_F ex 4 138 14 [.ref 3, .int (a1 - a1 / (10 : Int32) * (10 : Int32))] [.int (0 : Int32)] (97, I, J, R) _
          refine az_E.ret (v := some (.int (0 : Int32))) (σ' := (97, I, J, R)) rfl ?_
          show az_E az_F ex 5 139 26 [.ref 3, .int a1] [.int (0 : Int32)] (97, I, J, R) _
          refine az_E.br (c := (0 : Int32) = 0) (tt := 33) (ff := 29) (L' := [.ref 3, .int a1]) (S' := []) (σ' := (97, I, J, R)) rfl (fun _ => ?_) (fun hn => absurd (by decide) hn)
          refine az_E.sn 1 (pc' := 34) (L' := [.ref 3, .int a1]) (S' := [.int (0 : Int32)]) (σ' := (97, I, J, R)) rfl ?_
          refine az_E.ret (v := some (.int (0 : Int32))) (σ' := (97, I, J, R)) rfl ?_
          show az_E az_F ex 6 103 5 [.ref 3, .int a1, .int a2, .retAddr 0, .retAddr 0, .retAddr 0] [.int (0 : Int32)] (97, I, J, R) _
          refine az_E.br (c := (0 : Int32) = 0) (tt := 19) (ff := 8) (L' := [.ref 3, .int a1, .int a2, .retAddr 0, .retAddr 0, .retAddr 0]) (S' := []) (σ' := (97, I, J, R)) rfl (fun _ => ?_) (fun hn => absurd (by decide) hn)
          refine az_E.sn 1 (pc' := 20) (L' := [.ref 3, .int a1, .int a2, .retAddr 0, .retAddr 0, .retAddr 0]) (S' := [.int (-1 : Int32)]) (σ' := (97, I, J, R)) rfl ?_
          have h := Option.some.inj h
          subst h
          exact az_E.ret (v := some (.int (-1 : Int32))) (σ' := (97, I, J, R)) rfl (hQ _ hR_3_2 hR_3_3)
        · rw [if_neg hc_6] at h
          refine az_E.sn 2 (pc' := 15) (L' := [.int (a1 - a1 / (10 : Int32) * (10 : Int32)), .int (0 : Int32), .int ((I 4 9) - (1 : Int32))]) (S' := [.int (1 : Int32)]) (σ' := (97, I, J, R)) rfl ?_
          refine az_E.ret (v := some (.int (1 : Int32))) (σ' := (97, I, J, R)) rfl ?_
          show az_E az_F ex 4 138 14 [.ref 3, .int (a1 - a1 / (10 : Int32) * (10 : Int32))] [.int (1 : Int32)] (97, I, J, R) _
          refine az_E.ret (v := some (.int (1 : Int32))) (σ' := (97, I, J, R)) rfl ?_
          show az_E az_F ex 5 139 26 [.ref 3, .int a1] [.int (1 : Int32)] (97, I, J, R) _
          refine az_E.br (c := (1 : Int32) = 0) (tt := 33) (ff := 29) (L' := [.ref 3, .int a1]) (S' := []) (σ' := (97, I, J, R)) rfl (fun hn => absurd hn (by decide)) (fun _ => ?_)
          refine az_E.sn 2 (pc' := 34) (L' := [.ref 3, .int a1]) (S' := [.int (1 : Int32)]) (σ' := (97, I, J, R)) rfl ?_
          refine az_E.ret (v := some (.int (1 : Int32))) (σ' := (97, I, J, R)) rfl ?_
          show az_E az_F ex 6 103 5 [.ref 3, .int a1, .int a2, .retAddr 0, .retAddr 0, .retAddr 0] [.int (1 : Int32)] (97, I, J, R) _
          refine az_E.br (c := (1 : Int32) = 0) (tt := 19) (ff := 8) (L' := [.ref 3, .int a1, .int a2, .retAddr 0, .retAddr 0, .retAddr 0]) (S' := []) (σ' := (97, I, J, R)) rfl (fun hn => absurd hn (by decide)) (fun _ => ?_)
          refine az_E.sn 3 (pc' := 13) (L' := [.ref 3, .int a1, .int a2, .retAddr 0, .retAddr 0, .retAddr 0]) (S' := [.int (9999 : Int32), .int (0 : Int32), .int a2]) (σ' := (97, I, J, R)) rfl ?_
          refine az_E.call (d := 5) (k' := 131) (vs := [.int a2, .int (0 : Int32), .int (9999 : Int32)]) (pc' := 16) (S' := []) rfl ?_ (fun _ _ hq => hq)
          show az_E az_F ex 5 131 0 [.int a2, .int (0 : Int32), .int (9999 : Int32)] [] (97, I, J, R) _
          refine az_E.sn 2 (pc' := 2) (L' := [.int a2, .int (0 : Int32), .int (9999 : Int32)]) (S' := [.int (0 : Int32), .int a2]) (σ' := (97, I, J, R)) rfl ?_
          refine az_E.br (c := a2 < (0 : Int32)) (tt := 14) (ff := 5) (L' := [.int a2, .int (0 : Int32), .int (9999 : Int32)]) (S' := []) (σ' := (97, I, J, R)) rfl (fun hc_7 => ?_) (fun hc_7 => ?_)
          · rw [if_pos hc_7] at h
            refine az_E.sn 1 (pc' := 15) (L' := [.int a2, .int (0 : Int32), .int (9999 : Int32)]) (S' := [.int (0 : Int32)]) (σ' := (97, I, J, R)) rfl ?_
            refine az_E.ret (v := some (.int (0 : Int32))) (σ' := (97, I, J, R)) rfl ?_
            show az_E az_F ex 6 103 16 [.ref 3, .int a1, .int a2, .retAddr 0, .retAddr 0, .retAddr 0] [.int (0 : Int32)] (97, I, J, R) _
            refine az_E.br (c := (0 : Int32) = 0) (tt := 19) (ff := 21) (L' := [.ref 3, .int a1, .int a2, .retAddr 0, .retAddr 0, .retAddr 0]) (S' := []) (σ' := (97, I, J, R)) rfl (fun _ => ?_) (fun hn => absurd (by decide) hn)
            refine az_E.sn 1 (pc' := 20) (L' := [.ref 3, .int a1, .int a2, .retAddr 0, .retAddr 0, .retAddr 0]) (S' := [.int (-1 : Int32)]) (σ' := (97, I, J, R)) rfl ?_
            have h := Option.some.inj h
            subst h
            exact az_E.ret (v := some (.int (-1 : Int32))) (σ' := (97, I, J, R)) rfl (hQ _ hR_3_2 hR_3_3)
          · rw [if_neg hc_7] at h
            refine az_E.sn 2 (pc' := 7) (L' := [.int a2, .int (0 : Int32), .int (9999 : Int32)]) (S' := [.int (9999 : Int32), .int a2]) (σ' := (97, I, J, R)) rfl ?_
            refine az_E.br (c := (9999 : Int32) < a2) (tt := 14) (ff := 10) (L' := [.int a2, .int (0 : Int32), .int (9999 : Int32)]) (S' := []) (σ' := (97, I, J, R)) rfl (fun hc_8 => ?_) (fun hc_8 => ?_)
            · rw [if_pos hc_8] at h
              refine az_E.sn 1 (pc' := 15) (L' := [.int a2, .int (0 : Int32), .int (9999 : Int32)]) (S' := [.int (0 : Int32)]) (σ' := (97, I, J, R)) rfl ?_
              refine az_E.ret (v := some (.int (0 : Int32))) (σ' := (97, I, J, R)) rfl ?_
              show az_E az_F ex 6 103 16 [.ref 3, .int a1, .int a2, .retAddr 0, .retAddr 0, .retAddr 0] [.int (0 : Int32)] (97, I, J, R) _
              refine az_E.br (c := (0 : Int32) = 0) (tt := 19) (ff := 21) (L' := [.ref 3, .int a1, .int a2, .retAddr 0, .retAddr 0, .retAddr 0]) (S' := []) (σ' := (97, I, J, R)) rfl (fun _ => ?_) (fun hn => absurd (by decide) hn)
              refine az_E.sn 1 (pc' := 20) (L' := [.ref 3, .int a1, .int a2, .retAddr 0, .retAddr 0, .retAddr 0]) (S' := [.int (-1 : Int32)]) (σ' := (97, I, J, R)) rfl ?_
              have h := Option.some.inj h
              subst h
              exact az_E.ret (v := some (.int (-1 : Int32))) (σ' := (97, I, J, R)) rfl (hQ _ hR_3_2 hR_3_3)
            · rw [if_neg hc_8] at h
              refine az_E.sn 2 (pc' := 15) (L' := [.int a2, .int (0 : Int32), .int (9999 : Int32)]) (S' := [.int (1 : Int32)]) (σ' := (97, I, J, R)) rfl ?_
              refine az_E.ret (v := some (.int (1 : Int32))) (σ' := (97, I, J, R)) rfl ?_
              show az_E az_F ex 6 103 16 [.ref 3, .int a1, .int a2, .retAddr 0, .retAddr 0, .retAddr 0] [.int (1 : Int32)] (97, I, J, R) _
              refine az_E.br (c := (1 : Int32) = 0) (tt := 19) (ff := 21) (L' := [.ref 3, .int a1, .int a2, .retAddr 0, .retAddr 0, .retAddr 0]) (S' := []) (σ' := (97, I, J, R)) rfl (fun hn => absurd hn (by decide)) (fun _ => ?_)
              refine az_E.sn 3 (pc' := 25) (L' := [.ref 3, .int a1, .int a2, .retAddr 0, .retAddr 0, .retAddr 0]) (S' := [.int (10 : Int32), .int a1, .ref 3]) (σ' := (97, I, J, R)) rfl ?_
              have hd_9 : ¬ ((10 : Int32) = 0) := by decide
              refine az_E.dv (c := (10 : Int32) = 0) (pc' := 26) (L' := [.ref 3, .int a1, .int a2, .retAddr 0, .retAddr 0, .retAddr 0]) (S' := [.int (a1 - a1 / (10 : Int32) * (10 : Int32)), .ref 3]) (σ' := (97, I, J, R)) rfl hd_9 ?_
              cases hx_11 : rs_X_setPace 21 I (a1 - a1 / (10 : Int32) * (10 : Int32)) with
              | none => rw [hx_11] at h; cases h
              | some I_10 =>
                rw [hx_11] at h
                dsimp only at h
                refine az_E.call (d := 5) (k' := 144) (vs := [.ref 3, .int (a1 - a1 / (10 : Int32) * (10 : Int32))]) (pc' := 29) (S' := []) (Q1 := fun v s => v = none ∧ s = (97, I_10, J, (az_u (az_u R 26 2 (some 21)) 26 3 (some 5)))) rfl (az_E.deep (by omega) (re_X_setPace_21 (J := J) (R := R) hR_3_2 hx_11 ⟨rfl, rfl⟩)) (fun v s hq => ?_)
                obtain ⟨rfl, rfl⟩ := hq
                show az_E az_F ex 6 103 29 [.ref 3, .int a1, .int a2, .retAddr 0, .retAddr 0, .retAddr 0] [] (97, I_10, J, (az_u (az_u R 26 2 (some 21)) 26 3 (some 5))) _
                refine az_E.sn 4 (pc' := 35) (L' := [.ref 3, .int a1, .int a2, .int (0 : Int32), .int (-9 : Int32), .retAddr 0]) (S' := []) (σ' := (97, I_10, J, (az_u (az_u R 26 2 (some 21)) 26 3 (some 5)))) rfl ?_
                exact az_E.forget (L := [.ref 3, .int a1, .int a2, .int (0 : Int32), .int (-9 : Int32), .retAddr 0]) ⟨rfl, rfl, rfl, rfl, rfl, trivial, trivial⟩ (re_X_pairs_35_21_16 (I := I_10) (J := J) (R := R) hR_3_2 hR_3_3 h hQ)
